noncomputable section
/-! The clean machine: references are pairs (kind, number); a kind tells the class, or the site at which a list or an array is made. -/
abbrev am_R : Type := Nat × Nat
/-- values: int, reference or null, long, float, double -/
abbrev am_V : Type := Int32 ⊕ (Option am_R ⊕ (Int64 ⊕ (UInt32 ⊕ UInt64)))
abbrev aI (x : Int32) : am_V := .inl x
abbrev aO (o : Option am_R) : am_V := .inr (.inl o)
abbrev aR (t k : Nat) : am_V := .inr (.inl (some (t, k)))
abbrev aN : am_V := .inr (.inl none)
abbrev aJ (x : Int64) : am_V := .inr (.inr (.inl x))
abbrev aF (x : UInt32) : am_V := .inr (.inr (.inr (.inl x)))
abbrev aD (x : UInt64) : am_V := .inr (.inr (.inr (.inr x)))
/-- the heap: int fields, reference fields, ints of arrays, references of arrays, longs and doubles of arrays, lengths, how many of each kind, cells, slots -/
abbrev am_H : Type := (Nat → am_R → Int32) × (Nat → am_R → Option am_R) × (am_R → Nat → Int32) × (am_R → Nat → Option am_R) × (am_R → Nat → Int64) × (am_R → Nat → UInt64) × (am_R → Nat) × (Nat → Nat) × Nat × Nat
def hFI (h : am_H) : Nat → am_R → Int32 := h.1
def hFR (h : am_H) : Nat → am_R → Option am_R := h.2.1
def hAI (h : am_H) : am_R → Nat → Int32 := h.2.2.1
def hAR (h : am_H) : am_R → Nat → Option am_R := h.2.2.2.1
def hAJ (h : am_H) : am_R → Nat → Int64 := h.2.2.2.2.1
def hAD (h : am_H) : am_R → Nat → UInt64 := h.2.2.2.2.2.1
def hAL (h : am_H) : am_R → Nat := h.2.2.2.2.2.2.1
def hCN (h : am_H) : Nat → Nat := h.2.2.2.2.2.2.2.1
def hCE (h : am_H) : Nat := h.2.2.2.2.2.2.2.2.1
def hSL (h : am_H) : Nat := h.2.2.2.2.2.2.2.2.2
def am_u2 {α β γ : Type} [DecidableEq α] [DecidableEq β] (f : α → β → γ) (a : α) (b : β) (v : γ) : α → β → γ := fun x y => if x = a ∧ y = b then v else f x y
def am_u1 {α γ : Type} [DecidableEq α] (f : α → γ) (a : α) (v : γ) : α → γ := fun x => if x = a then v else f x
def sFI (h : am_H) (f : Nat) (r : am_R) (v : Int32) : am_H := (am_u2 (hFI h) f r v, h.2)
def sFR (h : am_H) (f : Nat) (r : am_R) (v : Option am_R) : am_H := (hFI h, am_u2 (hFR h) f r v, h.2.2)
def sAI (h : am_H) (r : am_R) (k : Nat) (v : Int32) : am_H := (hFI h, hFR h, am_u2 (hAI h) r k v, h.2.2.2)
def sAR (h : am_H) (r : am_R) (k : Nat) (v : Option am_R) : am_H := (hFI h, hFR h, hAI h, am_u2 (hAR h) r k v, h.2.2.2.2)
def sAJ (h : am_H) (r : am_R) (k : Nat) (v : Int64) : am_H := (hFI h, hFR h, hAI h, hAR h, am_u2 (hAJ h) r k v, h.2.2.2.2.2)
def sAD (h : am_H) (r : am_R) (k : Nat) (v : UInt64) : am_H := (hFI h, hFR h, hAI h, hAR h, hAJ h, am_u2 (hAD h) r k v, h.2.2.2.2.2.2)
/-- the next of a kind -/
abbrev hNX (h : am_H) (t : Nat) : am_R := (t, hCN h t)
/-- a new object of a kind, of n slots, all its fields as they are at first -/
def hNO (h : am_H) (t n : Nat) : am_H := (fun f r => if r = hNX h t then 0 else hFI h f r, fun f r => if r = hNX h t then none else hFR h f r, hAI h, hAR h, hAJ h, hAD h, hAL h, am_u1 (hCN h) t (hCN h t + 1), hCE h + 1, hSL h + n)
/-- a new array of a kind, of n elements -/
def hNA (h : am_H) (t n : Nat) : am_H := (hFI h, hFR h, fun r => if r = hNX h t then (fun _ => 0) else hAI h r, fun r => if r = hNX h t then (fun _ => none) else hAR h r, fun r => if r = hNX h t then (fun _ => 0) else hAJ h r, fun r => if r = hNX h t then (fun _ => 0) else hAD h r, am_u1 (hAL h) (hNX h t) n, am_u1 (hCN h) t (hCN h t + 1), hCE h + 1, hSL h + n)
/-- System.arraycopy of references -/
def hCP (h : am_H) (r q : am_R) (sp dp n : Nat) : am_H := (hFI h, hFR h, hAI h, fun x => if x = q then (fun j => if dp ≤ j ∧ j < dp + n then hAR h r (sp + (j - dp)) else hAR h q j) else hAR h x, h.2.2.2.2)
/-- Arrays.copyOf of references: a new array of n, with what the old one has -/
def hCO (h : am_H) (r : am_R) (n : Nat) : am_H := hCP (hNA h 30 n) r (hNX h 30) 0 0 (min (hAL h r) n)
/-- the classes of all kinds of objects: those of am_cls, and the exceptions -/
abbrev am_cl14 : List vw_C := am_cls ++ [("java/lang/IndexOutOfBoundsException", TX0, 0), ("java/lang/IllegalArgumentException", TX0, 0), ("java/lang/IllegalStateException", TX0, 0)]
/-- the class of a kind of objects: its place in am_cl14; what is made for a final field f of an object has the kind 1000 + f -/
def am_kc : Nat → Option Nat := am_nd 15 (am_nd 5 (am_nd 2 (am_nd 0 (am_lf 0 0) (am_nd 1 (am_lf 1 1) (am_lf 2 2))) (am_nd 3 (am_lf 3 3) (am_nd 4 (am_lf 4 4) (am_lf 5 5)))) (am_nd 8 (am_nd 6 (am_lf 6 6) (am_nd 7 (am_lf 7 7) (am_lf 8 8))) (am_nd 13 (am_nd 9 (am_lf 9 9) (am_lf 13 11)) (am_nd 14 (am_lf 14 12) (am_lf 15 13))))) (am_nd 1702 (am_nd 1603 (am_nd 1003 (am_lf 1003 10) (am_nd 1601 (am_lf 1601 10) (am_lf 1603 10))) (am_nd 1605 (am_lf 1605 10) (am_nd 1606 (am_lf 1606 10) (am_lf 1702 10)))) (am_nd 1804 (am_nd 1802 (am_lf 1802 10) (am_nd 1803 (am_lf 1803 10) (am_lf 1804 10))) (am_nd 1807 (am_nd 1806 (am_lf 1806 10) (am_lf 1807 10)) (am_nd 1808 (am_lf 1808 10) (am_lf 1809 10)))))
/-- the arrays of a kind: am_ty's number -/
def am_ka : Nat → Option Nat := am_nd 1407 (am_nd 31 (am_nd 24 (am_lf 24 0) (am_nd 30 (am_lf 30 4) (am_lf 31 0))) (am_nd 1004 (am_nd 32 (am_lf 32 4) (am_lf 1004 0)) (am_nd 1005 (am_lf 1005 0) (am_lf 1407 0)))) (am_nd 1604 (am_nd 1600 (am_nd 1408 (am_lf 1408 5) (am_lf 1600 0)) (am_nd 1602 (am_lf 1602 0) (am_lf 1604 0))) (am_nd 1801 (am_nd 1800 (am_lf 1800 0) (am_lf 1801 0)) (am_nd 1811 (am_lf 1811 0) (am_lf 1812 0))))
/-- the kind of what is made at a site -/
def am_nkt : Nat → Option Nat := am_nd 330060 (am_nd 330007 (am_nd 24 (am_nd 5 (am_lf 5 1003) (am_nd 17 (am_lf 17 1004) (am_lf 24 1005))) (am_nd 230006 (am_lf 230006 1407) (am_nd 230014 (am_lf 230014 1408) (am_lf 330007 1600)))) (am_nd 330031 (am_nd 330013 (am_lf 330013 1601) (am_nd 330025 (am_lf 330025 1602) (am_lf 330031 1603))) (am_nd 330043 (am_lf 330043 1604) (am_nd 330049 (am_lf 330049 1605) (am_lf 330060 1606))))) (am_nd 510043 (am_nd 510015 (am_nd 490005 (am_lf 490005 1702) (am_nd 510007 (am_lf 510007 1800) (am_lf 510015 1801))) (am_nd 510021 (am_lf 510021 1802) (am_nd 510032 (am_lf 510032 1803) (am_lf 510043 1804)))) (am_nd 510087 (am_nd 510065 (am_lf 510065 1806) (am_nd 510076 (am_lf 510076 1807) (am_lf 510087 1808))) (am_nd 510098 (am_lf 510098 1809) (am_nd 510121 (am_lf 510121 1811) (am_lf 510129 1812)))))
def am_nk (y pc d : Nat) : Nat := match am_nkt (10000 * y + pc) with | some t => t | none => d
def am_at (a : ArrayType) : Option Nat := match a with | .int => some 0 | _ => none
/-- which fields hold references (100 * class + place) -/
def am_frt : Nat → Option Unit := am_nd 803 (am_nd 600 (am_nd 200 (am_nd 4 (am_nd 3 (am_lf 3 ()) (am_lf 4 ())) (am_nd 5 (am_lf 5 ()) (am_nd 100 (am_lf 100 ()) (am_lf 200 ())))) (am_nd 408 (am_nd 201 (am_lf 201 ()) (am_nd 407 (am_lf 407 ()) (am_lf 408 ()))) (am_nd 411 (am_lf 411 ()) (am_nd 500 (am_lf 500 ()) (am_lf 600 ()))))) (am_nd 605 (am_nd 602 (am_nd 601 (am_lf 601 ()) (am_lf 602 ())) (am_nd 603 (am_lf 603 ()) (am_nd 604 (am_lf 604 ()) (am_lf 605 ())))) (am_nd 800 (am_nd 606 (am_lf 606 ()) (am_nd 702 (am_lf 702 ()) (am_lf 800 ()))) (am_nd 801 (am_lf 801 ()) (am_nd 802 (am_lf 802 ()) (am_lf 803 ())))))) (am_nd 901 (am_nd 808 (am_nd 805 (am_nd 804 (am_lf 804 ()) (am_lf 805 ())) (am_nd 806 (am_lf 806 ()) (am_nd 807 (am_lf 807 ()) (am_lf 808 ())))) (am_nd 811 (am_nd 809 (am_lf 809 ()) (am_nd 810 (am_lf 810 ()) (am_lf 811 ()))) (am_nd 812 (am_lf 812 ()) (am_nd 900 (am_lf 900 ()) (am_lf 901 ()))))) (am_nd 907 (am_nd 904 (am_nd 902 (am_lf 902 ()) (am_nd 903 (am_lf 903 ()) (am_lf 904 ()))) (am_nd 905 (am_lf 905 ()) (am_nd 906 (am_lf 906 ()) (am_lf 907 ())))) (am_nd 910 (am_nd 908 (am_lf 908 ()) (am_nd 909 (am_lf 909 ()) (am_lf 910 ()))) (am_nd 911 (am_lf 911 ()) (am_nd 912 (am_lf 912 ()) (am_lf 1001 ()))))))
def am_fr (f : Nat) : Bool := (am_frt f).isSome
/-- which are final -/
def am_fft : Nat → Option Unit := am_nd 602 (am_nd 305 (am_nd 100 (am_nd 2 (am_nd 0 (am_lf 0 ()) (am_nd 1 (am_lf 1 ()) (am_lf 2 ()))) (am_nd 4 (am_nd 3 (am_lf 3 ()) (am_lf 4 ())) (am_nd 5 (am_lf 5 ()) (am_lf 100 ())))) (am_nd 301 (am_nd 102 (am_nd 101 (am_lf 101 ()) (am_lf 102 ())) (am_nd 300 (am_lf 300 ()) (am_lf 301 ()))) (am_nd 303 (am_nd 302 (am_lf 302 ()) (am_lf 303 ())) (am_nd 304 (am_lf 304 ()) (am_lf 305 ()))))) (am_nd 406 (am_nd 402 (am_nd 400 (am_lf 400 ()) (am_nd 401 (am_lf 401 ()) (am_lf 402 ()))) (am_nd 404 (am_nd 403 (am_lf 403 ()) (am_lf 404 ())) (am_nd 405 (am_lf 405 ()) (am_lf 406 ())))) (am_nd 501 (am_nd 408 (am_nd 407 (am_lf 407 ()) (am_lf 408 ())) (am_nd 500 (am_lf 500 ()) (am_lf 501 ()))) (am_nd 600 (am_nd 502 (am_lf 502 ()) (am_lf 600 ())) (am_nd 601 (am_lf 601 ()) (am_lf 602 ())))))) (am_nd 809 (am_nd 801 (am_nd 700 (am_nd 603 (am_lf 603 ()) (am_nd 604 (am_lf 604 ()) (am_lf 700 ()))) (am_nd 702 (am_nd 701 (am_lf 701 ()) (am_lf 702 ())) (am_nd 800 (am_lf 800 ()) (am_lf 801 ())))) (am_nd 805 (am_nd 803 (am_nd 802 (am_lf 802 ()) (am_lf 803 ())) (am_nd 804 (am_lf 804 ()) (am_lf 805 ()))) (am_nd 807 (am_nd 806 (am_lf 806 ()) (am_lf 807 ())) (am_nd 808 (am_lf 808 ()) (am_lf 809 ()))))) (am_nd 904 (am_nd 900 (am_nd 811 (am_nd 810 (am_lf 810 ()) (am_lf 811 ())) (am_nd 812 (am_lf 812 ()) (am_lf 900 ()))) (am_nd 902 (am_nd 901 (am_lf 901 ()) (am_lf 902 ())) (am_nd 903 (am_lf 903 ()) (am_lf 904 ())))) (am_nd 908 (am_nd 906 (am_nd 905 (am_lf 905 ()) (am_lf 906 ())) (am_nd 907 (am_lf 907 ()) (am_lf 908 ()))) (am_nd 910 (am_nd 909 (am_lf 909 ()) (am_lf 910 ())) (am_nd 911 (am_lf 911 ()) (am_lf 912 ()))))))
def am_ff (f : Nat) : Bool := (am_fft f).isSome
/-- which are boolean -/
def am_fbt : Nat → Option Unit := am_nd 309 (am_nd 8 (am_lf 8 ()) (am_nd 106 (am_lf 106 ()) (am_lf 309 ()))) (am_nd 410 (am_nd 311 (am_lf 311 ()) (am_lf 410 ())) (am_nd 412 (am_lf 412 ()) (am_lf 506 ())))
def am_fb (f : Nat) : Bool := (am_fbt f).isSome
def am_ow (y : Nat) : Nat := match am_mt y with | some v => v.2.2.2.2.1 | none => 11
def am_rt (y : Nat) : Option FieldType := match am_mt y with | some v => v.2.2.2.1 | none => some .boolean
def am_hh (y : Nat) : List (Nat × Nat × Nat × Nat) := match am_mt y with | some v => v.2.2.2.2.2.1 | none => []
def am_ml (y : Nat) : Nat := match am_mt y with | some v => v.2.2.1 | none => 20
/-- whether it is a constructor -/
def am_ii (y : Nat) : Bool := match am_mt y with | some v => decide (v.1.name = "<init>") | none => false
abbrev am_K (y i : Nat) : Nat := 10000 * am_ow y + i
/-- throw new: by the entry of 'new' the kind and the entry of the constructor -/
def am_xn (k : Nat) : Option (Nat × Nat) := match k with | 80365 => some (13, 367) | 80368 => some (14, 370) | 80371 => some (15, 373) | _ => none
/-- the kind that a row of a table of exceptions takes -/
def am_xk (c : Nat) : Option Nat := match c with | 111 => some 13 | 114 => some 14 | 117 => some 15 | _ => none
def am_hnd (hh : List (Nat × Nat × Nat × Nat)) (pc t : Nat) : Option Nat := match hh with
  | [] => none
  | (a, b, hp, c) :: r => if a ≤ pc ∧ pc < b ∧ am_xk c = some t then some hp else am_hnd r pc t
/-- how a method ends: with an answer or none, or with an exception of a kind -/
abbrev am_O : Type := Option am_V ⊕ Nat
abbrev am_S : Type := (Nat × List (Option am_V) × List am_V × am_H) ⊕ ((Nat × List am_V × Nat × List am_V) ⊕ (am_O × am_H))
def am_nx (pc : Nat) (ls : List (Option am_V)) (st : List am_V) (h : am_H) : Option am_S := some (.inl (pc, ls, st, h))
def am_cat (v : am_V) : Nat := match v with | .inl _ => 1 | .inr (.inl _) => 1 | .inr (.inr (.inl _)) => 2 | .inr (.inr (.inr (.inl _))) => 1 | .inr (.inr (.inr (.inr _))) => 2
def am_sum (st : List am_V) : Nat := match st with | [] => 0 | v :: r => am_cat v + am_sum r
/-- an index in an array of n -/
def am_ix (i : Int32) (n : Nat) : Option Nat := if 0 ≤ i.toInt ∧ i.toInt < (n : Int) then some i.toInt.toNat else none
def am_tg (pc : Nat) (off : Int) : Option Nat := if 0 ≤ (pc : Int) + off then some ((pc : Int) + off).toNat else none
def am_jp (pc : Nat) (off : Int) (ls : List (Option am_V)) (st : List am_V) (h : am_H) : Option am_S := match am_tg pc off with | some t => am_nx t ls st h | none => none
def am_br (b : Prop) [Decidable b] (pc n : Nat) (off : Int) (ls : List (Option am_V)) (st : List am_V) (h : am_H) : Option am_S := match am_tg pc off with | some t => if b then am_nx t ls st h else am_nx (pc + n) ls st h | none => none
def am_ld (k : Nat) (pc n : Nat) (ls : List (Option am_V)) (st : List am_V) (h : am_H) (c : am_V → Bool) : Option am_S := match ls[k]? with | some (some v) => if c v = true then am_nx (pc + n) ls (v :: st) h else none | _ => none
def am_isI (v : am_V) : Bool := match v with | .inl _ => true | _ => false
def am_isO (v : am_V) : Bool := match v with | .inr (.inl _) => true | _ => false
def am_isF (v : am_V) : Bool := match v with | .inr (.inr (.inr (.inl _))) => true | _ => false
def am_sv (k : Nat) (pc n : Nat) (ls : List (Option am_V)) (st : List am_V) (h : am_H) (c : am_V → Bool) : Option am_S := match st with | v :: r => if c v = true ∧ k < ls.length then am_nx (pc + n) (ls.set k (some v)) r h else none | [] => none
def am_i1 (st : List am_V) (f : Int32 → List am_V → Option am_S) : Option am_S := match st with | .inl x :: r => f x r | _ => none
def am_j1 (st : List am_V) (f : Int64 → List am_V → Option am_S) : Option am_S := match st with | .inr (.inr (.inl x)) :: r => f x r | _ => none
def am_d1 (st : List am_V) (f : UInt64 → List am_V → Option am_S) : Option am_S := match st with | .inr (.inr (.inr (.inr x))) :: r => f x r | _ => none
def am_i2 (st : List am_V) (f : Int32 → Int32 → List am_V → Option am_S) : Option am_S := match st with | .inl y :: .inl x :: r => f x y r | _ => none
def am_r1 (st : List am_V) (f : Nat → Nat → List am_V → Option am_S) : Option am_S := match st with | .inr (.inl (some (t, k))) :: r => f t k r | _ => none
/-- an int and below it a reference (an array's load) -/
def am_ir (st : List am_V) (f : Int32 → Nat → Nat → List am_V → Option am_S) : Option am_S := match st with | .inl i :: .inr (.inl (some (t, k))) :: r => f i t k r | _ => none
/-- the call of a method: na arguments, a receiver or none -/
def am_cs (y' na pc : Nat) (recv : Bool) (st : List am_V) : Option am_S :=
  if na ≤ st.length ∧ am_sum (st.take na) = na then (match recv with
    | false => if am_sum (st.drop na) ≤ 8 then some (.inr (.inl (y', (st.take na).reverse, pc, st.drop na))) else none
    | true => match st.drop na with
      | .inr (.inl (some (t, k))) :: r => if (am_kc t = some (am_ow y') ∨ (11 < am_ow y' ∧ am_kc t = some 10)) ∧ am_sum r ≤ 8 then some (.inr (.inl (y', .inr (.inl (some (t, k))) :: (st.take na).reverse, pc, r))) else none
      | _ => none)
  else none
def am_fin (o : am_O) (h : am_H) : Option am_S := some (.inr (.inr (o, h)))
def am_sw (pc : Nat) (x : Int32) (d lo hi : Int) (offs : Array Int) (ls : List (Option am_V)) (st : List am_V) (h : am_H) : Option am_S :=
  if x.toInt < lo ∨ hi < x.toInt then am_jp pc d ls st h else match offs[(x.toInt - lo).toNat]? with | some off => am_jp pc off ls st h | none => none
/-- the script: an int array that nobody writes, of kind 31 -/
def am_do (y pc n : Nat) (ls : List (Option am_V)) (st : List am_V) (h : am_H) (i : Instr) : Option am_S := match i with
  | .iconst k => am_nx (pc + n) ls (aI (Int32.ofInt k) :: st) h
  | .bipush k => am_nx (pc + n) ls (aI (Int8.ofInt k).toInt32 :: st) h
  | .sipush k => am_nx (pc + n) ls (aI (Int16.ofInt k).toInt32 :: st) h
  | .lconst k => am_nx (pc + n) ls (aJ (Int64.ofNat (k : Nat)) :: st) h
  | .fconst k => if k = 0 then am_nx (pc + n) ls (aF FP.fconst0 :: st) h else none
  | .aconst_null => am_nx (pc + n) ls (aN :: st) h
  | .iload k => am_ld k pc n ls st h am_isI
  | .iload_n k => am_ld k pc n ls st h am_isI
  | .aload k => am_ld k pc n ls st h am_isO
  | .aload_n k => am_ld k pc n ls st h am_isO
  | .fload k => am_ld k pc n ls st h am_isF
  | .istore k => am_sv k pc n ls st h am_isI
  | .istore_n k => am_sv k pc n ls st h am_isI
  | .astore k => am_sv k pc n ls st h am_isO
  | .astore_n k => am_sv k pc n ls st h am_isO
  | .fstore k => am_sv k pc n ls st h am_isF
  | .iinc k c => (match ls[k]? with | some (some (.inl x)) => am_nx (pc + n) (ls.set k (some (.inl (x + Int32.ofInt c)))) st h | _ => none)
  | .iadd => am_i2 st fun a b r => am_nx (pc + n) ls (aI (a + b) :: r) h
  | .isub => am_i2 st fun a b r => am_nx (pc + n) ls (aI (a - b) :: r) h
  | .imul => am_i2 st fun a b r => am_nx (pc + n) ls (aI (a * b) :: r) h
  | .idiv => am_i2 st fun a b r => if b = 0 then none else am_nx (pc + n) ls (aI (a / b) :: r) h
  | .irem => am_i2 st fun a b r => if b = 0 then none else am_nx (pc + n) ls (aI (a - a / b * b) :: r) h
  | .iand => am_i2 st fun a b r => am_nx (pc + n) ls (aI (a &&& b) :: r) h
  | .ixor => am_i2 st fun a b r => am_nx (pc + n) ls (aI (a ^^^ b) :: r) h
  | .ishr => am_i2 st fun a b r => am_nx (pc + n) ls (aI (a >>> (b &&& 31)) :: r) h
  | .i2l => am_i1 st fun a r => am_nx (pc + n) ls (aJ a.toInt64 :: r) h
  | .i2f => am_i1 st fun a r => am_nx (pc + n) ls (aF (FP.i2f a) :: r) h
  | .lcmp => (match st with | .inr (.inr (.inl b)) :: .inr (.inr (.inl a)) :: r => am_nx (pc + n) ls (aI (lg_cmp a b) :: r) h | _ => none)
  | .fdiv => (match st with | .inr (.inr (.inr (.inl b))) :: .inr (.inr (.inr (.inl a))) :: r => if FP.fdiv a b &&& 0x7fffffff ≤ 0x7f800000 then am_nx (pc + n) ls (aF (FP.fdiv a b) :: r) h else none | _ => none)
  | .f2d => (match st with | .inr (.inr (.inr (.inl a))) :: r => if FP.f2d a &&& 0x7fffffffffffffff ≤ 0x7ff0000000000000 then am_nx (pc + n) ls (aD (FP.f2d a) :: r) h else none | _ => none)
  | .dcmp op => (match st with | .inr (.inr (.inr (.inr b))) :: .inr (.inr (.inr (.inr a))) :: r => am_nx (pc + n) ls (aI (Op.cmpValue (FP.dcmp a b) op) :: r) h | _ => none)
  | .fcmp op => (match st with | .inr (.inr (.inr (.inl b))) :: .inr (.inr (.inr (.inl a))) :: r => am_nx (pc + n) ls (aI (Op.cmpValue (FP.fcmp a b) op) :: r) h | _ => none)
  | .dup => (match st with | v :: r => if am_cat v = 1 then am_nx (pc + n) ls (v :: v :: r) h else none | [] => none)
  | .pop => (match st with | v :: r => if am_cat v = 1 then am_nx (pc + n) ls r h else none | [] => none)
  | .dup_x1 => (match st with | v :: w :: r => if am_cat v = 1 ∧ am_cat w = 1 then am_nx (pc + n) ls (v :: w :: v :: r) h else none | _ => none)
  | .dup2 => (match st with | v :: w :: r => if am_cat v = 1 ∧ am_cat w = 1 then am_nx (pc + n) ls (v :: w :: v :: w :: r) h else none | _ => none)
  | .goto off => am_jp pc off ls st h
  | .ifCond c off => am_i1 st fun a r => (match c with
    | .eq => am_br (a = 0) pc n off ls r h
    | .ne => am_br (¬ a = 0) pc n off ls r h
    | .lt => am_br (a < 0) pc n off ls r h
    | .ge => am_br (0 ≤ a) pc n off ls r h
    | .gt => am_br (0 < a) pc n off ls r h
    | .le => am_br (a ≤ 0) pc n off ls r h)
  | .if_icmp c off => am_i2 st fun a b r => (match c with
    | .eq => am_br (a = b) pc n off ls r h
    | .ne => am_br (¬ a = b) pc n off ls r h
    | .lt => am_br (a < b) pc n off ls r h
    | .ge => am_br (b ≤ a) pc n off ls r h
    | .gt => am_br (b < a) pc n off ls r h
    | .le => am_br (a ≤ b) pc n off ls r h)
  | .if_acmp c off => (match st with
    | .inr (.inl b) :: .inr (.inl a) :: r => (match c with
      | .eq => am_br (a = b) pc n off ls r h
      | .ne => am_br (¬ a = b) pc n off ls r h)
    | _ => none)
  | .ifnull off => (match st with | .inr (.inl none) :: r => am_jp pc off ls r h | .inr (.inl (some _)) :: r => am_nx (pc + n) ls r h | _ => none)
  | .ifnonnull off => (match st with | .inr (.inl none) :: r => am_nx (pc + n) ls r h | .inr (.inl (some _)) :: r => am_jp pc off ls r h | _ => none)
  | .tableswitch d lo hi offs => am_i1 st fun a r => am_sw pc a d lo hi offs ls r h
  | .ldc k => (match am_kt (am_K y k) with | some v => am_nx (pc + n) ls (aI v :: st) h | none => none)
  | .ldc_w k => (match am_kt (am_K y k) with | some v => am_nx (pc + n) ls (aI v :: st) h | none => none)
  | .getstatic k => if am_K y k = 100039 then am_nx (pc + n) ls (aR 32 0 :: st) h else none
  | .getfield k => (match am_fl (am_K y k) with
    | some (ci, j) => am_r1 st fun t q r => if am_kc t = some ci then am_nx (pc + n) ls ((if am_fr (100 * ci + j) = true then aO (hFR h (100 * ci + j) (t, q)) else aI (hFI h (100 * ci + j) (t, q))) :: r) h else none
    | none => none)
  | .putfield k => (match am_fl (am_K y k) with
    | some (ci, j) => (match st with
      | .inl v :: .inr (.inl (some (t, q))) :: r => if am_kc t = some ci ∧ am_fr (100 * ci + j) = false ∧ (am_ff (100 * ci + j) = false ∨ (am_ii y = true ∧ am_ow y = ci)) ∧ (am_fb (100 * ci + j) = false ∨ v = 0 ∨ v = 1) then am_nx (pc + n) ls r (sFI h (100 * ci + j) (t, q) v) else none
      | .inr (.inl v) :: .inr (.inl (some (t, q))) :: r => if am_kc t = some ci ∧ am_fr (100 * ci + j) = true ∧ (am_ff (100 * ci + j) = false ∨ (am_ii y = true ∧ am_ow y = ci)) then am_nx (pc + n) ls r (sFR h (100 * ci + j) (t, q) v) else none
      | _ => none)
    | none => none)
  | .arraylength => am_r1 st fun t q r => if (am_ka t).isSome = true then am_nx (pc + n) ls (aI (Int32.ofNat (hAL h (t, q))) :: r) h else none
  | .iaload => am_ir st fun i t q r => if am_ka t = some 0 then (match am_ix i (hAL h (t, q)) with | some k => am_nx (pc + n) ls (aI (hAI h (t, q) k) :: r) h | none => none) else none
  | .baload => am_ir st fun i t q r => if am_ka t = some 1 then (match am_ix i (hAL h (t, q)) with | some k => am_nx (pc + n) ls (aI (hAI h (t, q) k) :: r) h | none => none) else none
  | .laload => am_ir st fun i t q r => if am_ka t = some 2 then (match am_ix i (hAL h (t, q)) with | some k => am_nx (pc + n) ls (aJ (hAJ h (t, q) k) :: r) h | none => none) else none
  | .daload => am_ir st fun i t q r => if am_ka t = some 3 then (match am_ix i (hAL h (t, q)) with | some k => am_nx (pc + n) ls (aD (hAD h (t, q) k) :: r) h | none => none) else none
  | .aaload => am_ir st fun i t q r => if am_ka t = some 4 ∨ am_ka t = some 5 ∨ am_ka t = some 6 then (match am_ix i (hAL h (t, q)) with | some k => am_nx (pc + n) ls (aO (hAR h (t, q) k) :: r) h | none => none) else none
  | .iastore => am_i1 st fun v rs => am_ir rs fun i t q r => if am_ka t = some 0 ∧ ¬ t = 31 then (match am_ix i (hAL h (t, q)) with | some k => am_nx (pc + n) ls r (sAI h (t, q) k v) | none => none) else none
  | .bastore => am_i1 st fun v rs => am_ir rs fun i t q r => if am_ka t = some 1 ∧ (v = 0 ∨ v = 1) then (match am_ix i (hAL h (t, q)) with | some k => am_nx (pc + n) ls r (sAI h (t, q) k v) | none => none) else none
  | .lastore => am_j1 st fun v rs => am_ir rs fun i t q r => if am_ka t = some 2 then (match am_ix i (hAL h (t, q)) with | some k => am_nx (pc + n) ls r (sAJ h (t, q) k v) | none => none) else none
  | .dastore => am_d1 st fun v rs => am_ir rs fun i t q r => if am_ka t = some 3 then (match am_ix i (hAL h (t, q)) with | some k => am_nx (pc + n) ls r (sAD h (t, q) k v) | none => none) else none
  | .aastore => (match st with
    | .inr (.inl none) :: rs => am_ir rs fun i t q r => if t = 1408 ∨ t = 30 then (match am_ix i (hAL h (t, q)) with | some k => am_nx (pc + n) ls r (sAR h (t, q) k none) | none => none) else none
    | .inr (.inl (some (t', q'))) :: rs => am_ir rs fun i t q r => if (t = 1408 ∧ t' = 5) ∨ (t = 30 ∧ (am_kc t').isSome = true ∧ t' < 10) then (match am_ix i (hAL h (t, q)) with | some k => am_nx (pc + n) ls r (sAR h (t, q) k (some (t', q'))) | none => none) else none
    | _ => none)
  | .new k => (match am_nw (am_K y k) with
    | some (ci, nf) => if am_kc (am_nk y pc ci) = some ci ∧ ci < 11 then am_nx (pc + n) ls (aR (am_nk y pc ci) (hCN h (am_nk y pc ci)) :: st) (hNO h (am_nk y pc ci) nf) else none
    | none => match am_xn (am_K y k) with
      | some (t, ic) => if am_cd y (pc + 3) = some (.dup, 1) ∧ am_cd y (pc + 4) = some (.invokespecial ic, 3) ∧ am_cd y (pc + 7) = some (.athrow, 1) ∧ am_hh y = [] ∧ am_sum st ≤ 8 then am_fin (.inr t) (hNO h t 6) else none
      | none => none)
  | .newarray a => (match am_at a with
    | some ty => am_i1 st fun i r => if am_ka (am_nk y pc (24 + ty)) = some ty ∧ ¬ am_nk y pc (24 + ty) = 31 ∧ ¬ am_nk y pc (24 + ty) = 32 ∧ 0 ≤ i.toInt ∧ i.toInt ≤ 1000 then am_nx (pc + n) ls (aR (am_nk y pc (24 + ty)) (hCN h (am_nk y pc (24 + ty))) :: r) (hNA h (am_nk y pc (24 + ty)) i.toInt.toNat) else none
    | none => none)
  | .anewarray k => (match am_an (am_K y k) with
    | some ty => am_i1 st fun i r => if am_ka (am_nk y pc (26 + ty)) = some ty ∧ ¬ am_nk y pc (26 + ty) = 31 ∧ ¬ am_nk y pc (26 + ty) = 32 ∧ 0 ≤ i.toInt ∧ i.toInt ≤ 1000 then am_nx (pc + n) ls (aR (am_nk y pc (26 + ty)) (hCN h (am_nk y pc (26 + ty))) :: r) (hNA h (am_nk y pc (26 + ty)) i.toInt.toNat) else none
    | none => none)
  | .checkcast k => (match am_cc (am_K y k) with
    | some ci => (match st with
      | .inr (.inl none) :: _ => am_nx (pc + n) ls st h
      | .inr (.inl (some (t, _))) :: _ => if am_kc t = some ci then am_nx (pc + n) ls st h else none
      | _ => none)
    | none => none)
  | .invokestatic k => (match am_cl (am_K y k) with
    | some (kd, y', na) => if kd = 0 ∨ kd = 10 then am_cs y' na (pc + n) false st else none
    | none => if am_K y k = 100112 then (match st with
        | .inl c :: .inl dp :: .inr (.inl (some (t', q'))) :: .inl sp :: .inr (.inl (some (t, q))) :: r =>
          if t = 30 ∧ t' = 30 ∧ 0 ≤ c.toInt ∧ 0 ≤ sp.toInt ∧ 0 ≤ dp.toInt ∧ sp.toInt + c.toInt ≤ (hAL h (t, q) : Int) ∧ dp.toInt + c.toInt ≤ (hAL h (t', q') : Int) ∧ am_sum r ≤ 8 then am_nx (pc + n) ls r (hCP h (t, q) (t', q') sp.toInt.toNat dp.toInt.toNat c.toInt.toNat) else none
        | _ => none)
      else if am_K y k = 100066 then (match st with
        | .inl c :: .inr (.inl (some (t, q))) :: r => if t = 30 ∧ 0 ≤ c.toInt ∧ c.toInt ≤ 1000 ∧ hAL h (t, q) ≤ 1000 ∧ am_sum r ≤ 8 then am_nx (pc + n) ls (aR 30 (hCN h 30) :: r) (hCO h (t, q) c.toInt.toNat) else none
        | _ => none)
      else none)
  | .invokevirtual k => (match am_cl (am_K y k) with
    | some (kd, y', na) => if kd = 1 then am_cs y' na (pc + n) true st else none
    | none => none)
  | .invokespecial k => (match am_cl (am_K y k) with
    | some (kd, y', na) => if kd = 2 ∨ kd = 12 then am_cs y' na (pc + n) true st else none
    | none => match am_oi (am_K y k) with
      | some _ => am_r1 st fun t _ r => if (am_kc t).isSome = true ∧ am_sum r ≤ 8 then am_nx (pc + n) ls r h else none
      | none => none)
  | .invokeinterface k _ => (match am_cl (am_K y k) with
    | some (kd, y', na) => if kd = 3 then am_cs y' na (pc + n) true st else none
    | none => none)
  | .return_ => if am_rt y = none ∧ st = [] then am_fin (.inl none) h else none
  | .ireturn => (match st with | [.inl v] => if am_rt y = some .int ∨ (am_rt y = some .boolean ∧ (v = 0 ∨ v = 1)) then am_fin (.inl (some (.inl v))) h else none | _ => none)
  | .freturn => (match st with | [.inr (.inr (.inr (.inl v)))] => if am_rt y = some .float then am_fin (.inl (some (aF v))) h else none | _ => none)
  | .areturn => (match st with
    | [.inr (.inl v)] => (match am_rt y with | some (.object _) => am_fin (.inl (some (aO v))) h | some (.array _) => am_fin (.inl (some (aO v))) h | _ => none)
    | _ => none)
  | _ => none
def am_step (y pc : Nat) (ls : List (Option am_V)) (st : List am_V) (h : am_H) : Option am_S := match am_cd y pc with
  | some (i, n) => am_do y pc n ls st h i
  | none => none
/-- the locals of a method at its start -/
def am_lo (n : Nat) (as : List am_V) : List (Option am_V) := as.map some ++ List.replicate (n - as.length) none
/-- a handler begins with the store of what was thrown, which nobody reads: the local, the next place -/
def am_hs (y hp : Nat) : Option (Nat × Nat) := match am_cd y hp with
  | some (.astore k, n) => some (k, hp + n)
  | some (.astore_n k, n) => some ((k : Nat), hp + n)
  | _ => none
/-- behind a call: the caller goes on, or takes the exception, or lets it pass -/
def am_run (d n : Nat) (y pc : Nat) (ls : List (Option am_V)) (st : List am_V) (h : am_H) : Option (am_O × am_H) := match n with
  | 0 => none
  | n + 1 => match am_step y pc ls st h with
    | none => none
    | some (.inl (pc', ls', st', h')) => am_run d n y pc' ls' st' h'
    | some (.inr (.inr r)) => some r
    | some (.inr (.inl (y', as, pc', rest))) => match d with
      | 0 => none
      | d' + 1 => match am_run d' n y' 0 (am_lo (am_ml y') as) [] h with
        | none => none
        | some (.inl none, h') => am_run (d' + 1) n y pc' ls rest h'
        | some (.inl (some v), h') => am_run (d' + 1) n y pc' ls (v :: rest) h'
        | some (.inr q, h') => match am_hnd (am_hh y) pc q with
          | some hp => match am_hs y hp with
            | some (k, p') => if k < ls.length then am_run (d' + 1) n y p' (ls.set k none) [] h' else none
            | none => none
          | none => match am_hh y with
            | [] => some (.inr q, h')
            | _ :: _ => none
end
