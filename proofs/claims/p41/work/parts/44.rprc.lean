noncomputable section
/-- the best way of a journey -/
def bestW (s : am_Z) (n : Int) : am_wQ := if rI s 35 ≤ 0 then (-1, []) else (wSub s n 4 0 []).foldl (tk s) (-1, [])
def jrn (s : am_Z) : am_Z := wB (wI s 35 (rI s 33)) 36 0 (rI s 33).toNat (fun i => rA s 34 i)
def kMany (n : Int) : Int := if 1 ≤ n ∧ n ≤ 9 then 0 else 1
def kStr (s : am_Z) (n i : Int) : Int := if ¬ (1 ≤ n ∧ n ≤ 9) then 2 else if (bestW (jrn s) n).1 ≠ -1 ∧ 0 ≤ i ∧ i < (bestW (jrn s) n).2.length then 0 else 1
end

