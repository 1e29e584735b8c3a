noncomputable section
def tierS (s : am_Z) (m : Int) : Int := if m = -1 then 0 else min 3 (iDiv (rA s 69 m) 500)
abbrev waitP (s : am_Z) (w : Int) : Prop := rA s 66 w = -1 ∧ ¬ goneP s (rA s 65 (4 * w))
def kWished (s : am_Z) (w : Int) : Int := if 0 ≤ w ∧ w < rI s 61 then 0 else 1
def wishedS (s : am_Z) (w : Int) : Int := if rA s 66 w ≠ -1 then rA s 66 w else if waitP s w then -1 else -2
def kTicket (s : am_Z) (b : Int) : Int := if ¬ (0 ≤ b ∧ b < rI s 44) then 1 else if rA s 47 b = 0 then 0 else 2
def kCancel (s : am_Z) (b : Int) : Int := if ¬ (0 ≤ b ∧ b < rI s 44) then 1 else if 1 < rA s 47 b then 2 else 0
def kBooking (s : am_Z) (b : Int) : Int := if 0 ≤ b ∧ b < rI s 44 then 0 else 1
abbrev cpP (s : am_Z) (b c : Int) : Prop := (0 ≤ b ∧ b < rI s 44) ∧ 0 ≤ c ∧ c < rA s 52 b
def kCoupon (s : am_Z) (b c : Int) : Int := if cpP s b c then 0 else 1
abbrev chkP (s : am_Z) (b c : Int) : Prop := rA s 47 b = 1 ∧ rA s 55 (10 * b + c) = 0 ∧ freeP s (rA s 53 (10 * b + c)) ∧ dep s (rA s 53 (10 * b + c)) - rI s 0 ≤ 24
def kCheck (s : am_Z) (b c : Int) : Int := if ¬ cpP s b c then 1 else if chkP s b c then 0 else 2
def kPoints (m : Int) : Int := if 0 ≤ m ∧ m ≤ 4 then 0 else 1
def kOwed (a b : Int) : Int := if (0 ≤ a ∧ a ≤ 2) ∧ 0 ≤ b ∧ b ≤ 2 then 0 else 1
def kWish (s : am_Z) (n m : Int) : Int := if ¬ (-1 ≤ m ∧ m ≤ 4) then 1 else if ¬ (1 ≤ n ∧ n ≤ 9) then 2 else if rI s 33 = 0 ∨ rI s 61 = 20 then 3 else 0
def kPart (s : am_Z) (b n : Int) : Int := if ¬ (0 ≤ b ∧ b < rI s 44) then 1 else if ¬ (1 ≤ n ∧ n ≤ rA s 45 b - 1) then 2 else if 1 < rA s 47 b ∨ rI s 44 = 40 then 3 else 0
def cpyS (t : am_Z) (a b : Int) : am_Z := wA (wA (wA (wA (wA (wA t 53 b (rA t 53 a)) 54 b (rA t 54 a)) 55 b (rA t 55 a)) 56 b (rA t 56 a)) 57 b (rA t 57 a)) 58 b (rA t 58 a)
def prtF (b c : Int) (i : Nat) (t : am_Z) : am_Z := cpyS t (10 * b + i) (10 * c + i)
def prtG (b c : Int) (i : Nat) (t : am_Z) : am_Z := wA (wA t 59 (4 * c + i) (rA t 59 (4 * b + i))) 60 (4 * c + i) (rA t 60 (4 * b + i))
end

