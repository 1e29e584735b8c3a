noncomputable section
def clQ : Nat → am_Z → Int → am_Z → Int → Prop
  | 0, _, _, _, _ => False
  | f + 1, s, n, s', n' => ((nwS s = -1 ∨ 40 ≤ rI s 44) ∧ s' = s ∧ n' = n) ∨ ((nwS s ≠ -1 ∧ rI s 44 < 40) ∧ ∃ s3, in_S s3 ∧ am_BR (jw s (nwS s)) s3 ∧ am_WQ s3 (bestW (jw s (nwS s)) (rA s 62 (nwS s))) ∧
      (((bestW (jw s (nwS s)) (rA s 62 (nwS s))).1 = -1 ∧ clQ f s3 n s' n') ∨ ((bestW (jw s (nwS s)) (rA s 62 (nwS s))).1 ≠ -1 ∧ clQ f (wA (bkT s3 (rA s 62 (nwS s)) (rA s 63 (nwS s)) 24) 66 (nwS s) (rI s 44)) (n + 1) s' n')))
end

