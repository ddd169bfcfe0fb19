theorem law_ok (l : Launch) (L : Nat) (xs : Nat → Int32) (hL : L ≤ 2560) : am_FQ l (L, xs) 145 2000 0 [some (.inr (.inr (some (99, 0)))), none, none, none] [] am_H0 am_fin := sorry
