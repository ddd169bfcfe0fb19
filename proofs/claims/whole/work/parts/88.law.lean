/-! ===== the pairs that are still open ===== -/
section OPN
variable {l : Launch}
end OPN
theorem RI_prs (l : Launch) : am_prs l RI := ⟨p_Doing, p_Facts, p_Effect, p_Tree, p_Node, p_Forget, p_Creature, p_Give, p_Ask, p_Ticks, p_World, p_Cell, p_Row, p_Has, p_Told, p_Asked, p_Plan, p_Count, p_All, p_Part⟩
theorem law_ok (l : Launch) (L : Nat) (xs : Nat → Int32) (hL : L ≤ 2560) : am_FQ l (L, xs) 145 2000 0 [some (.inr (.inr (some (99, 0)))), none, none, none] [] am_H0 am_fin := law_all RI_0 (RI_prs l) RI_s RI_b hL
