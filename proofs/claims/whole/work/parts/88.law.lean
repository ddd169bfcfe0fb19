/-! ===== the pairs that are still open ===== -/
section OPN
variable {l : Launch}
theorem p_Facts (a0 : Int32) (a1 : Int32) (a2 : Int32) (a3 : Int32) (hb : am_bool a1) : am_prI l RI 7 98 [.inl a0, .inl a1, .inl a2, .inl a3] := sorry
theorem p_Effect (a0 : Int32) (a1 : Int32) (a2 : Int32) (a3 : Int32) : am_prI l RI 13 101 [.inl a0, .inl a1, .inl a2, .inl a3] := sorry
theorem p_Tree : am_prI l RI 16 102 [] := sorry
theorem p_Node (a0 : Int32) (a1 : Int32) (a2 : Int32) (a3 : Int32) : am_prI l RI 19 103 [.inl a0, .inl a1, .inl a2, .inl a3] := sorry
theorem p_Creature : am_prI l RI 28 108 [] := sorry
theorem p_Give (a0 : Int32) (a1 : Int32) : am_prI l RI 30 109 [.inl a0, .inl a1] := sorry
theorem p_Ask (a0 : Int32) : am_prI l RI 39 114 [.inl a0] := sorry
theorem p_Ticks (a0 : Int32) : am_prI l RI 78 133 [.inl a0] := sorry
theorem p_Told (a0 : Int32) (a1 : Int32) (a2 : Int32) : am_prI l RI 86 138 [.inl a0, .inl a1, .inl a2] := sorry
theorem p_Asked (a0 : Int32) (a1 : Int32) : am_prI l RI 88 140 [.inl a0, .inl a1] := sorry
theorem p_Plan (a0 : Int32) (a1 : Int32) (a2 : Int32) : am_prI l RI 90 141 [.inl a0, .inl a1, .inl a2] := sorry
theorem p_Part (a0 : Int32) (a1 : Int32) (a2 : Int32) : am_prI l RI 93 144 [.inl a0, .inl a1, .inl a2] := sorry
end OPN
theorem RI_prs (l : Launch) : am_prs l RI := ⟨p_Doing, p_Facts, p_Effect, p_Tree, p_Node, p_Forget, p_Creature, p_Give, p_Ask, p_Ticks, p_World, p_Cell, p_Row, p_Has, p_Told, p_Asked, p_Plan, p_Count, p_All, p_Part⟩
theorem law_ok (l : Launch) (L : Nat) (xs : Nat → Int32) (hL : L ≤ 2560) : am_FQ l (L, xs) 145 2000 0 [some (.inr (.inr (some (99, 0)))), none, none, none] [] am_H0 am_fin := law_all RI_0 (RI_prs l) RI_s RI_b hL
