set_option maxRecDepth 10000 in
theorem c_in (l : Launch) (H : am_H) (v lo hi : Int64) : am_AX l 96 0 [.inr (.inl v), .inr (.inl lo), .inr (.inl hi)] H (some (.inl (if lo ≤ v ∧ v ≤ hi then 1 else 0))) H := by
  refine am_AX_eq (am_X (g := 0) (n := 20) (labs := []) (by decide) (by decide) ?_)
  show am_wp l _ 96 0 0 [] _ 20 0 [some (.inr (.inl v)), none, some (.inr (.inl lo)), none, some (.inr (.inl hi)), none] [] H
  simp only [am_wp_s, am_w1_g, am_w1_l, List.lookup_nil, am_pI_c, am_pL_c, am_pR_c, am_pA_c, am_pV_I, am_pV_R, am_pN_0, am_pN_s, am_q_0, am_q_s, am_ldI_0, am_ldI_s, am_ldL_0, am_ldL_s, am_ldR_0, am_ldR_s, am_sto_0, am_sto_I, am_sto_R, am_sto_n, am_sto_L, am_sto_s, Int32.reduceOfNat, Int64.reduceOfNat, Int32.reduceOfInt, Nat.reduceAdd, am_g_goto, am_g_iconst, am_g_ifCond_gt, am_g_ifCond_lt, am_g_ireturn, am_g_lcmp, am_g_lload, am_g_lload_n, at_96_0, at_96_1, at_96_2, at_96_3, at_96_6, at_96_7, at_96_9, at_96_10, at_96_13, at_96_14, at_96_17, at_96_18]
  trace_state
  sorry
set_option maxRecDepth 10000 in
theorem c_knows (l : Launch) (H : am_H) (x : Int32) : am_AX l 8 0 [.inr (.inr (some (2, 0))), .inl x] H (some (.inl (if 0 ≤ x ∧ x < am_gI H 2 0 0 then 1 else 0))) H := by
  refine am_AX_eq (am_X (g := 0) (n := 20) (labs := []) (by decide) (by decide) ?_)
  show am_wp l _ 8 0 0 [] _ 20 0 [some (.inr (.inr (some (2, 0)))), some (.inl x)] [] H
  simp only [am_wp_s, am_w1_g, am_w1_l, List.lookup_nil, am_pI_c, am_pL_c, am_pR_c, am_pA_c, am_pV_I, am_pV_R, am_pN_0, am_pN_s, am_q_0, am_q_s, am_ldI_0, am_ldI_s, am_ldL_0, am_ldL_s, am_ldR_0, am_ldR_s, am_sto_0, am_sto_I, am_sto_R, am_sto_n, am_sto_L, am_sto_s, Int32.reduceOfNat, Int64.reduceOfNat, Int32.reduceOfInt, Nat.reduceAdd, am_fl_0, am_fl_1, am_fl_3, am_g_aload_n, am_g_getfield, am_g_goto, am_g_iconst, am_g_ifCond_lt, am_g_if_icmp_ge, am_g_iload_n, am_g_ireturn, at_8_0, at_8_1, at_8_4, at_8_5, at_8_6, at_8_9, at_8_12, at_8_13, at_8_16, at_8_17, kc_2]
  trace_state
  sorry
