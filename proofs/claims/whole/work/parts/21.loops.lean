/-! ===== the class: loops ===== -/
theorem am_for {P : Nat → Prop} (N : Nat) (hN : P N) (hs : ∀ i, i < N → P (i + 1) → P i) : ∀ i, i ≤ N → P i := by
  intro i hi
  obtain ⟨m, rfl⟩ : ∃ m, N = i + m := ⟨N - i, by omega⟩
  clear hi
  induction m generalizing i with
  | zero => exact hN
  | succ m ih => exact hs i (by omega) (ih (i + 1) (by rw [show i + 1 + m = i + (m + 1) by omega]; exact hN) (by rw [show i + 1 + m = i + (m + 1) by omega]; exact hs))
theorem am_Heq {A B : am_H} (h1 : ∀ k j i, am_gI A k j i = am_gI B k j i) (h2 : ∀ k j i, am_gL A k j i = am_gL B k j i) (h3 : ∀ k j i, am_gR A k j i = am_gR B k j i) (h4 : am_lv A = am_lv B) : A = B := by
  obtain ⟨a1, a2, a3, a4⟩ := A
  obtain ⟨b1, b2, b3, b4⟩ := B
  have e1 : a1 = b1 := by funext k j i; exact h1 k j i
  have e2 : a2 = b2 := by funext k j i; exact h2 k j i
  have e3 : a3 = b3 := by funext k j i; exact h3 k j i
  have e4 : a4 = b4 := h4
  rw [e1, e2, e3, e4]
/-- the first n places of an array get a number -/
def am_fill (H : am_H) (k j n : Nat) (v : Int32) : am_H := (fun k' j' i' => if k' = k ∧ j' = j ∧ i' < n then v else H.1 k' j' i', H.2)
theorem am_gI_fill {H : am_H} {k j n k' j' i' : Nat} {v : Int32} : am_gI (am_fill H k j n v) k' j' i' = if k' = k ∧ j' = j ∧ i' < n then v else am_gI H k' j' i' := rfl
theorem am_gL_fill {H : am_H} {k j n k' j' i' : Nat} {v : Int32} : am_gL (am_fill H k j n v) k' j' i' = am_gL H k' j' i' := rfl
theorem am_gR_fill {H : am_H} {k j n k' j' i' : Nat} {v : Int32} : am_gR (am_fill H k j n v) k' j' i' = am_gR H k' j' i' := rfl
theorem am_lv_fill {H : am_H} {k j n : Nat} {v : Int32} : am_lv (am_fill H k j n v) = am_lv H := rfl
theorem am_fill_0 {H : am_H} {k j : Nat} {v : Int32} : am_fill H k j 0 v = H := by
  refine am_Heq (fun k' j' i' => ?_) (fun _ _ _ => rfl) (fun _ _ _ => rfl) rfl
  rw [am_gI_fill, if_neg]
  omega
theorem am_fill_s {H : am_H} {k j n : Nat} {v : Int32} : am_sI (am_fill H k j n v) k j n v = am_fill H k j (n + 1) v := by
  refine am_Heq (fun k' j' i' => ?_) (fun _ _ _ => rfl) (fun _ _ _ => rfl) rfl
  rw [am_gI_sI, am_gI_fill, am_gI_fill]
  repeat' split
  all_goals first | rfl | (exfalso; omega)
section CLP
variable {l : Launch} {H : am_H} {j : Nat}
theorem am_ge {a b : Nat} (h : a < b) (hb : b < 2 ^ 31) : (nI b ≤ nI a) = False := eq_false (nI_ge h hb)
theorem am_le {a b : Nat} (h : a ≤ b) (hb : b < 2 ^ 31) : (nI a ≤ nI b) = True := eq_true (nI_le h hb)
theorem nI_30 : (30 : Int32) = nI 30 := rfl
def sp_startTick (H : am_H) (j : Nat) : am_H := am_fill (am_sI H 209 j 0 (am_gI H 209 j 0 + 1)) 208 j 30 0
set_option maxRecDepth 20000 in
theorem c_startTick_l (hs : sh_C H j) {Q : Option am_V → am_H → Prop} {sc : am_SC} {d : Nat} (hQ : Q none (am_fill H 208 j 30 0)) : ∀ i, i ≤ 30 → am_FQ l sc 41 d 12 [some (.inr (.inr (some (1, j)))), some (.inl (nI i))] [] (am_fill H 208 j i 0) Q := by
  refine am_for (P := fun i => am_FQ l sc 41 d 12 [some (.inr (.inr (some (1, j)))), some (.inl (nI i))] [] (am_fill H 208 j i 0) Q) 30 ?_ (fun i hi ih => ?_)
  · refine am_wl_ok (g := 0) (n := 30) (labs := [(12, [1, 1])]) ?_
    simp only [am_wp_s, am_w1_g, am_w1_l, List.lookup_nil, am_pI_c, am_pL_c, am_pR_c, am_pA_c, am_pV_I, am_pV_R, am_pN_0, am_pN_s, am_q_0, am_q_s, am_ldI_0, am_ldI_s, am_ldL_0, am_ldL_s, am_ldR_0, am_ldR_s, am_sto_0, am_sto_I, am_sto_R, am_sto_n, am_sto_L, am_sto_s, Int32.reduceOfNat, Int64.reduceOfNat, Int32.reduceOfInt, Nat.reduceAdd, am_fl_0, am_fl_1, am_fl_3, am_g_aload_n, am_g_bastore, am_g_bipush, am_g_dup2, am_g_getfield, am_g_goto, am_g_iadd, am_g_iaload, am_g_iastore, am_g_iconst, am_g_if_icmp_ge, am_g_iinc__n, am_g_iload_n, am_g_istore_n, am_g_return, List.lookup_cons, Nat.reduceBEq, at_41_0, at_41_1, at_41_4, at_41_5, at_41_6, at_41_7, at_41_8, at_41_9, at_41_10, at_41_11, at_41_12, at_41_13, at_41_15, at_41_18, at_41_19, at_41_22, at_41_23, at_41_24, at_41_25, at_41_28, at_41_31, not_true_eq_false, not_false_eq_true, implies_true, reduceCtorEq, ↓am_i99_d, ↓am_i1000_d, false_implies, Option.some.injEq, Sum.inl.injEq, Sum.inr.injEq, true_and, and_true, forall_const, true_implies, am_bl_0, am_bl_1, am_bl_b, am_bi_0, am_bi_1, am_bi_e0, am_bi_e1, Classical.not_not, am_gI_sI, am_gL_sI, am_gR_sI, am_gI_sL, am_gL_sL, am_gR_sL, am_gI_sR, am_gL_sR, am_gR_sR, am_lv_sI, am_lv_sL, am_lv_sR, ↓reduceIte, Nat.reduceEqDiff, and_false, false_and, and_self, Option.toList_some, Option.toList_none, List.cons_append, List.nil_append, List.length_cons, List.length_nil, Nat.reduceLeDiff, Nat.zero_le, List.drop_nil, nI_30, am_le (Nat.le_refl 30) (by decide), hQ]
  · refine am_wl_ok (g := 0) (n := 30) (labs := [(12, [1, 1])]) ?_
    simp only [am_wp_s, am_w1_g, am_w1_l, List.lookup_nil, am_pI_c, am_pL_c, am_pR_c, am_pA_c, am_pV_I, am_pV_R, am_pN_0, am_pN_s, am_q_0, am_q_s, am_ldI_0, am_ldI_s, am_ldL_0, am_ldL_s, am_ldR_0, am_ldR_s, am_sto_0, am_sto_I, am_sto_R, am_sto_n, am_sto_L, am_sto_s, Int32.reduceOfNat, Int64.reduceOfNat, Int32.reduceOfInt, Nat.reduceAdd, am_fl_0, am_fl_1, am_fl_3, am_g_aload_n, am_g_bastore, am_g_bipush, am_g_dup2, am_g_getfield, am_g_goto, am_g_iadd, am_g_iaload, am_g_iastore, am_g_iconst, am_g_if_icmp_ge, am_g_iinc__n, am_g_iload_n, am_g_istore_n, am_g_return, List.lookup_cons, Nat.reduceBEq, at_41_0, at_41_1, at_41_4, at_41_5, at_41_6, at_41_7, at_41_8, at_41_9, at_41_10, at_41_11, at_41_12, at_41_13, at_41_15, at_41_18, at_41_19, at_41_22, at_41_23, at_41_24, at_41_25, at_41_28, at_41_31, not_true_eq_false, not_false_eq_true, implies_true, reduceCtorEq, ↓am_i99_d, ↓am_i1000_d, false_implies, Option.some.injEq, Sum.inl.injEq, Sum.inr.injEq, true_and, and_true, forall_const, true_implies, am_bl_0, am_bl_1, am_bl_b, am_bi_0, am_bi_1, am_bi_e0, am_bi_e1, Classical.not_not, am_gI_sI, am_gL_sI, am_gR_sI, am_gI_sL, am_gL_sL, am_gR_sL, am_gI_sR, am_gL_sR, am_gR_sR, am_lv_sI, am_lv_sL, am_lv_sR, ↓reduceIte, Nat.reduceEqDiff, and_false, false_and, and_self, Option.toList_some, Option.toList_none, List.cons_append, List.nil_append, List.length_cons, List.length_nil, Nat.reduceLeDiff, Nat.zero_le, List.drop_nil, am_tr, List.zipWith_cons_cons, List.zipWith_nil_left, List.zipWith_nil_right, Nat.reduceEqDiff, ↓reduceIte, nI_30, am_ge hi (by decide), kc_1, kc_208, kn_208, am_gR_fill, hs.2.2.2.2.2.2.2.1, am_vi hi, am_cn hi, am_fill_s, nI_1]
    exact ih
set_option maxRecDepth 20000 in
theorem c_startTick (hs : sh_C H j) : am_AX l 41 0 [.inr (.inr (some (1, j)))] H none (sp_startTick H j) := by
  refine am_AX_eq (am_X (g := 0) (n := 30) (labs := [(12, [1, 1])]) (by decide) (Nat.le_of_ble_eq_true rfl) ?_)
  show am_wp l _ 41 0 0 _ _ 30 0 [some (.inr (.inr (some (1, j)))), none] [] H
  simp only [am_wp_s, am_w1_g, am_w1_l, List.lookup_nil, am_pI_c, am_pL_c, am_pR_c, am_pA_c, am_pV_I, am_pV_R, am_pN_0, am_pN_s, am_q_0, am_q_s, am_ldI_0, am_ldI_s, am_ldL_0, am_ldL_s, am_ldR_0, am_ldR_s, am_sto_0, am_sto_I, am_sto_R, am_sto_n, am_sto_L, am_sto_s, Int32.reduceOfNat, Int64.reduceOfNat, Int32.reduceOfInt, Nat.reduceAdd, am_fl_0, am_fl_1, am_fl_3, am_g_aload_n, am_g_bastore, am_g_bipush, am_g_dup2, am_g_getfield, am_g_goto, am_g_iadd, am_g_iaload, am_g_iastore, am_g_iconst, am_g_if_icmp_ge, am_g_iinc__n, am_g_iload_n, am_g_istore_n, am_g_return, List.lookup_cons, Nat.reduceBEq, at_41_0, at_41_1, at_41_4, at_41_5, at_41_6, at_41_7, at_41_8, at_41_9, at_41_10, at_41_11, at_41_12, at_41_13, at_41_15, at_41_18, at_41_19, at_41_22, at_41_23, at_41_24, at_41_25, at_41_28, at_41_31, not_true_eq_false, not_false_eq_true, implies_true, reduceCtorEq, ↓am_i99_d, ↓am_i1000_d, false_implies, Option.some.injEq, Sum.inl.injEq, Sum.inr.injEq, true_and, and_true, forall_const, true_implies, am_bl_0, am_bl_1, am_bl_b, am_bi_0, am_bi_1, am_bi_e0, am_bi_e1, Classical.not_not, am_gI_sI, am_gL_sI, am_gR_sI, am_gI_sL, am_gL_sL, am_gR_sL, am_gI_sR, am_gL_sR, am_gR_sR, am_lv_sI, am_lv_sL, am_lv_sR, ↓reduceIte, Nat.reduceEqDiff, and_false, false_and, and_self, Option.toList_some, Option.toList_none, List.cons_append, List.nil_append, List.length_cons, List.length_nil, Nat.reduceLeDiff, Nat.zero_le, List.drop_nil, am_tr, List.zipWith_cons_cons, List.zipWith_nil_left, List.zipWith_nil_right, Nat.reduceEqDiff, ↓reduceIte, kc_1, hs.2.2.2.2.2.2.2.2, kc_209, kn_209, cl_0, vi_0]
  have h := c_startTick_l (l := l) (H := am_sI H 209 j 0 (am_gI H 209 j 0 + 1)) (sc := (0, fun _ => 0)) (d := 0) (Q := fun r H' => r = none ∧ H' = sp_startTick H j) hs ⟨rfl, rfl⟩ 0 (by omega)
  rw [am_fill_0] at h
  exact h
end CLP
