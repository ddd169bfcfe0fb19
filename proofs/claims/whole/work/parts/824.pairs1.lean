/-! ===== pairs: the small methods ===== -/
section PR1
variable {l : Launch}
theorem pr_of {RI : Nat → am_H → Prop} {c m n d1 d2 : Nat} {f : List am_V} {H H1 H2 : am_H} {v : Int32} (hc : am_AX l c d1 (.inr (.inr (some (7, 0))) :: f) H (some (.inl v)) H1) (hd1 : d1 ≤ 1000) (hm : am_AX l m d2 (.inr (.inr (some (8, 0))) :: f) H1 (some (.inl v)) H2) (hd2 : d2 ≤ 1000) (hR : RI (n + 1) H2) : am_XQ l c 1000 (.inr (.inr (some (7, 0))) :: f) H (fun r H1 => ∃ v : Int32, r = some (.inl v) ∧ am_XQ l m 1000 (.inr (.inr (some (8, 0))) :: f) H1 (fun r2 H2 => r2 = some (.inl v) ∧ RI (n + 1) H2)) :=
  ⟨_, _, ⟨v, rfl, ⟨_, _, ⟨rfl, hR⟩, am_AX_dle hm hd2⟩⟩, am_AX_dle hc hd1⟩
theorem pr_ofL {RI : Nat → am_H → Prop} {c m n d1 d2 : Nat} {f : List am_V} {H H1 H2 : am_H} {v : Int64} (hc : am_AX l c d1 (.inr (.inr (some (7, 0))) :: f) H (some (.inr (.inl v))) H1) (hd1 : d1 ≤ 1000) (hm : am_AX l m d2 (.inr (.inr (some (8, 0))) :: f) H1 (some (.inr (.inl v))) H2) (hd2 : d2 ≤ 1000) (hR : RI (n + 1) H2) : am_XQ l c 1000 (.inr (.inr (some (7, 0))) :: f) H (fun r H1 => ∃ v : Int64, r = some (.inr (.inl v)) ∧ am_XQ l m 1000 (.inr (.inr (some (8, 0))) :: f) H1 (fun r2 H2 => r2 = some (.inr (.inl v)) ∧ RI (n + 1) H2)) :=
  ⟨_, _, ⟨v, rfl, ⟨_, _, ⟨rfl, hR⟩, am_AX_dle hm hd2⟩⟩, am_AX_dle hc hd1⟩
theorem fb_nI {b : Int32} (h : 0 ≤ b ∧ b ≤ 255) : ∃ w, w ≤ 255 ∧ b = nI w := by
  obtain ⟨j, hj, e⟩ := nI_of2 (M := 255) (n := 255) rfl (Int32.not_lt.mpr h.1) h.2
  exact ⟨j, hj, e⟩
theorem p_World (a0 : Int32) : am_prI l RI 79 134 [.inl a0] := by
  intro n H hn hR
  have hR0 := RI_s n H hR
  obtain ⟨D, T, N, K, Mt, TA, Cn, ⟨sL, sM, sW, sD, sX, sQ⟩, hV, hw, hP, rW, rD, rT, rA, rB, rC, rL, rP⟩ := hR
  by_cases h : 0 ≤ a0 ∧ a0 ≤ 255
  · have hv : am_gI H 6 0 0 = am_gI (am_sI H 6 0 0 a0) 8 0 0 := rW.1
    refine pr_of (c_world a0 sX sM h) (by decide) (hv ▸ m_world a0 h) (by decide) ?_
    refine ⟨D, T, N, K, Mt, TA, Cn, ⟨(by simpa (decide := true) only [sh_Q, R_W, R_D, R_T, TT, R_A, R_B, BT, R_C, CR, NR, PR, R_L, R_P, R_V, wf_W, wf_P, sh_L, sh_M, sh_W, sh_D, sh_X, sh_P, sh_C, sh_T, sh_S, am_gI_sI, am_gL_sI, am_gR_sI, am_gI_sL, am_gL_sL, am_gR_sL, am_gI_sR, am_gL_sR, am_gR_sR, am_lv_sI, am_lv_sL, am_lv_sR, am_gI_fill, am_gL_fill, am_gR_fill, am_lv_fill, Nat.reduceEqDiff, false_and, true_and, and_false, ↓reduceIte, ne_eq, not_false_eq_true] using sL), (by simpa (decide := true) only [sh_Q, R_W, R_D, R_T, TT, R_A, R_B, BT, R_C, CR, NR, PR, R_L, R_P, R_V, wf_W, wf_P, sh_L, sh_M, sh_W, sh_D, sh_X, sh_P, sh_C, sh_T, sh_S, am_gI_sI, am_gL_sI, am_gR_sI, am_gI_sL, am_gL_sL, am_gR_sL, am_gI_sR, am_gL_sR, am_gR_sR, am_lv_sI, am_lv_sL, am_lv_sR, am_gI_fill, am_gL_fill, am_gR_fill, am_lv_fill, Nat.reduceEqDiff, false_and, true_and, and_false, ↓reduceIte, ne_eq, not_false_eq_true] using sM), (by simpa (decide := true) only [sh_Q, R_W, R_D, R_T, TT, R_A, R_B, BT, R_C, CR, NR, PR, R_L, R_P, R_V, wf_W, wf_P, sh_L, sh_M, sh_W, sh_D, sh_X, sh_P, sh_C, sh_T, sh_S, am_gI_sI, am_gL_sI, am_gR_sI, am_gI_sL, am_gL_sL, am_gR_sL, am_gI_sR, am_gL_sR, am_gR_sR, am_lv_sI, am_lv_sL, am_lv_sR, am_gI_fill, am_gL_fill, am_gR_fill, am_lv_fill, Nat.reduceEqDiff, false_and, true_and, and_false, ↓reduceIte, ne_eq, not_false_eq_true] using sW), (by simpa (decide := true) only [sh_Q, R_W, R_D, R_T, TT, R_A, R_B, BT, R_C, CR, NR, PR, R_L, R_P, R_V, wf_W, wf_P, sh_L, sh_M, sh_W, sh_D, sh_X, sh_P, sh_C, sh_T, sh_S, am_gI_sI, am_gL_sI, am_gR_sI, am_gI_sL, am_gL_sL, am_gR_sL, am_gI_sR, am_gL_sR, am_gR_sR, am_lv_sI, am_lv_sL, am_lv_sR, am_gI_fill, am_gL_fill, am_gR_fill, am_lv_fill, Nat.reduceEqDiff, false_and, true_and, and_false, ↓reduceIte, ne_eq, not_false_eq_true] using sD), (by simpa (decide := true) only [sh_Q, R_W, R_D, R_T, TT, R_A, R_B, BT, R_C, CR, NR, PR, R_L, R_P, R_V, wf_W, wf_P, sh_L, sh_M, sh_W, sh_D, sh_X, sh_P, sh_C, sh_T, sh_S, am_gI_sI, am_gL_sI, am_gR_sI, am_gI_sL, am_gL_sL, am_gR_sL, am_gI_sR, am_gL_sR, am_gR_sR, am_lv_sI, am_lv_sL, am_lv_sR, am_gI_fill, am_gL_fill, am_gR_fill, am_lv_fill, Nat.reduceEqDiff, false_and, true_and, and_false, ↓reduceIte, ne_eq, not_false_eq_true] using sX), (by simpa (decide := true) only [sh_Q, R_W, R_D, R_T, TT, R_A, R_B, BT, R_C, CR, NR, PR, R_L, R_P, R_V, wf_W, wf_P, sh_L, sh_M, sh_W, sh_D, sh_X, sh_P, sh_C, sh_T, sh_S, am_gI_sI, am_gL_sI, am_gR_sI, am_gI_sL, am_gL_sL, am_gR_sL, am_gI_sR, am_gL_sR, am_gR_sR, am_lv_sI, am_lv_sL, am_lv_sR, am_gI_fill, am_gL_fill, am_gR_fill, am_lv_fill, Nat.reduceEqDiff, false_and, true_and, and_false, ↓reduceIte, ne_eq, not_false_eq_true] using sQ)⟩, (by simpa (decide := true) only [R_W, R_D, R_T, TT, R_A, R_B, BT, R_C, CR, NR, PR, R_L, R_P, R_V, wf_W, wf_P, sh_L, sh_M, sh_W, sh_D, sh_X, sh_P, sh_C, sh_T, sh_S, am_gI_sI, am_gL_sI, am_gR_sI, am_gI_sL, am_gL_sL, am_gR_sL, am_gI_sR, am_gL_sR, am_gR_sR, am_lv_sI, am_lv_sL, am_lv_sR, am_gI_fill, am_gL_fill, am_gR_fill, am_lv_fill, Nat.reduceEqDiff, false_and, true_and, and_false, ↓reduceIte, ne_eq, not_false_eq_true] using hV), (by simpa (decide := true) only [R_W, R_D, R_T, TT, R_A, R_B, BT, R_C, CR, NR, PR, R_L, R_P, R_V, wf_W, wf_P, sh_L, sh_M, sh_W, sh_D, sh_X, sh_P, sh_C, sh_T, sh_S, am_gI_sI, am_gL_sI, am_gR_sI, am_gI_sL, am_gL_sL, am_gR_sL, am_gI_sR, am_gL_sR, am_gR_sR, am_lv_sI, am_lv_sL, am_lv_sR, am_gI_fill, am_gL_fill, am_gR_fill, am_lv_fill, Nat.reduceEqDiff, false_and, true_and, and_false, ↓reduceIte, ne_eq, not_false_eq_true] using hw), (by simpa (decide := true) only [R_W, R_D, R_T, TT, R_A, R_B, BT, R_C, CR, NR, PR, R_L, R_P, R_V, wf_W, wf_P, sh_L, sh_M, sh_W, sh_D, sh_X, sh_P, sh_C, sh_T, sh_S, am_gI_sI, am_gL_sI, am_gR_sI, am_gI_sL, am_gL_sL, am_gR_sL, am_gI_sR, am_gL_sR, am_gR_sR, am_lv_sI, am_lv_sL, am_lv_sR, am_gI_fill, am_gL_fill, am_gR_fill, am_lv_fill, Nat.reduceEqDiff, false_and, true_and, and_false, ↓reduceIte, ne_eq, not_false_eq_true] using wf_P_mono (S2 := 9000 * (n + 1)) (by omega) hP), ?_, (by simpa (decide := true) only [R_W, R_D, R_T, TT, R_A, R_B, BT, R_C, CR, NR, PR, R_L, R_P, R_V, wf_W, wf_P, sh_L, sh_M, sh_W, sh_D, sh_X, sh_P, sh_C, sh_T, sh_S, am_gI_sI, am_gL_sI, am_gR_sI, am_gI_sL, am_gL_sL, am_gR_sL, am_gI_sR, am_gL_sR, am_gR_sR, am_lv_sI, am_lv_sL, am_lv_sR, am_gI_fill, am_gL_fill, am_gR_fill, am_lv_fill, Nat.reduceEqDiff, false_and, true_and, and_false, ↓reduceIte, ne_eq, not_false_eq_true] using rD), (by simpa (decide := true) only [R_W, R_D, R_T, TT, R_A, R_B, BT, R_C, CR, NR, PR, R_L, R_P, R_V, wf_W, wf_P, sh_L, sh_M, sh_W, sh_D, sh_X, sh_P, sh_C, sh_T, sh_S, am_gI_sI, am_gL_sI, am_gR_sI, am_gI_sL, am_gL_sL, am_gR_sL, am_gI_sR, am_gL_sR, am_gR_sR, am_lv_sI, am_lv_sL, am_lv_sR, am_gI_fill, am_gL_fill, am_gR_fill, am_lv_fill, Nat.reduceEqDiff, false_and, true_and, and_false, ↓reduceIte, ne_eq, not_false_eq_true] using rT), (by simpa (decide := true) only [R_W, R_D, R_T, TT, R_A, R_B, BT, R_C, CR, NR, PR, R_L, R_P, R_V, wf_W, wf_P, sh_L, sh_M, sh_W, sh_D, sh_X, sh_P, sh_C, sh_T, sh_S, am_gI_sI, am_gL_sI, am_gR_sI, am_gI_sL, am_gL_sL, am_gR_sL, am_gI_sR, am_gL_sR, am_gR_sR, am_lv_sI, am_lv_sL, am_lv_sR, am_gI_fill, am_gL_fill, am_gR_fill, am_lv_fill, Nat.reduceEqDiff, false_and, true_and, and_false, ↓reduceIte, ne_eq, not_false_eq_true] using rA), (by simpa (decide := true) only [R_W, R_D, R_T, TT, R_A, R_B, BT, R_C, CR, NR, PR, R_L, R_P, R_V, wf_W, wf_P, sh_L, sh_M, sh_W, sh_D, sh_X, sh_P, sh_C, sh_T, sh_S, am_gI_sI, am_gL_sI, am_gR_sI, am_gI_sL, am_gL_sL, am_gR_sL, am_gI_sR, am_gL_sR, am_gR_sR, am_lv_sI, am_lv_sL, am_lv_sR, am_gI_fill, am_gL_fill, am_gR_fill, am_lv_fill, Nat.reduceEqDiff, false_and, true_and, and_false, ↓reduceIte, ne_eq, not_false_eq_true] using rB), (by simpa (decide := true) only [R_W, R_D, R_T, TT, R_A, R_B, BT, R_C, CR, NR, PR, R_L, R_P, R_V, wf_W, wf_P, sh_L, sh_M, sh_W, sh_D, sh_X, sh_P, sh_C, sh_T, sh_S, am_gI_sI, am_gL_sI, am_gR_sI, am_gI_sL, am_gL_sL, am_gR_sL, am_gI_sR, am_gL_sR, am_gR_sR, am_lv_sI, am_lv_sL, am_lv_sR, am_gI_fill, am_gL_fill, am_gR_fill, am_lv_fill, Nat.reduceEqDiff, false_and, true_and, and_false, ↓reduceIte, ne_eq, not_false_eq_true] using rC), (by simpa (decide := true) only [R_W, R_D, R_T, TT, R_A, R_B, BT, R_C, CR, NR, PR, R_L, R_P, R_V, wf_W, wf_P, sh_L, sh_M, sh_W, sh_D, sh_X, sh_P, sh_C, sh_T, sh_S, am_gI_sI, am_gL_sI, am_gR_sI, am_gI_sL, am_gL_sL, am_gR_sL, am_gI_sR, am_gL_sR, am_gR_sR, am_lv_sI, am_lv_sL, am_lv_sR, am_gI_fill, am_gL_fill, am_gR_fill, am_lv_fill, Nat.reduceEqDiff, false_and, true_and, and_false, ↓reduceIte, ne_eq, not_false_eq_true] using rL), (by simpa (decide := true) only [R_W, R_D, R_T, TT, R_A, R_B, BT, R_C, CR, NR, PR, R_L, R_P, R_V, wf_W, wf_P, sh_L, sh_M, sh_W, sh_D, sh_X, sh_P, sh_C, sh_T, sh_S, am_gI_sI, am_gL_sI, am_gR_sI, am_gI_sL, am_gL_sL, am_gR_sL, am_gI_sR, am_gL_sR, am_gR_sR, am_lv_sI, am_lv_sL, am_lv_sR, am_gI_fill, am_gL_fill, am_gR_fill, am_lv_fill, Nat.reduceEqDiff, false_and, true_and, and_false, ↓reduceIte, ne_eq, not_false_eq_true] using rP)⟩
    simp (decide := true) only [R_W, R_D, R_T, TT, R_A, R_B, BT, R_C, CR, NR, PR, R_L, R_P, R_V, wf_W, wf_P, sh_L, sh_M, sh_W, sh_D, sh_X, sh_P, sh_C, sh_T, sh_S, am_gI_sI, am_gL_sI, am_gR_sI, am_gI_sL, am_gL_sL, am_gR_sL, am_gI_sR, am_gL_sR, am_gR_sR, am_lv_sI, am_lv_sL, am_lv_sR, am_gI_fill, am_gL_fill, am_gR_fill, am_lv_fill, Nat.reduceEqDiff, false_and, true_and, and_false, ↓reduceIte, ne_eq, not_false_eq_true]
    exact ⟨fb_nI h, rW.2.2⟩
  · exact pr_of (c_world_n a0 sX sM h) (by decide) (m_world_n a0 h) (by decide) hR0
theorem gR_put {H : am_H} {k : Nat} {s : Int32} {v : Int64} {a b c : Nat} : am_gR (sp_put H k s v) a b c = am_gR H a b c := by
  unfold sp_put
  repeat' split
  all_goals rfl
theorem lv_put {H : am_H} {k : Nat} {s : Int32} {v : Int64} : am_lv (sp_put H k s v) = am_lv H := by
  unfold sp_put
  repeat' split
  all_goals rfl
theorem gI_put {H : am_H} {k : Nat} {s : Int32} {v : Int64} {a b c : Nat} (h : a ≠ 701) (h2 : a ≠ 703) : am_gI (sp_put H k s v) a b c = am_gI H a b c := by
  unfold sp_put sp_clr6
  repeat' split
  all_goals simp only [am_gI_sI, am_gI_sL, h, h2, false_and, ↓reduceIte]
theorem gL_put {H : am_H} {k : Nat} {s : Int32} {v : Int64} {a b c : Nat} (h : a ≠ 702) : am_gL (sp_put H k s v) a b c = am_gL H a b c := by
  unfold sp_put sp_clr6
  repeat' split
  all_goals simp only [am_gL_sI, am_gL_sL, h, false_and, ↓reduceIte]
theorem gI_put1 {H : am_H} {k x : Nat} {s : Int32} {v : Int64} : am_gI (sp_put H k s v) 701 0 x = if x = k then s else am_gI H 701 0 x := by
  unfold sp_put sp_clr6
  repeat' split
  all_goals simp_all (decide := true) only [am_gI_sI, am_gI_sL, Nat.reduceEqDiff, false_and, true_and, and_self, ↓reduceIte]
theorem gL_put1 {H : am_H} {k x : Nat} {s : Int32} {v : Int64} : am_gL (sp_put H k s v) 702 0 x = if x = k then (if s = 1 then v else if s = 2 then (if v = 0 then 0 else 1) else if s = 3 then v else 0) else am_gL H 702 0 x := by
  unfold sp_put sp_clr6
  by_cases h1 : s = 1
  · simp (decide := true) only [h1, ↓reduceIte, am_gL_sI, am_gL_sL, true_and]
  by_cases h2 : s = 2
  · simp (decide := true) only [h2, ↓reduceIte, am_gL_sI, am_gL_sL, true_and]
  by_cases h3 : s = 3
  · simp (decide := true) only [h3, ↓reduceIte, am_gL_sI, am_gL_sL, true_and]
  simp only [h1, h2, h3, ↓reduceIte, am_gL_sI, am_gL_sL, true_and]
theorem gI_put3 {H : am_H} {k x : Nat} {s : Int32} {v : Int64} : am_gI (sp_put H k s v) 703 0 x = if s = 3 ∧ k * 6 ≤ x ∧ x < k * 6 + 6 then 0 else am_gI H 703 0 x := by
  unfold sp_put sp_clr6
  by_cases h1 : s = 1
  · simp (decide := true) only [h1, ↓reduceIte, am_gI_sI, am_gI_sL, true_and, false_and, Nat.reduceEqDiff]
  by_cases h2 : s = 2
  · simp (decide := true) only [h2, ↓reduceIte, am_gI_sI, am_gI_sL, true_and, false_and, Nat.reduceEqDiff]
  by_cases h3 : s = 3
  · simp (decide := true) only [h3, ↓reduceIte, am_gI_sI, am_gI_sL, true_and, false_and, Nat.reduceEqDiff]
    repeat' split
    all_goals first | rfl | (exfalso; omega)
  simp only [h1, h2, h3, ↓reduceIte, am_gI_sI, am_gI_sL, true_and, false_and, Nat.reduceEqDiff]
theorem gI_mcl {H : am_H} {k n a b c : Nat} (h : a ≠ 903) : am_gI (mp_cl H k n) a b c = am_gI H a b c := by
  induction n with
  | zero => rfl
  | succ n ih =>
    unfold mp_cl
    rw [am_gI_sI, if_neg (fun q => h q.1), ih]
theorem gL_mcl {H : am_H} {k n a b c : Nat} : am_gL (mp_cl H k n) a b c = am_gL H a b c := by
  induction n with
  | zero => rfl
  | succ n ih => exact ih
theorem lv_mcl {H : am_H} {k n : Nat} : am_lv (mp_cl H k n) = am_lv H := by
  induction n with
  | zero => rfl
  | succ n ih => exact ih
theorem gI_mcl1 {H : am_H} {k n x : Nat} : am_gI (mp_cl H k n) 903 0 x = if k * 6 ≤ x ∧ x < k * 6 + n then 0 else am_gI H 903 0 x := by
  induction n with
  | zero => rw [if_neg (by omega)]; rfl
  | succ n ih =>
    unfold mp_cl
    rw [am_gI_sI, ih]
    repeat' split
    all_goals first | rfl | (exfalso; omega)
theorem s03 {s : Int32} (h2 : ¬ s < 0) (h3 : ¬ 3 < s) : s = 0 ∨ s = 1 ∨ s = 2 ∨ s = 3 := by
  simp only [Int32.lt_iff_toInt_lt, ← Int32.toInt_inj, Int32.reduceToInt] at *
  omega
theorem k12 {k : Int32} (h : 0 ≤ k ∧ k < 12) : ∃ a, a < 12 ∧ k = nI a := by
  obtain ⟨a, ha, e⟩ := vp_in_of (am_v12' h) (by decide)
  exact ⟨a, ha, e⟩
theorem p_Cell (a0 : Int32) (a1 : Int32) (a2 : Int64) : am_prI l RI 80 135 [.inl a0, .inl a1, .inr (.inl a2)] := by
  intro n H hn hR
  have hR0 := RI_s n H hR
  obtain ⟨D, T, N, K, Mt, TA, Cn, ⟨sL, sM, sW, sD, sX, sQ⟩, hV, hw, hP, rW, rD, rT, rA, rB, rC, rL, rP⟩ := hR
  by_cases h : ¬ (0 ≤ a0 ∧ a0 < 12) ∨ a1 < 0 ∨ 3 < a1 ∨ a1 = 3 ∧ ¬ a2 ≤ 6
  · exact pr_of (c_cell_1 a0 a1 a2 h) (by decide) (m_cell_1 a0 a1 a2 h) (by decide) hR0
  have hk : 0 ≤ a0 ∧ a0 < 12 := Classical.not_not.mp (fun q => h (Or.inl q))
  have h2 : ¬ a1 < 0 := fun q => h (Or.inr (Or.inl q))
  have h3 : ¬ 3 < a1 := fun q => h (Or.inr (Or.inr (Or.inl q)))
  have h5 : a1 = 3 → a2 ≤ 6 := fun q => Classical.not_not.mp (fun q2 => h (Or.inr (Or.inr (Or.inr ⟨q, q2⟩))))
  by_cases h6 : a1 = 3 ∧ ¬ 0 ≤ a2
  · obtain ⟨rfl, h6⟩ := h6
    exact pr_of (c_cell_2 a0 a2 hk (h5 rfl) h6) (by decide) (m_cell_2 a0 a2 hk (h5 rfl) h6) (by decide) hR0
  have h4 : a1 = 3 → 0 ≤ a2 ∧ a2 ≤ 6 := fun q => ⟨Classical.not_not.mp (fun q2 => h6 ⟨q, q2⟩), h5 q⟩
  obtain ⟨k, hk12, rfl⟩ := k12 hk
  have sQ1 : sh_Q (sp_put H k a1 a2) := by simpa only [sh_Q, gR_put] using sQ
  refine pr_of (c_cell_3 k a1 a2 sX sM sW hk12 h2 h3 h4) (by decide) (m_cell_3 k a1 a2 sQ1 hk12 h2 h3 h4) (by decide) ?_
  refine ⟨D, T, N, K, Mt, TA, Cn, ⟨(by simpa (decide := true) only [sh_Q, R_W, R_D, R_T, TT, R_A, R_B, BT, R_C, CR, NR, PR, R_L, R_P, R_V, wf_W, wf_P, sh_L, sh_M, sh_W, sh_D, sh_X, sh_P, sh_C, sh_T, sh_S, am_gI_sI, am_gL_sI, am_gR_sI, am_gI_sL, am_gL_sL, am_gR_sL, am_gI_sR, am_gL_sR, am_gR_sR, am_lv_sI, am_lv_sL, am_lv_sR, am_gI_fill, am_gL_fill, am_gR_fill, am_lv_fill, Nat.reduceEqDiff, false_and, true_and, and_false, ↓reduceIte, ne_eq, not_false_eq_true, gR_cl, gI_mcl, gL_mcl, lv_mcl, gR_put, gI_put, gL_put, lv_put] using sL), (by simpa (decide := true) only [sh_Q, R_W, R_D, R_T, TT, R_A, R_B, BT, R_C, CR, NR, PR, R_L, R_P, R_V, wf_W, wf_P, sh_L, sh_M, sh_W, sh_D, sh_X, sh_P, sh_C, sh_T, sh_S, am_gI_sI, am_gL_sI, am_gR_sI, am_gI_sL, am_gL_sL, am_gR_sL, am_gI_sR, am_gL_sR, am_gR_sR, am_lv_sI, am_lv_sL, am_lv_sR, am_gI_fill, am_gL_fill, am_gR_fill, am_lv_fill, Nat.reduceEqDiff, false_and, true_and, and_false, ↓reduceIte, ne_eq, not_false_eq_true, gR_cl, gI_mcl, gL_mcl, lv_mcl, gR_put, gI_put, gL_put, lv_put] using sM), (by simpa (decide := true) only [sh_Q, R_W, R_D, R_T, TT, R_A, R_B, BT, R_C, CR, NR, PR, R_L, R_P, R_V, wf_W, wf_P, sh_L, sh_M, sh_W, sh_D, sh_X, sh_P, sh_C, sh_T, sh_S, am_gI_sI, am_gL_sI, am_gR_sI, am_gI_sL, am_gL_sL, am_gR_sL, am_gI_sR, am_gL_sR, am_gR_sR, am_lv_sI, am_lv_sL, am_lv_sR, am_gI_fill, am_gL_fill, am_gR_fill, am_lv_fill, Nat.reduceEqDiff, false_and, true_and, and_false, ↓reduceIte, ne_eq, not_false_eq_true, gR_cl, gI_mcl, gL_mcl, lv_mcl, gR_put, gI_put, gL_put, lv_put] using sW), (by simpa (decide := true) only [sh_Q, R_W, R_D, R_T, TT, R_A, R_B, BT, R_C, CR, NR, PR, R_L, R_P, R_V, wf_W, wf_P, sh_L, sh_M, sh_W, sh_D, sh_X, sh_P, sh_C, sh_T, sh_S, am_gI_sI, am_gL_sI, am_gR_sI, am_gI_sL, am_gL_sL, am_gR_sL, am_gI_sR, am_gL_sR, am_gR_sR, am_lv_sI, am_lv_sL, am_lv_sR, am_gI_fill, am_gL_fill, am_gR_fill, am_lv_fill, Nat.reduceEqDiff, false_and, true_and, and_false, ↓reduceIte, ne_eq, not_false_eq_true, gR_cl, gI_mcl, gL_mcl, lv_mcl, gR_put, gI_put, gL_put, lv_put] using sD), (by simpa (decide := true) only [sh_Q, R_W, R_D, R_T, TT, R_A, R_B, BT, R_C, CR, NR, PR, R_L, R_P, R_V, wf_W, wf_P, sh_L, sh_M, sh_W, sh_D, sh_X, sh_P, sh_C, sh_T, sh_S, am_gI_sI, am_gL_sI, am_gR_sI, am_gI_sL, am_gL_sL, am_gR_sL, am_gI_sR, am_gL_sR, am_gR_sR, am_lv_sI, am_lv_sL, am_lv_sR, am_gI_fill, am_gL_fill, am_gR_fill, am_lv_fill, Nat.reduceEqDiff, false_and, true_and, and_false, ↓reduceIte, ne_eq, not_false_eq_true, gR_cl, gI_mcl, gL_mcl, lv_mcl, gR_put, gI_put, gL_put, lv_put] using sX), (by simpa (decide := true) only [sh_Q, R_W, R_D, R_T, TT, R_A, R_B, BT, R_C, CR, NR, PR, R_L, R_P, R_V, wf_W, wf_P, sh_L, sh_M, sh_W, sh_D, sh_X, sh_P, sh_C, sh_T, sh_S, am_gI_sI, am_gL_sI, am_gR_sI, am_gI_sL, am_gL_sL, am_gR_sL, am_gI_sR, am_gL_sR, am_gR_sR, am_lv_sI, am_lv_sL, am_lv_sR, am_gI_fill, am_gL_fill, am_gR_fill, am_lv_fill, Nat.reduceEqDiff, false_and, true_and, and_false, ↓reduceIte, ne_eq, not_false_eq_true, gR_cl, gI_mcl, gL_mcl, lv_mcl, gR_put, gI_put, gL_put, lv_put] using sQ)⟩, (by simpa (decide := true) only [R_W, R_D, R_T, TT, R_A, R_B, BT, R_C, CR, NR, PR, R_L, R_P, R_V, wf_W, wf_P, sh_L, sh_M, sh_W, sh_D, sh_X, sh_P, sh_C, sh_T, sh_S, am_gI_sI, am_gL_sI, am_gR_sI, am_gI_sL, am_gL_sL, am_gR_sL, am_gI_sR, am_gL_sR, am_gR_sR, am_lv_sI, am_lv_sL, am_lv_sR, am_gI_fill, am_gL_fill, am_gR_fill, am_lv_fill, Nat.reduceEqDiff, false_and, true_and, and_false, ↓reduceIte, ne_eq, not_false_eq_true, gR_cl, gI_mcl, gL_mcl, lv_mcl, gR_put, gI_put, gL_put, lv_put] using hV), ?_, (by simpa (decide := true) only [R_W, R_D, R_T, TT, R_A, R_B, BT, R_C, CR, NR, PR, R_L, R_P, R_V, wf_W, wf_P, sh_L, sh_M, sh_W, sh_D, sh_X, sh_P, sh_C, sh_T, sh_S, am_gI_sI, am_gL_sI, am_gR_sI, am_gI_sL, am_gL_sL, am_gR_sL, am_gI_sR, am_gL_sR, am_gR_sR, am_lv_sI, am_lv_sL, am_lv_sR, am_gI_fill, am_gL_fill, am_gR_fill, am_lv_fill, Nat.reduceEqDiff, false_and, true_and, and_false, ↓reduceIte, ne_eq, not_false_eq_true, gR_cl, gI_mcl, gL_mcl, lv_mcl, gR_put, gI_put, gL_put, lv_put] using wf_P_mono (S2 := 9000 * (n + 1)) (by omega) hP), ?_, (by simpa (decide := true) only [R_W, R_D, R_T, TT, R_A, R_B, BT, R_C, CR, NR, PR, R_L, R_P, R_V, wf_W, wf_P, sh_L, sh_M, sh_W, sh_D, sh_X, sh_P, sh_C, sh_T, sh_S, am_gI_sI, am_gL_sI, am_gR_sI, am_gI_sL, am_gL_sL, am_gR_sL, am_gI_sR, am_gL_sR, am_gR_sR, am_lv_sI, am_lv_sL, am_lv_sR, am_gI_fill, am_gL_fill, am_gR_fill, am_lv_fill, Nat.reduceEqDiff, false_and, true_and, and_false, ↓reduceIte, ne_eq, not_false_eq_true, gR_cl, gI_mcl, gL_mcl, lv_mcl, gR_put, gI_put, gL_put, lv_put] using rD), (by simpa (decide := true) only [R_W, R_D, R_T, TT, R_A, R_B, BT, R_C, CR, NR, PR, R_L, R_P, R_V, wf_W, wf_P, sh_L, sh_M, sh_W, sh_D, sh_X, sh_P, sh_C, sh_T, sh_S, am_gI_sI, am_gL_sI, am_gR_sI, am_gI_sL, am_gL_sL, am_gR_sL, am_gI_sR, am_gL_sR, am_gR_sR, am_lv_sI, am_lv_sL, am_lv_sR, am_gI_fill, am_gL_fill, am_gR_fill, am_lv_fill, Nat.reduceEqDiff, false_and, true_and, and_false, ↓reduceIte, ne_eq, not_false_eq_true, gR_cl, gI_mcl, gL_mcl, lv_mcl, gR_put, gI_put, gL_put, lv_put] using rT), (by simpa (decide := true) only [R_W, R_D, R_T, TT, R_A, R_B, BT, R_C, CR, NR, PR, R_L, R_P, R_V, wf_W, wf_P, sh_L, sh_M, sh_W, sh_D, sh_X, sh_P, sh_C, sh_T, sh_S, am_gI_sI, am_gL_sI, am_gR_sI, am_gI_sL, am_gL_sL, am_gR_sL, am_gI_sR, am_gL_sR, am_gR_sR, am_lv_sI, am_lv_sL, am_lv_sR, am_gI_fill, am_gL_fill, am_gR_fill, am_lv_fill, Nat.reduceEqDiff, false_and, true_and, and_false, ↓reduceIte, ne_eq, not_false_eq_true, gR_cl, gI_mcl, gL_mcl, lv_mcl, gR_put, gI_put, gL_put, lv_put] using rA), (by simpa (decide := true) only [R_W, R_D, R_T, TT, R_A, R_B, BT, R_C, CR, NR, PR, R_L, R_P, R_V, wf_W, wf_P, sh_L, sh_M, sh_W, sh_D, sh_X, sh_P, sh_C, sh_T, sh_S, am_gI_sI, am_gL_sI, am_gR_sI, am_gI_sL, am_gL_sL, am_gR_sL, am_gI_sR, am_gL_sR, am_gR_sR, am_lv_sI, am_lv_sL, am_lv_sR, am_gI_fill, am_gL_fill, am_gR_fill, am_lv_fill, Nat.reduceEqDiff, false_and, true_and, and_false, ↓reduceIte, ne_eq, not_false_eq_true, gR_cl, gI_mcl, gL_mcl, lv_mcl, gR_put, gI_put, gL_put, lv_put] using rB), (by simpa (decide := true) only [R_W, R_D, R_T, TT, R_A, R_B, BT, R_C, CR, NR, PR, R_L, R_P, R_V, wf_W, wf_P, sh_L, sh_M, sh_W, sh_D, sh_X, sh_P, sh_C, sh_T, sh_S, am_gI_sI, am_gL_sI, am_gR_sI, am_gI_sL, am_gL_sL, am_gR_sL, am_gI_sR, am_gL_sR, am_gR_sR, am_lv_sI, am_lv_sL, am_lv_sR, am_gI_fill, am_gL_fill, am_gR_fill, am_lv_fill, Nat.reduceEqDiff, false_and, true_and, and_false, ↓reduceIte, ne_eq, not_false_eq_true, gR_cl, gI_mcl, gL_mcl, lv_mcl, gR_put, gI_put, gL_put, lv_put] using rC), (by simpa (decide := true) only [R_W, R_D, R_T, TT, R_A, R_B, BT, R_C, CR, NR, PR, R_L, R_P, R_V, wf_W, wf_P, sh_L, sh_M, sh_W, sh_D, sh_X, sh_P, sh_C, sh_T, sh_S, am_gI_sI, am_gL_sI, am_gR_sI, am_gI_sL, am_gL_sL, am_gR_sL, am_gI_sR, am_gL_sR, am_gR_sR, am_lv_sI, am_lv_sL, am_lv_sR, am_gI_fill, am_gL_fill, am_gR_fill, am_lv_fill, Nat.reduceEqDiff, false_and, true_and, and_false, ↓reduceIte, ne_eq, not_false_eq_true, gR_cl, gI_mcl, gL_mcl, lv_mcl, gR_put, gI_put, gL_put, lv_put] using rL), (by simpa (decide := true) only [R_W, R_D, R_T, TT, R_A, R_B, BT, R_C, CR, NR, PR, R_L, R_P, R_V, wf_W, wf_P, sh_L, sh_M, sh_W, sh_D, sh_X, sh_P, sh_C, sh_T, sh_S, am_gI_sI, am_gL_sI, am_gR_sI, am_gI_sL, am_gL_sL, am_gR_sL, am_gI_sR, am_gL_sR, am_gR_sR, am_lv_sI, am_lv_sL, am_lv_sR, am_gI_fill, am_gL_fill, am_gR_fill, am_lv_fill, Nat.reduceEqDiff, false_and, true_and, and_false, ↓reduceIte, ne_eq, not_false_eq_true, gR_cl, gI_mcl, gL_mcl, lv_mcl, gR_put, gI_put, gL_put, lv_put] using rP)⟩
  · intro x hx hs
    simp (decide := true) only [R_W, R_D, R_T, TT, R_A, R_B, BT, R_C, CR, NR, PR, R_L, R_P, R_V, wf_W, wf_P, sh_L, sh_M, sh_W, sh_D, sh_X, sh_P, sh_C, sh_T, sh_S, am_gI_sI, am_gL_sI, am_gR_sI, am_gI_sL, am_gL_sL, am_gR_sL, am_gI_sR, am_gL_sR, am_gR_sR, am_lv_sI, am_lv_sL, am_lv_sR, am_gI_fill, am_gL_fill, am_gR_fill, am_lv_fill, Nat.reduceEqDiff, false_and, true_and, and_false, ↓reduceIte, ne_eq, not_false_eq_true, gI_mcl, gL_mcl, gI_put1, gL_put1] at hs ⊢
    by_cases hxk : x = k
    · simp only [hxk, ↓reduceIte] at hs ⊢
      have := h4 hs
      simp (decide := true) only [hs, ↓reduceIte]
      exact ⟨by simpa [Int64.le_iff_toInt_le] using this.1, by simpa [Int64.le_iff_toInt_le] using this.2⟩
    · simp only [hxk, ↓reduceIte] at hs ⊢
      exact hw x hx hs
  · obtain ⟨w1, w2, w3⟩ := rW
    refine ⟨?_, ?_, fun x hx => ?_⟩
    · simp (decide := true) only [R_W, R_D, R_T, TT, R_A, R_B, BT, R_C, CR, NR, PR, R_L, R_P, R_V, wf_W, wf_P, sh_L, sh_M, sh_W, sh_D, sh_X, sh_P, sh_C, sh_T, sh_S, am_gI_sI, am_gL_sI, am_gR_sI, am_gI_sL, am_gL_sL, am_gR_sL, am_gI_sR, am_gL_sR, am_gR_sR, am_lv_sI, am_lv_sL, am_lv_sR, am_gI_fill, am_gL_fill, am_gR_fill, am_lv_fill, Nat.reduceEqDiff, false_and, true_and, and_false, ↓reduceIte, ne_eq, not_false_eq_true, gI_mcl, gL_mcl, gI_put]; exact w1
    · simp (decide := true) only [R_W, R_D, R_T, TT, R_A, R_B, BT, R_C, CR, NR, PR, R_L, R_P, R_V, wf_W, wf_P, sh_L, sh_M, sh_W, sh_D, sh_X, sh_P, sh_C, sh_T, sh_S, am_gI_sI, am_gL_sI, am_gR_sI, am_gI_sL, am_gL_sL, am_gR_sL, am_gI_sR, am_gL_sR, am_gR_sR, am_lv_sI, am_lv_sL, am_lv_sR, am_gI_fill, am_gL_fill, am_gR_fill, am_lv_fill, Nat.reduceEqDiff, false_and, true_and, and_false, ↓reduceIte, ne_eq, not_false_eq_true, gI_mcl, gL_mcl, gI_put]; exact w2
    · obtain ⟨q1, q2, q3⟩ := w3 x hx
      simp (decide := true) only [R_W, R_D, R_T, TT, R_A, R_B, BT, R_C, CR, NR, PR, R_L, R_P, R_V, wf_W, wf_P, sh_L, sh_M, sh_W, sh_D, sh_X, sh_P, sh_C, sh_T, sh_S, am_gI_sI, am_gL_sI, am_gR_sI, am_gI_sL, am_gL_sL, am_gR_sL, am_gI_sR, am_gL_sR, am_gR_sR, am_lv_sI, am_lv_sL, am_lv_sR, am_gI_fill, am_gL_fill, am_gR_fill, am_lv_fill, Nat.reduceEqDiff, false_and, true_and, and_false, ↓reduceIte, ne_eq, not_false_eq_true, gI_mcl, gL_mcl, gI_put, gL_put, gI_put1, gL_put1, gI_put3, gI_mcl1]
      by_cases hxk : x = k
      · subst hxk
        simp only [↓reduceIte, true_and]
        refine ⟨?_, fun hs i hi => ?_⟩
        · rcases s03 h2 h3 with rfl | rfl | rfl | rfl <;> simp (decide := true) only [↓reduceIte]
        · rw [if_pos ⟨hs, by omega, by omega⟩, if_pos ⟨by omega, by omega⟩]
      · simp only [hxk, ↓reduceIte, false_and]
        refine ⟨q1, q2, fun hs i hi => ?_⟩
        rw [if_neg (fun q => by omega), if_neg (fun q => by omega)]
        exact q3 hs i hi
theorem p_Row (a0 : Int32) (a1 : Int32) (a2 : Int32) : am_prI l RI 83 136 [.inl a0, .inl a1, .inl a2] := by
  intro n H hn hR
  have hR0 := RI_s n H hR
  obtain ⟨D, T, N, K, Mt, TA, Cn, ⟨sL, sM, sW, sD, sX, sQ⟩, hV, hw, hP, rW, rD, rT, rA, rB, rC, rL, rP⟩ := hR
  by_cases hk : ¬ (0 ≤ a0 ∧ a0 < 12)
  · exact pr_of (c_row_1 a0 a1 a2 sX sM sW hk) (by decide) (m_row_1 a0 a1 a2 hk) (by decide) hR0
  have hk := Classical.not_not.mp hk
  obtain ⟨k, hk12, rfl⟩ := k12 hk
  have ck : (nI k).toNatClampNeg = k := am_cz12 hk12
  obtain ⟨q1, q2, q3⟩ := rW.2.2 k hk12
  by_cases h3 : am_gI H 701 0 k = 3
  · obtain ⟨w1, w2⟩ := hw k hk12 h3
    have h9 : am_gI H 901 0 (nI k).toNatClampNeg = 3 := by rw [ck, ← q1]; exact h3
    have hfd : sp_find H (nI k) 3 a1 = if a1 < 0 ∨ am_gL H 702 0 k ≤ a1.toInt64 then 2 else 0 := by
      unfold sp_find
      rw [ck, if_neg (by rw [h3]; decide), if_pos h3]
      simp only [true_and]
    have hcv : (0 ≤ a1 ∧ a1.toInt64 ≤ am_gL H 902 0 k - 1) ↔ ¬ (a1 < 0 ∨ am_gL H 702 0 k ≤ a1.toInt64) := by
      rw [← q2, not_or, Int32.not_lt, Int64.not_le]
      have e1 : (am_gL H 702 0 k - 1).toInt = (am_gL H 702 0 k).toInt - 1 := by
        rw [Int64.toInt_sub]
        simp only [Int.bmod, show (1 : Int64).toInt = 1 from rfl]
        omega
      simp only [Int64.le_iff_toInt_le, Int64.lt_iff_toInt_lt, Int32.toInt_toInt64, e1, Int32.reduceToInt, Int32.le_iff_toInt_le]
      omega
    by_cases hf : a1 < 0 ∨ am_gL H 702 0 k ≤ a1.toInt64
    · rw [if_pos hf] at hfd
      have hc := c_row_2 (l := l) (nI k) a1 a2 sX sM sW hk (by rw [hfd]; decide)
      rw [hfd] at hc
      exact pr_of hc (by decide) (m_row_3 (nI k) a1 a2 sQ hk h9 (by rw [ck]; exact fun q => hcv.mp q hf)) (by decide) hR0
    · rw [if_neg hf] at hfd
      have h72 := am_72 hw (am_v12' hk) hfd
      rw [nI_m6] at h72
      have hc := c_row_3 (l := l) (nI k) a1 a2 sX sM sW hk hw hfd
      rw [nI_m6] at hc
      have sQ1 : sh_Q (am_sI H 703 0 (nI (k * 6) + a1).toNatClampNeg a2) := sQ
      refine pr_of hc (by decide) (m_row_4 k a1 a2 sQ1 hk12 ?_ ?_ h72) (by decide) ?_
      · rw [ck] at h9
        simp (decide := true) only [R_W, R_D, R_T, TT, R_A, R_B, BT, R_C, CR, NR, PR, R_L, R_P, R_V, wf_W, wf_P, sh_L, sh_M, sh_W, sh_D, sh_X, sh_P, sh_C, sh_T, sh_S, am_gI_sI, am_gL_sI, am_gR_sI, am_gI_sL, am_gL_sL, am_gR_sL, am_gI_sR, am_gL_sR, am_gR_sR, am_lv_sI, am_lv_sL, am_lv_sR, am_gI_fill, am_gL_fill, am_gR_fill, am_lv_fill, Nat.reduceEqDiff, false_and, true_and, and_false, ↓reduceIte, ne_eq, not_false_eq_true]; exact h9
      · simp (decide := true) only [R_W, R_D, R_T, TT, R_A, R_B, BT, R_C, CR, NR, PR, R_L, R_P, R_V, wf_W, wf_P, sh_L, sh_M, sh_W, sh_D, sh_X, sh_P, sh_C, sh_T, sh_S, am_gI_sI, am_gL_sI, am_gR_sI, am_gI_sL, am_gL_sL, am_gR_sL, am_gI_sR, am_gL_sR, am_gR_sR, am_lv_sI, am_lv_sL, am_lv_sR, am_gI_fill, am_gL_fill, am_gR_fill, am_lv_fill, Nat.reduceEqDiff, false_and, true_and, and_false, ↓reduceIte, ne_eq, not_false_eq_true]; exact hcv.mpr hf
      · skip
        refine ⟨D, T, N, K, Mt, TA, Cn, ⟨(by simpa (decide := true) only [sh_Q, R_W, R_D, R_T, TT, R_A, R_B, BT, R_C, CR, NR, PR, R_L, R_P, R_V, wf_W, wf_P, sh_L, sh_M, sh_W, sh_D, sh_X, sh_P, sh_C, sh_T, sh_S, am_gI_sI, am_gL_sI, am_gR_sI, am_gI_sL, am_gL_sL, am_gR_sL, am_gI_sR, am_gL_sR, am_gR_sR, am_lv_sI, am_lv_sL, am_lv_sR, am_gI_fill, am_gL_fill, am_gR_fill, am_lv_fill, Nat.reduceEqDiff, false_and, true_and, and_false, ↓reduceIte, ne_eq, not_false_eq_true] using sL), (by simpa (decide := true) only [sh_Q, R_W, R_D, R_T, TT, R_A, R_B, BT, R_C, CR, NR, PR, R_L, R_P, R_V, wf_W, wf_P, sh_L, sh_M, sh_W, sh_D, sh_X, sh_P, sh_C, sh_T, sh_S, am_gI_sI, am_gL_sI, am_gR_sI, am_gI_sL, am_gL_sL, am_gR_sL, am_gI_sR, am_gL_sR, am_gR_sR, am_lv_sI, am_lv_sL, am_lv_sR, am_gI_fill, am_gL_fill, am_gR_fill, am_lv_fill, Nat.reduceEqDiff, false_and, true_and, and_false, ↓reduceIte, ne_eq, not_false_eq_true] using sM), (by simpa (decide := true) only [sh_Q, R_W, R_D, R_T, TT, R_A, R_B, BT, R_C, CR, NR, PR, R_L, R_P, R_V, wf_W, wf_P, sh_L, sh_M, sh_W, sh_D, sh_X, sh_P, sh_C, sh_T, sh_S, am_gI_sI, am_gL_sI, am_gR_sI, am_gI_sL, am_gL_sL, am_gR_sL, am_gI_sR, am_gL_sR, am_gR_sR, am_lv_sI, am_lv_sL, am_lv_sR, am_gI_fill, am_gL_fill, am_gR_fill, am_lv_fill, Nat.reduceEqDiff, false_and, true_and, and_false, ↓reduceIte, ne_eq, not_false_eq_true] using sW), (by simpa (decide := true) only [sh_Q, R_W, R_D, R_T, TT, R_A, R_B, BT, R_C, CR, NR, PR, R_L, R_P, R_V, wf_W, wf_P, sh_L, sh_M, sh_W, sh_D, sh_X, sh_P, sh_C, sh_T, sh_S, am_gI_sI, am_gL_sI, am_gR_sI, am_gI_sL, am_gL_sL, am_gR_sL, am_gI_sR, am_gL_sR, am_gR_sR, am_lv_sI, am_lv_sL, am_lv_sR, am_gI_fill, am_gL_fill, am_gR_fill, am_lv_fill, Nat.reduceEqDiff, false_and, true_and, and_false, ↓reduceIte, ne_eq, not_false_eq_true] using sD), (by simpa (decide := true) only [sh_Q, R_W, R_D, R_T, TT, R_A, R_B, BT, R_C, CR, NR, PR, R_L, R_P, R_V, wf_W, wf_P, sh_L, sh_M, sh_W, sh_D, sh_X, sh_P, sh_C, sh_T, sh_S, am_gI_sI, am_gL_sI, am_gR_sI, am_gI_sL, am_gL_sL, am_gR_sL, am_gI_sR, am_gL_sR, am_gR_sR, am_lv_sI, am_lv_sL, am_lv_sR, am_gI_fill, am_gL_fill, am_gR_fill, am_lv_fill, Nat.reduceEqDiff, false_and, true_and, and_false, ↓reduceIte, ne_eq, not_false_eq_true] using sX), (by simpa (decide := true) only [sh_Q, R_W, R_D, R_T, TT, R_A, R_B, BT, R_C, CR, NR, PR, R_L, R_P, R_V, wf_W, wf_P, sh_L, sh_M, sh_W, sh_D, sh_X, sh_P, sh_C, sh_T, sh_S, am_gI_sI, am_gL_sI, am_gR_sI, am_gI_sL, am_gL_sL, am_gR_sL, am_gI_sR, am_gL_sR, am_gR_sR, am_lv_sI, am_lv_sL, am_lv_sR, am_gI_fill, am_gL_fill, am_gR_fill, am_lv_fill, Nat.reduceEqDiff, false_and, true_and, and_false, ↓reduceIte, ne_eq, not_false_eq_true] using sQ)⟩, (by simpa (decide := true) only [R_W, R_D, R_T, TT, R_A, R_B, BT, R_C, CR, NR, PR, R_L, R_P, R_V, wf_W, wf_P, sh_L, sh_M, sh_W, sh_D, sh_X, sh_P, sh_C, sh_T, sh_S, am_gI_sI, am_gL_sI, am_gR_sI, am_gI_sL, am_gL_sL, am_gR_sL, am_gI_sR, am_gL_sR, am_gR_sR, am_lv_sI, am_lv_sL, am_lv_sR, am_gI_fill, am_gL_fill, am_gR_fill, am_lv_fill, Nat.reduceEqDiff, false_and, true_and, and_false, ↓reduceIte, ne_eq, not_false_eq_true] using hV), (by simpa (decide := true) only [R_W, R_D, R_T, TT, R_A, R_B, BT, R_C, CR, NR, PR, R_L, R_P, R_V, wf_W, wf_P, sh_L, sh_M, sh_W, sh_D, sh_X, sh_P, sh_C, sh_T, sh_S, am_gI_sI, am_gL_sI, am_gR_sI, am_gI_sL, am_gL_sL, am_gR_sL, am_gI_sR, am_gL_sR, am_gR_sR, am_lv_sI, am_lv_sL, am_lv_sR, am_gI_fill, am_gL_fill, am_gR_fill, am_lv_fill, Nat.reduceEqDiff, false_and, true_and, and_false, ↓reduceIte, ne_eq, not_false_eq_true] using hw), (by simpa (decide := true) only [R_W, R_D, R_T, TT, R_A, R_B, BT, R_C, CR, NR, PR, R_L, R_P, R_V, wf_W, wf_P, sh_L, sh_M, sh_W, sh_D, sh_X, sh_P, sh_C, sh_T, sh_S, am_gI_sI, am_gL_sI, am_gR_sI, am_gI_sL, am_gL_sL, am_gR_sL, am_gI_sR, am_gL_sR, am_gR_sR, am_lv_sI, am_lv_sL, am_lv_sR, am_gI_fill, am_gL_fill, am_gR_fill, am_lv_fill, Nat.reduceEqDiff, false_and, true_and, and_false, ↓reduceIte, ne_eq, not_false_eq_true] using wf_P_mono (S2 := 9000 * (n + 1)) (by omega) hP), ?_, (by simpa (decide := true) only [R_W, R_D, R_T, TT, R_A, R_B, BT, R_C, CR, NR, PR, R_L, R_P, R_V, wf_W, wf_P, sh_L, sh_M, sh_W, sh_D, sh_X, sh_P, sh_C, sh_T, sh_S, am_gI_sI, am_gL_sI, am_gR_sI, am_gI_sL, am_gL_sL, am_gR_sL, am_gI_sR, am_gL_sR, am_gR_sR, am_lv_sI, am_lv_sL, am_lv_sR, am_gI_fill, am_gL_fill, am_gR_fill, am_lv_fill, Nat.reduceEqDiff, false_and, true_and, and_false, ↓reduceIte, ne_eq, not_false_eq_true] using rD), (by simpa (decide := true) only [R_W, R_D, R_T, TT, R_A, R_B, BT, R_C, CR, NR, PR, R_L, R_P, R_V, wf_W, wf_P, sh_L, sh_M, sh_W, sh_D, sh_X, sh_P, sh_C, sh_T, sh_S, am_gI_sI, am_gL_sI, am_gR_sI, am_gI_sL, am_gL_sL, am_gR_sL, am_gI_sR, am_gL_sR, am_gR_sR, am_lv_sI, am_lv_sL, am_lv_sR, am_gI_fill, am_gL_fill, am_gR_fill, am_lv_fill, Nat.reduceEqDiff, false_and, true_and, and_false, ↓reduceIte, ne_eq, not_false_eq_true] using rT), (by simpa (decide := true) only [R_W, R_D, R_T, TT, R_A, R_B, BT, R_C, CR, NR, PR, R_L, R_P, R_V, wf_W, wf_P, sh_L, sh_M, sh_W, sh_D, sh_X, sh_P, sh_C, sh_T, sh_S, am_gI_sI, am_gL_sI, am_gR_sI, am_gI_sL, am_gL_sL, am_gR_sL, am_gI_sR, am_gL_sR, am_gR_sR, am_lv_sI, am_lv_sL, am_lv_sR, am_gI_fill, am_gL_fill, am_gR_fill, am_lv_fill, Nat.reduceEqDiff, false_and, true_and, and_false, ↓reduceIte, ne_eq, not_false_eq_true] using rA), (by simpa (decide := true) only [R_W, R_D, R_T, TT, R_A, R_B, BT, R_C, CR, NR, PR, R_L, R_P, R_V, wf_W, wf_P, sh_L, sh_M, sh_W, sh_D, sh_X, sh_P, sh_C, sh_T, sh_S, am_gI_sI, am_gL_sI, am_gR_sI, am_gI_sL, am_gL_sL, am_gR_sL, am_gI_sR, am_gL_sR, am_gR_sR, am_lv_sI, am_lv_sL, am_lv_sR, am_gI_fill, am_gL_fill, am_gR_fill, am_lv_fill, Nat.reduceEqDiff, false_and, true_and, and_false, ↓reduceIte, ne_eq, not_false_eq_true] using rB), (by simpa (decide := true) only [R_W, R_D, R_T, TT, R_A, R_B, BT, R_C, CR, NR, PR, R_L, R_P, R_V, wf_W, wf_P, sh_L, sh_M, sh_W, sh_D, sh_X, sh_P, sh_C, sh_T, sh_S, am_gI_sI, am_gL_sI, am_gR_sI, am_gI_sL, am_gL_sL, am_gR_sL, am_gI_sR, am_gL_sR, am_gR_sR, am_lv_sI, am_lv_sL, am_lv_sR, am_gI_fill, am_gL_fill, am_gR_fill, am_lv_fill, Nat.reduceEqDiff, false_and, true_and, and_false, ↓reduceIte, ne_eq, not_false_eq_true] using rC), (by simpa (decide := true) only [R_W, R_D, R_T, TT, R_A, R_B, BT, R_C, CR, NR, PR, R_L, R_P, R_V, wf_W, wf_P, sh_L, sh_M, sh_W, sh_D, sh_X, sh_P, sh_C, sh_T, sh_S, am_gI_sI, am_gL_sI, am_gR_sI, am_gI_sL, am_gL_sL, am_gR_sL, am_gI_sR, am_gL_sR, am_gR_sR, am_lv_sI, am_lv_sL, am_lv_sR, am_gI_fill, am_gL_fill, am_gR_fill, am_lv_fill, Nat.reduceEqDiff, false_and, true_and, and_false, ↓reduceIte, ne_eq, not_false_eq_true] using rL), (by simpa (decide := true) only [R_W, R_D, R_T, TT, R_A, R_B, BT, R_C, CR, NR, PR, R_L, R_P, R_V, wf_W, wf_P, sh_L, sh_M, sh_W, sh_D, sh_X, sh_P, sh_C, sh_T, sh_S, am_gI_sI, am_gL_sI, am_gR_sI, am_gI_sL, am_gL_sL, am_gR_sL, am_gI_sR, am_gL_sR, am_gR_sR, am_lv_sI, am_lv_sL, am_lv_sR, am_gI_fill, am_gL_fill, am_gR_fill, am_lv_fill, Nat.reduceEqDiff, false_and, true_and, and_false, ↓reduceIte, ne_eq, not_false_eq_true] using rP)⟩
        obtain ⟨w1, w2, w3⟩ := rW
        refine ⟨?_, ?_, fun x hx => ?_⟩
        · simp (decide := true) only [R_W, R_D, R_T, TT, R_A, R_B, BT, R_C, CR, NR, PR, R_L, R_P, R_V, wf_W, wf_P, sh_L, sh_M, sh_W, sh_D, sh_X, sh_P, sh_C, sh_T, sh_S, am_gI_sI, am_gL_sI, am_gR_sI, am_gI_sL, am_gL_sL, am_gR_sL, am_gI_sR, am_gL_sR, am_gR_sR, am_lv_sI, am_lv_sL, am_lv_sR, am_gI_fill, am_gL_fill, am_gR_fill, am_lv_fill, Nat.reduceEqDiff, false_and, true_and, and_false, ↓reduceIte, ne_eq, not_false_eq_true]; exact w1
        · simp (decide := true) only [R_W, R_D, R_T, TT, R_A, R_B, BT, R_C, CR, NR, PR, R_L, R_P, R_V, wf_W, wf_P, sh_L, sh_M, sh_W, sh_D, sh_X, sh_P, sh_C, sh_T, sh_S, am_gI_sI, am_gL_sI, am_gR_sI, am_gI_sL, am_gL_sL, am_gR_sL, am_gI_sR, am_gL_sR, am_gR_sR, am_lv_sI, am_lv_sL, am_lv_sR, am_gI_fill, am_gL_fill, am_gR_fill, am_lv_fill, Nat.reduceEqDiff, false_and, true_and, and_false, ↓reduceIte, ne_eq, not_false_eq_true]; exact w2
        · simp (decide := true) only [R_W, R_D, R_T, TT, R_A, R_B, BT, R_C, CR, NR, PR, R_L, R_P, R_V, wf_W, wf_P, sh_L, sh_M, sh_W, sh_D, sh_X, sh_P, sh_C, sh_T, sh_S, am_gI_sI, am_gL_sI, am_gR_sI, am_gI_sL, am_gL_sL, am_gR_sL, am_gI_sR, am_gL_sR, am_gR_sR, am_lv_sI, am_lv_sL, am_lv_sR, am_gI_fill, am_gL_fill, am_gR_fill, am_lv_fill, Nat.reduceEqDiff, false_and, true_and, and_false, ↓reduceIte, ne_eq, not_false_eq_true]
          refine ⟨(w3 x hx).1, (w3 x hx).2.1, fun hs i hi => ?_⟩
          rw [(w3 x hx).2.2 hs i hi]
  · have hfd : sp_find H (nI k) 3 a1 = if am_gI H 701 0 k = 0 then 1 else 3 := by
      unfold sp_find
      rw [ck]
      split
      · rfl
      · first | rfl | rw [if_neg h3]
    have h9 : ¬ am_gI H 901 0 (nI k).toNatClampNeg = 3 := by rw [ck, ← q1]; exact h3
    have hm := m_row_2 (l := l) (nI k) a1 a2 sQ hk h9
    rw [ck, ← q1] at hm
    have hc := c_row_2 (l := l) (nI k) a1 a2 sX sM sW hk (by rw [hfd]; split <;> decide)
    rw [hfd] at hc
    refine pr_of (v := if am_gI H 701 0 k = 0 then -11 else -13) (d1 := 1) ?_ (by decide) hm (by decide) hR0
    rw [show (if am_gI H 701 0 k = 0 then (-11 : Int32) else -13) = -10 - (if am_gI H 701 0 k = 0 then 1 else 3) by split <;> rfl]
    exact hc
theorem p_Has (a0 : Int32) (a1 : Int32) : am_prL l RI 85 137 [.inl a0, .inl a1] := by
  intro n H hn hR
  have hR0 := RI_s n H hR
  obtain ⟨D, T, N, K, Mt, TA, Cn, ⟨sL, sM, sW, sD, sX, sQ⟩, hV, hw, hP, rW, rD, rT, rA, rB, rC, rL, rP⟩ := hR
  have hc := c_has (l := l) a0 a1 sX sM sW
  by_cases hk : 0 ≤ a0 ∧ a0 < 12
  · obtain ⟨k, hk12, rfl⟩ := k12 hk
    have ck : (nI k).toNatClampNeg = k := am_cz12 hk12
    obtain ⟨q1, q2, q3⟩ := rW.2.2 k hk12
    have hm := m_has_2 (l := l) (nI k) a1 sQ hk
    rw [ck, ← q1, ← q2] at hm
    have e : sp_has H (nI k) a1 = if a1 = 0 then (am_gI H 701 0 k).toInt64 else if a1 = 1 then am_gL H 702 0 k else -1 := by
      unfold sp_has
      rw [ck]
      by_cases h0 : a1 = 0 <;> by_cases h1 : a1 = 1 <;> simp_all
    rw [e] at hc
    exact pr_ofL hc (by decide) hm (by decide) hR0
  · have hm := m_has_1 (l := l) a0 a1 sQ hk
    have e : sp_has H a0 a1 = if a1 = 1 then 0 else -1 := by
      unfold sp_has
      by_cases h1 : a1 = 1
      · rw [if_pos h1, if_neg hk, if_pos h1]
      · rw [if_neg h1, if_neg (fun q => hk q.2), if_neg h1]
    rw [e] at hc
    exact pr_ofL hc (by decide) hm (by decide) hR0
theorem p_Count (a0 : Int32) (a1 : Int32) : am_prI l RI 91 142 [.inl a0, .inl a1] := by
  intro n H hn hR
  have hR0 := RI_s n H hR
  obtain ⟨D, T, N, K, Mt, TA, Cn, ⟨sL, sM, sW, sD, sX, sQ⟩, hV, hw, hP, rW, rD, rT, rA, rB, rC, rL, rP⟩ := hR
  obtain ⟨c6, c1, c2, c3, c4⟩ := rC
  by_cases hc : 0 ≤ a0 ∧ a0 < nI Cn
  · obtain ⟨c, hcc, rfl⟩ := nI_r (by omega) hc
    obtain ⟨b1, b2, b3, b4, b5⟩ := c3 c hcc
    have hcl := c_count (l := l) c a1 sX c1 c6 hcc b2 b1
    by_cases hw9 : 0 ≤ a1 ∧ a1 < 9
    · rw [if_pos hw9] at hcl
      obtain ⟨w, hw9', rfl⟩ := nI_r (n := 9) (by decide) hw9
      rw [nI_clamp (show w < 2 ^ 31 by omega)] at hcl
      by_cases hw8 : w = 8
      · subst hw8
        have hm := m_count_3 (l := l) c sQ c2 c6 hcc
        have e : am_gI H 926 0 c = am_gI H 209 c 8 := by
          rcases b5 with ⟨-, e1, e2⟩ | ⟨t, -, -, e1, e2, -⟩
          · rw [e1, e2]
          · rw [e1, e2]
        rw [e] at hm
        exact pr_of hcl (by decide) hm (by decide) hR0
      · have hm := m_count_2 (l := l) c w sQ c2 c6 hcc (by omega)
        rw [← b3 w (by omega)] at hm
        exact pr_of hcl (by decide) hm (by decide) hR0
    · rw [if_neg hw9] at hcl
      exact pr_of hcl (by decide) (m_count_4 (l := l) c a1 sQ c2 c6 hcc hw9) (by decide) hR0
  · exact pr_of (c_count_1 a0 a1 sX (by rw [c1]; exact hc)) (by decide) (m_count_1 a0 a1 (by rw [c2, le_p (by omega)]; exact hc)) (by decide) hR0
theorem p_All (a0 : Int32) : am_prI l RI 92 143 [.inl a0] := by
  intro n H hn hR
  have hR0 := RI_s n H hR
  obtain ⟨D, T, N, K, Mt, TA, Cn, ⟨sL, sM, sW, sD, sX, sQ⟩, hV, hw, hP, rW, rD, rT, rA, rB, rC, rL, rP⟩ := hR
  obtain ⟨a, ha, l1, l2, -⟩ := rL
  have hm := m_all (l := l) a0 sQ (fun _ => by rw [rT.2.2.1]; exact vp_in_nI (by have := rT.1; omega) (by decide))
  have hMc : (nI Mt).toNatClampNeg = Mt := nI_clamp (by have := rT.1; omega)
  rw [rT.2.2.1, hMc, rD.2.2.1, rC.2.2.1, ← rW.1, l2] at hm
  rcases rB with ⟨b1, b2⟩ | ⟨b1, b2, b3⟩
  · have hc := c_all_n (l := l) a0 sX sM b1
    rw [b2, if_pos rfl] at hm
    unfold sp_all at hc
    rw [rT.2.1, rD.2.1, rC.2.1, l1] at hc
    exact pr_of hc (by decide) hm (by decide) hR0
  · have hc := c_all_s (l := l) a0 sX sM b1
    obtain ⟨-, -, n0, p, B, lk, -, e1, e2, e3, -⟩ := b3
    rw [b2, if_neg (show ¬ (1 : Int32) = 0 by decide), e3] at hm
    unfold sp_all at hc
    rw [rT.2.1, rD.2.1, rC.2.1, l1, e1] at hc
    exact pr_of hc (by decide) hm (by decide) hR0
theorem p_Forget : am_prI l RI 27 107 [] := by
  intro n H hn hR
  have hR0 := RI_s n H hR
  obtain ⟨D, T, N, K, Mt, TA, Cn, ⟨sL, sM, sW, sD, sX, sQ⟩, hV, hw, hP, rW, rD, rT, rA, rB, rC, rL, rP⟩ := hR
  rcases rB with ⟨b1, b2⟩ | ⟨b1, b2, b3⟩
  · exact pr_of (c_forget_n b1) (by decide) (m_forget_n b2) (by decide) hR0
  · obtain ⟨-, -, n0, p, B, lk, -, e1, e2, e3, -⟩ := b3
    have hc := c_forget (l := l) b1
    have sQ1 : sh_Q (am_sR H 7 0 5 none) := by simpa (decide := true) only [sh_Q, R_W, R_D, R_T, TT, R_A, R_B, BT, R_C, CR, NR, PR, R_L, R_P, R_V, wf_W, wf_P, sh_L, sh_M, sh_W, sh_D, sh_X, sh_P, sh_C, sh_T, sh_S, am_gI_sI, am_gL_sI, am_gR_sI, am_gI_sL, am_gL_sL, am_gR_sL, am_gI_sR, am_gL_sR, am_gR_sR, am_lv_sI, am_lv_sL, am_lv_sR, am_gI_fill, am_gL_fill, am_gR_fill, am_lv_fill, Nat.reduceEqDiff, false_and, true_and, and_false, ↓reduceIte, ne_eq, not_false_eq_true] using sQ
    have hm := m_forget (l := l) (H := am_sR H 7 0 5 none) Mt sQ1 (by show ¬ am_gI H 8 0 15 = 0; rw [b2]; decide) rT.2.2.1 (by have := rT.1; omega)
    rw [e1] at hc
    rw [show am_gI (am_sR H 7 0 5 none) 917 0 Mt = nI n0 from e3] at hm
    refine pr_of hc (by decide) hm (by decide) ?_
    refine ⟨D, T, N, K, Mt, TA, Cn, ⟨(by simpa (decide := true) only [sh_Q, R_W, R_D, R_T, TT, R_A, R_B, BT, R_C, CR, NR, PR, R_L, R_P, R_V, wf_W, wf_P, sh_L, sh_M, sh_W, sh_D, sh_X, sh_P, sh_C, sh_T, sh_S, am_gI_sI, am_gL_sI, am_gR_sI, am_gI_sL, am_gL_sL, am_gR_sL, am_gI_sR, am_gL_sR, am_gR_sR, am_lv_sI, am_lv_sL, am_lv_sR, am_gI_fill, am_gL_fill, am_gR_fill, am_lv_fill, Nat.reduceEqDiff, false_and, true_and, and_false, ↓reduceIte, ne_eq, not_false_eq_true] using sL), (by simpa (decide := true) only [sh_Q, R_W, R_D, R_T, TT, R_A, R_B, BT, R_C, CR, NR, PR, R_L, R_P, R_V, wf_W, wf_P, sh_L, sh_M, sh_W, sh_D, sh_X, sh_P, sh_C, sh_T, sh_S, am_gI_sI, am_gL_sI, am_gR_sI, am_gI_sL, am_gL_sL, am_gR_sL, am_gI_sR, am_gL_sR, am_gR_sR, am_lv_sI, am_lv_sL, am_lv_sR, am_gI_fill, am_gL_fill, am_gR_fill, am_lv_fill, Nat.reduceEqDiff, false_and, true_and, and_false, ↓reduceIte, ne_eq, not_false_eq_true] using sM), (by simpa (decide := true) only [sh_Q, R_W, R_D, R_T, TT, R_A, R_B, BT, R_C, CR, NR, PR, R_L, R_P, R_V, wf_W, wf_P, sh_L, sh_M, sh_W, sh_D, sh_X, sh_P, sh_C, sh_T, sh_S, am_gI_sI, am_gL_sI, am_gR_sI, am_gI_sL, am_gL_sL, am_gR_sL, am_gI_sR, am_gL_sR, am_gR_sR, am_lv_sI, am_lv_sL, am_lv_sR, am_gI_fill, am_gL_fill, am_gR_fill, am_lv_fill, Nat.reduceEqDiff, false_and, true_and, and_false, ↓reduceIte, ne_eq, not_false_eq_true] using sW), (by simpa (decide := true) only [sh_Q, R_W, R_D, R_T, TT, R_A, R_B, BT, R_C, CR, NR, PR, R_L, R_P, R_V, wf_W, wf_P, sh_L, sh_M, sh_W, sh_D, sh_X, sh_P, sh_C, sh_T, sh_S, am_gI_sI, am_gL_sI, am_gR_sI, am_gI_sL, am_gL_sL, am_gR_sL, am_gI_sR, am_gL_sR, am_gR_sR, am_lv_sI, am_lv_sL, am_lv_sR, am_gI_fill, am_gL_fill, am_gR_fill, am_lv_fill, Nat.reduceEqDiff, false_and, true_and, and_false, ↓reduceIte, ne_eq, not_false_eq_true] using sD), (by simpa (decide := true) only [sh_Q, R_W, R_D, R_T, TT, R_A, R_B, BT, R_C, CR, NR, PR, R_L, R_P, R_V, wf_W, wf_P, sh_L, sh_M, sh_W, sh_D, sh_X, sh_P, sh_C, sh_T, sh_S, am_gI_sI, am_gL_sI, am_gR_sI, am_gI_sL, am_gL_sL, am_gR_sL, am_gI_sR, am_gL_sR, am_gR_sR, am_lv_sI, am_lv_sL, am_lv_sR, am_gI_fill, am_gL_fill, am_gR_fill, am_lv_fill, Nat.reduceEqDiff, false_and, true_and, and_false, ↓reduceIte, ne_eq, not_false_eq_true] using sX), (by simpa (decide := true) only [sh_Q, R_W, R_D, R_T, TT, R_A, R_B, BT, R_C, CR, NR, PR, R_L, R_P, R_V, wf_W, wf_P, sh_L, sh_M, sh_W, sh_D, sh_X, sh_P, sh_C, sh_T, sh_S, am_gI_sI, am_gL_sI, am_gR_sI, am_gI_sL, am_gL_sL, am_gR_sL, am_gI_sR, am_gL_sR, am_gR_sR, am_lv_sI, am_lv_sL, am_lv_sR, am_gI_fill, am_gL_fill, am_gR_fill, am_lv_fill, Nat.reduceEqDiff, false_and, true_and, and_false, ↓reduceIte, ne_eq, not_false_eq_true] using sQ)⟩, (by simpa (decide := true) only [R_W, R_D, R_T, TT, R_A, R_B, BT, R_C, CR, NR, PR, R_L, R_P, R_V, wf_W, wf_P, sh_L, sh_M, sh_W, sh_D, sh_X, sh_P, sh_C, sh_T, sh_S, am_gI_sI, am_gL_sI, am_gR_sI, am_gI_sL, am_gL_sL, am_gR_sL, am_gI_sR, am_gL_sR, am_gR_sR, am_lv_sI, am_lv_sL, am_lv_sR, am_gI_fill, am_gL_fill, am_gR_fill, am_lv_fill, Nat.reduceEqDiff, false_and, true_and, and_false, ↓reduceIte, ne_eq, not_false_eq_true] using hV), (by simpa (decide := true) only [R_W, R_D, R_T, TT, R_A, R_B, BT, R_C, CR, NR, PR, R_L, R_P, R_V, wf_W, wf_P, sh_L, sh_M, sh_W, sh_D, sh_X, sh_P, sh_C, sh_T, sh_S, am_gI_sI, am_gL_sI, am_gR_sI, am_gI_sL, am_gL_sL, am_gR_sL, am_gI_sR, am_gL_sR, am_gR_sR, am_lv_sI, am_lv_sL, am_lv_sR, am_gI_fill, am_gL_fill, am_gR_fill, am_lv_fill, Nat.reduceEqDiff, false_and, true_and, and_false, ↓reduceIte, ne_eq, not_false_eq_true] using hw), (by simpa (decide := true) only [R_W, R_D, R_T, TT, R_A, R_B, BT, R_C, CR, NR, PR, R_L, R_P, R_V, wf_W, wf_P, sh_L, sh_M, sh_W, sh_D, sh_X, sh_P, sh_C, sh_T, sh_S, am_gI_sI, am_gL_sI, am_gR_sI, am_gI_sL, am_gL_sL, am_gR_sL, am_gI_sR, am_gL_sR, am_gR_sR, am_lv_sI, am_lv_sL, am_lv_sR, am_gI_fill, am_gL_fill, am_gR_fill, am_lv_fill, Nat.reduceEqDiff, false_and, true_and, and_false, ↓reduceIte, ne_eq, not_false_eq_true] using wf_P_mono (S2 := 9000 * (n + 1)) (by omega) hP), (by simpa (decide := true) only [R_W, R_D, R_T, TT, R_A, R_B, BT, R_C, CR, NR, PR, R_L, R_P, R_V, wf_W, wf_P, sh_L, sh_M, sh_W, sh_D, sh_X, sh_P, sh_C, sh_T, sh_S, am_gI_sI, am_gL_sI, am_gR_sI, am_gI_sL, am_gL_sL, am_gR_sL, am_gI_sR, am_gL_sR, am_gR_sR, am_lv_sI, am_lv_sL, am_lv_sR, am_gI_fill, am_gL_fill, am_gR_fill, am_lv_fill, Nat.reduceEqDiff, false_and, true_and, and_false, ↓reduceIte, ne_eq, not_false_eq_true] using rW), (by simpa (decide := true) only [R_W, R_D, R_T, TT, R_A, R_B, BT, R_C, CR, NR, PR, R_L, R_P, R_V, wf_W, wf_P, sh_L, sh_M, sh_W, sh_D, sh_X, sh_P, sh_C, sh_T, sh_S, am_gI_sI, am_gL_sI, am_gR_sI, am_gI_sL, am_gL_sL, am_gR_sL, am_gI_sR, am_gL_sR, am_gR_sR, am_lv_sI, am_lv_sL, am_lv_sR, am_gI_fill, am_gL_fill, am_gR_fill, am_lv_fill, Nat.reduceEqDiff, false_and, true_and, and_false, ↓reduceIte, ne_eq, not_false_eq_true] using rD), (by simpa (decide := true) only [R_W, R_D, R_T, TT, R_A, R_B, BT, R_C, CR, NR, PR, R_L, R_P, R_V, wf_W, wf_P, sh_L, sh_M, sh_W, sh_D, sh_X, sh_P, sh_C, sh_T, sh_S, am_gI_sI, am_gL_sI, am_gR_sI, am_gI_sL, am_gL_sL, am_gR_sL, am_gI_sR, am_gL_sR, am_gR_sR, am_lv_sI, am_lv_sL, am_lv_sR, am_gI_fill, am_gL_fill, am_gR_fill, am_lv_fill, Nat.reduceEqDiff, false_and, true_and, and_false, ↓reduceIte, ne_eq, not_false_eq_true] using rT), (by simpa (decide := true) only [R_W, R_D, R_T, TT, R_A, R_B, BT, R_C, CR, NR, PR, R_L, R_P, R_V, wf_W, wf_P, sh_L, sh_M, sh_W, sh_D, sh_X, sh_P, sh_C, sh_T, sh_S, am_gI_sI, am_gL_sI, am_gR_sI, am_gI_sL, am_gL_sL, am_gR_sL, am_gI_sR, am_gL_sR, am_gR_sR, am_lv_sI, am_lv_sL, am_lv_sR, am_gI_fill, am_gL_fill, am_gR_fill, am_lv_fill, Nat.reduceEqDiff, false_and, true_and, and_false, ↓reduceIte, ne_eq, not_false_eq_true] using rA), ?_, (by simpa (decide := true) only [R_W, R_D, R_T, TT, R_A, R_B, BT, R_C, CR, NR, PR, R_L, R_P, R_V, wf_W, wf_P, sh_L, sh_M, sh_W, sh_D, sh_X, sh_P, sh_C, sh_T, sh_S, am_gI_sI, am_gL_sI, am_gR_sI, am_gI_sL, am_gL_sL, am_gR_sL, am_gI_sR, am_gL_sR, am_gR_sR, am_lv_sI, am_lv_sL, am_lv_sR, am_gI_fill, am_gL_fill, am_gR_fill, am_lv_fill, Nat.reduceEqDiff, false_and, true_and, and_false, ↓reduceIte, ne_eq, not_false_eq_true] using rC), (by simpa (decide := true) only [R_W, R_D, R_T, TT, R_A, R_B, BT, R_C, CR, NR, PR, R_L, R_P, R_V, wf_W, wf_P, sh_L, sh_M, sh_W, sh_D, sh_X, sh_P, sh_C, sh_T, sh_S, am_gI_sI, am_gL_sI, am_gR_sI, am_gI_sL, am_gL_sL, am_gR_sL, am_gI_sR, am_gL_sR, am_gR_sR, am_lv_sI, am_lv_sL, am_lv_sR, am_gI_fill, am_gL_fill, am_gR_fill, am_lv_fill, Nat.reduceEqDiff, false_and, true_and, and_false, ↓reduceIte, ne_eq, not_false_eq_true] using rL), (by simpa (decide := true) only [R_W, R_D, R_T, TT, R_A, R_B, BT, R_C, CR, NR, PR, R_L, R_P, R_V, wf_W, wf_P, sh_L, sh_M, sh_W, sh_D, sh_X, sh_P, sh_C, sh_T, sh_S, am_gI_sI, am_gL_sI, am_gR_sI, am_gI_sL, am_gL_sL, am_gR_sL, am_gI_sR, am_gL_sR, am_gR_sR, am_lv_sI, am_lv_sL, am_lv_sR, am_gI_fill, am_gL_fill, am_gR_fill, am_lv_fill, Nat.reduceEqDiff, false_and, true_and, and_false, ↓reduceIte, ne_eq, not_false_eq_true] using rP)⟩
    left
    simp (decide := true) only [R_W, R_D, R_T, TT, R_A, R_B, BT, R_C, CR, NR, PR, R_L, R_P, R_V, wf_W, wf_P, sh_L, sh_M, sh_W, sh_D, sh_X, sh_P, sh_C, sh_T, sh_S, am_gI_sI, am_gL_sI, am_gR_sI, am_gI_sL, am_gL_sL, am_gR_sL, am_gI_sR, am_gL_sR, am_gR_sR, am_lv_sI, am_lv_sL, am_lv_sR, am_gI_fill, am_gL_fill, am_gR_fill, am_lv_fill, Nat.reduceEqDiff, false_and, true_and, and_false, ↓reduceIte, ne_eq, not_false_eq_true]
theorem wf_v_mono {T : Nat → Nat → Int32} {K n : Nat} (h : wf_v T K n) : wf_v T (K + 1) n := by
  refine ⟨h.1, h.2.1, fun q => ?_, h.2.2.2⟩
  have h1 := h.2.2.1 q
  rw [vp_in_iff] at h1 ⊢
  omega
theorem wf_n_v {T : Nat → Nat → Int32} {N K n : Nat} (h : wf_n T N K n) : wf_v T K n := h.2.2.2.2
theorem wf_T_mono {T : Nat → Nat → Int32} {N K : Nat} (h : wf_T T N K) : wf_T T N (K + 1) :=
  ⟨h.1, h.2.1, h.2.2.1, h.2.2.2.1, fun n hn => ⟨(h.2.2.2.2 n hn).1, (h.2.2.2.2 n hn).2.1, (h.2.2.2.2 n hn).2.2.1, (h.2.2.2.2 n hn).2.2.2.1, wf_v_mono (wf_n_v (h.2.2.2.2 n hn))⟩⟩
theorem BS_mono {T : Nat → Nat → Int32} {lk : Nat → Nat} {K n0 p : Nat} (h : BS T lk K n0 p) : BS T lk (K + 1) n0 p :=
  ⟨h.1, h.2.1, h.2.2.1, fun n hn => ⟨wf_v_mono (h.2.2.2 n hn).1, (h.2.2.2 n hn).2⟩⟩
theorem pf_cg {D D2 : Nat → Nat → Int32} {P : Nat → Nat} (h5 : ∀ i, D2 305 i = D 305 i) (h6 : ∀ i, D2 306 i = D 306 i) : ∀ m p x, pf D2 P p m x = pf D P p m x := by
  intro m
  induction m with
  | zero => intro p x; rfl
  | succ m ih =>
    intro p x
    unfold pf
    rw [ih]
    unfold bh
    rw [h5, h6]
theorem p_Doing (a0 : Int32) (a1 : Int32) : am_prI l RI 5 95 [.inl a0, .inl a1] := by
  intro n H hn hR
  have hR0 := RI_s n H hR
  obtain ⟨D, T, N, K, Mt, TA, Cn, ⟨sL, sM, sW, sD, sX, sQ⟩, hV, hw, hP, rW, rD, rT, rA, rB, rC, rL, rP⟩ := hR
  by_cases h : a0 < 1 ∨ 20 < a0 ∨ a1 < 0 ∨ 100 < a1
  · exact pr_of (c_doing_1 a0 a1 sX sM h) (by decide) (m_doing_1 a0 a1 h) (by decide) hR0
  have h1 : ¬ a0 < 1 := fun q => h (Or.inl q)
  have h2 : ¬ 20 < a0 := fun q => h (Or.inr (Or.inl q))
  have h3 : ¬ a1 < 0 := fun q => h (Or.inr (Or.inr (Or.inl q)))
  have h4 : ¬ 100 < a1 := fun q => h (Or.inr (Or.inr (Or.inr q)))
  have g1 : 1 ≤ a0 ∧ a0 ≤ 20 := ⟨Int32.not_lt.mp h1, Int32.not_lt.mp h2⟩
  have g2 : 0 ≤ a1 ∧ a1 ≤ 100 := ⟨Int32.not_lt.mp h3, Int32.not_lt.mp h4⟩
  obtain ⟨K10, k1, k2, k3, k4, k5⟩ := rD
  by_cases hK : K = 10
  · subst hK
    exact pr_of (c_doing_2 a0 a1 sX sM h1 h2 h3 h4 (by rw [k1]; decide)) (by decide) (m_doing_2 a0 a1 g1 g2 k2) (by decide) hR0
  have hK10 : K < 10 := by omega
  have sQ1 : sh_Q (sp_learn H a0 a1) := by simpa only [sh_Q, sp_learn, am_gR_sI] using sQ
  have m2 : am_gI (sp_learn H a0 a1) 8 0 4 = nI K := by simpa (decide := true) only [sp_learn, R_W, R_D, R_T, TT, R_A, R_B, BT, R_C, CR, NR, PR, R_L, R_P, R_V, wf_W, wf_P, sh_L, sh_M, sh_W, sh_D, sh_X, sh_P, sh_C, sh_T, sh_S, am_gI_sI, am_gL_sI, am_gR_sI, am_gI_sL, am_gL_sL, am_gR_sL, am_gI_sR, am_gL_sR, am_gR_sR, am_lv_sI, am_lv_sL, am_lv_sR, am_gI_fill, am_gL_fill, am_gR_fill, am_lv_fill, Nat.reduceEqDiff, false_and, true_and, and_false, ↓reduceIte, ne_eq, not_false_eq_true] using k2
  have hKc : (nI K).toNatClampNeg = K := nI_clamp (by omega)
  refine pr_of (c_doing_3 a0 a1 sX sM sD h1 h2 h3 h4 k1 hK10) (by decide) (m_doing_3 a0 a1 sQ1 g1 g2 m2 hK10) (by decide) ?_
  have eH : sp_learn H a0 a1 = am_sI (am_sI (am_sI (am_sI H 301 0 K a0) 302 0 K a1) 307 0 K (-4)) 2 0 0 (nI (K + 1)) := by
    unfold sp_learn
    rw [k1, hKc, nI_1]
  rw [eH]
  unfold mp_learn
  refine ⟨fun k i => if k = 302 ∧ i = K then a1 else D k i, T, N, K + 1, Mt, TA, Cn, ⟨(by simpa (decide := true) only [sh_Q, R_W, R_D, R_T, TT, R_A, R_B, BT, R_C, CR, NR, PR, R_L, R_P, R_V, wf_W, wf_P, sh_L, sh_M, sh_W, sh_D, sh_X, sh_P, sh_C, sh_T, sh_S, am_gI_sI, am_gL_sI, am_gR_sI, am_gI_sL, am_gL_sL, am_gR_sL, am_gI_sR, am_gL_sR, am_gR_sR, am_lv_sI, am_lv_sL, am_lv_sR, am_gI_fill, am_gL_fill, am_gR_fill, am_lv_fill, Nat.reduceEqDiff, false_and, true_and, and_false, ↓reduceIte, ne_eq, not_false_eq_true] using sL), (by simpa (decide := true) only [sh_Q, R_W, R_D, R_T, TT, R_A, R_B, BT, R_C, CR, NR, PR, R_L, R_P, R_V, wf_W, wf_P, sh_L, sh_M, sh_W, sh_D, sh_X, sh_P, sh_C, sh_T, sh_S, am_gI_sI, am_gL_sI, am_gR_sI, am_gI_sL, am_gL_sL, am_gR_sL, am_gI_sR, am_gL_sR, am_gR_sR, am_lv_sI, am_lv_sL, am_lv_sR, am_gI_fill, am_gL_fill, am_gR_fill, am_lv_fill, Nat.reduceEqDiff, false_and, true_and, and_false, ↓reduceIte, ne_eq, not_false_eq_true] using sM), (by simpa (decide := true) only [sh_Q, R_W, R_D, R_T, TT, R_A, R_B, BT, R_C, CR, NR, PR, R_L, R_P, R_V, wf_W, wf_P, sh_L, sh_M, sh_W, sh_D, sh_X, sh_P, sh_C, sh_T, sh_S, am_gI_sI, am_gL_sI, am_gR_sI, am_gI_sL, am_gL_sL, am_gR_sL, am_gI_sR, am_gL_sR, am_gR_sR, am_lv_sI, am_lv_sL, am_lv_sR, am_gI_fill, am_gL_fill, am_gR_fill, am_lv_fill, Nat.reduceEqDiff, false_and, true_and, and_false, ↓reduceIte, ne_eq, not_false_eq_true] using sW), (by simpa (decide := true) only [sh_Q, R_W, R_D, R_T, TT, R_A, R_B, BT, R_C, CR, NR, PR, R_L, R_P, R_V, wf_W, wf_P, sh_L, sh_M, sh_W, sh_D, sh_X, sh_P, sh_C, sh_T, sh_S, am_gI_sI, am_gL_sI, am_gR_sI, am_gI_sL, am_gL_sL, am_gR_sL, am_gI_sR, am_gL_sR, am_gR_sR, am_lv_sI, am_lv_sL, am_lv_sR, am_gI_fill, am_gL_fill, am_gR_fill, am_lv_fill, Nat.reduceEqDiff, false_and, true_and, and_false, ↓reduceIte, ne_eq, not_false_eq_true] using sD), (by simpa (decide := true) only [sh_Q, R_W, R_D, R_T, TT, R_A, R_B, BT, R_C, CR, NR, PR, R_L, R_P, R_V, wf_W, wf_P, sh_L, sh_M, sh_W, sh_D, sh_X, sh_P, sh_C, sh_T, sh_S, am_gI_sI, am_gL_sI, am_gR_sI, am_gI_sL, am_gL_sL, am_gR_sL, am_gI_sR, am_gL_sR, am_gR_sR, am_lv_sI, am_lv_sL, am_lv_sR, am_gI_fill, am_gL_fill, am_gR_fill, am_lv_fill, Nat.reduceEqDiff, false_and, true_and, and_false, ↓reduceIte, ne_eq, not_false_eq_true] using sX), (by simpa (decide := true) only [sh_Q, R_W, R_D, R_T, TT, R_A, R_B, BT, R_C, CR, NR, PR, R_L, R_P, R_V, wf_W, wf_P, sh_L, sh_M, sh_W, sh_D, sh_X, sh_P, sh_C, sh_T, sh_S, am_gI_sI, am_gL_sI, am_gR_sI, am_gI_sL, am_gL_sL, am_gR_sL, am_gI_sR, am_gL_sR, am_gR_sR, am_lv_sI, am_lv_sL, am_lv_sR, am_gI_fill, am_gL_fill, am_gR_fill, am_lv_fill, Nat.reduceEqDiff, false_and, true_and, and_false, ↓reduceIte, ne_eq, not_false_eq_true] using sQ)⟩, (by simpa (decide := true) only [R_W, R_D, R_T, TT, R_A, R_B, BT, R_C, CR, NR, PR, R_L, R_P, R_V, wf_W, wf_P, sh_L, sh_M, sh_W, sh_D, sh_X, sh_P, sh_C, sh_T, sh_S, am_gI_sI, am_gL_sI, am_gR_sI, am_gI_sL, am_gL_sL, am_gR_sL, am_gI_sR, am_gL_sR, am_gR_sR, am_lv_sI, am_lv_sL, am_lv_sR, am_gI_fill, am_gL_fill, am_gR_fill, am_lv_fill, Nat.reduceEqDiff, false_and, true_and, and_false, ↓reduceIte, ne_eq, not_false_eq_true] using hV), (by simpa (decide := true) only [R_W, R_D, R_T, TT, R_A, R_B, BT, R_C, CR, NR, PR, R_L, R_P, R_V, wf_W, wf_P, sh_L, sh_M, sh_W, sh_D, sh_X, sh_P, sh_C, sh_T, sh_S, am_gI_sI, am_gL_sI, am_gR_sI, am_gI_sL, am_gL_sL, am_gR_sL, am_gI_sR, am_gL_sR, am_gR_sR, am_lv_sI, am_lv_sL, am_lv_sR, am_gI_fill, am_gL_fill, am_gR_fill, am_lv_fill, Nat.reduceEqDiff, false_and, true_and, and_false, ↓reduceIte, ne_eq, not_false_eq_true] using hw), (by simpa (decide := true) only [R_W, R_D, R_T, TT, R_A, R_B, BT, R_C, CR, NR, PR, R_L, R_P, R_V, wf_W, wf_P, sh_L, sh_M, sh_W, sh_D, sh_X, sh_P, sh_C, sh_T, sh_S, am_gI_sI, am_gL_sI, am_gR_sI, am_gI_sL, am_gL_sL, am_gR_sL, am_gI_sR, am_gL_sR, am_gR_sR, am_lv_sI, am_lv_sL, am_lv_sR, am_gI_fill, am_gL_fill, am_gR_fill, am_lv_fill, Nat.reduceEqDiff, false_and, true_and, and_false, ↓reduceIte, ne_eq, not_false_eq_true] using wf_P_mono (S2 := 9000 * (n + 1)) (by omega) hP), (by simpa (decide := true) only [R_W, R_D, R_T, TT, R_A, R_B, BT, R_C, CR, NR, PR, R_L, R_P, R_V, wf_W, wf_P, sh_L, sh_M, sh_W, sh_D, sh_X, sh_P, sh_C, sh_T, sh_S, am_gI_sI, am_gL_sI, am_gR_sI, am_gI_sL, am_gL_sL, am_gR_sL, am_gI_sR, am_gL_sR, am_gR_sR, am_lv_sI, am_lv_sL, am_lv_sR, am_gI_fill, am_gL_fill, am_gR_fill, am_lv_fill, Nat.reduceEqDiff, false_and, true_and, and_false, ↓reduceIte, ne_eq, not_false_eq_true] using rW), ?_, ?_, (by simpa (decide := true) only [R_W, R_D, R_T, TT, R_A, R_B, BT, R_C, CR, NR, PR, R_L, R_P, R_V, wf_W, wf_P, sh_L, sh_M, sh_W, sh_D, sh_X, sh_P, sh_C, sh_T, sh_S, am_gI_sI, am_gL_sI, am_gR_sI, am_gI_sL, am_gL_sL, am_gR_sL, am_gI_sR, am_gL_sR, am_gR_sR, am_lv_sI, am_lv_sL, am_lv_sR, am_gI_fill, am_gL_fill, am_gR_fill, am_lv_fill, Nat.reduceEqDiff, false_and, true_and, and_false, ↓reduceIte, ne_eq, not_false_eq_true] using rA), ?_, ?_, (by simpa (decide := true) only [R_W, R_D, R_T, TT, R_A, R_B, BT, R_C, CR, NR, PR, R_L, R_P, R_V, wf_W, wf_P, sh_L, sh_M, sh_W, sh_D, sh_X, sh_P, sh_C, sh_T, sh_S, am_gI_sI, am_gL_sI, am_gR_sI, am_gI_sL, am_gL_sL, am_gR_sL, am_gI_sR, am_gL_sR, am_gR_sR, am_lv_sI, am_lv_sL, am_lv_sR, am_gI_fill, am_gL_fill, am_gR_fill, am_lv_fill, Nat.reduceEqDiff, false_and, true_and, and_false, ↓reduceIte, ne_eq, not_false_eq_true] using rL), ?_⟩
  · simp (decide := true) only [R_W, R_D, R_T, TT, R_A, R_B, BT, R_C, CR, NR, PR, R_L, R_P, R_V, wf_W, wf_P, sh_L, sh_M, sh_W, sh_D, sh_X, sh_P, sh_C, sh_T, sh_S, am_gI_sI, am_gL_sI, am_gR_sI, am_gI_sL, am_gL_sL, am_gR_sL, am_gI_sR, am_gL_sR, am_gR_sR, am_lv_sI, am_lv_sL, am_lv_sR, am_gI_fill, am_gL_fill, am_gR_fill, am_lv_fill, Nat.reduceEqDiff, false_and, true_and, and_false, ↓reduceIte, ne_eq, not_false_eq_true]
    obtain ⟨w, hw1, hw2⟩ := fb_nI (b := a1) ⟨g2.1, by have := g2.2; simp only [Int32.le_iff_toInt_le, Int32.reduceToInt] at *; omega⟩
    refine ⟨by omega, fun i hi => ?_, fun i hi => ?_, fun i hi => ?_⟩
    · have q := k3 i hi
      by_cases hiK : i = K
      · simp only [hiK, and_self, ↓reduceIte]
        rw [hiK] at q
        simp only [q, and_self]
      · simp only [hiK, and_false, ↓reduceIte]
        exact q
    · by_cases hiK : i = K
      · simp only [hiK, and_self, ↓reduceIte]
        obtain ⟨x, hx1, hx2⟩ := nI_of2 (x := a0) (M := 20) (n := 20) rfl (by intro q; have := g1.1; simp only [Int32.lt_iff_toInt_lt, Int32.le_iff_toInt_le, Int32.reduceToInt] at *; omega) g1.2
        obtain ⟨y, hy1, hy2⟩ := nI_of2 (x := a1) (M := 100) (n := 100) rfl h3 g2.2
        refine ⟨⟨x, ?_, hx1, hx2⟩, ⟨y, hy1, hy2⟩, Or.inl trivial⟩
        rw [hx2] at h1
        exact Nat.one_le_iff_ne_zero.mpr (fun q => h1 (by rw [q]; decide))
      · simp only [hiK, and_false, ↓reduceIte]
        exact k4 i (by omega)
    · exact k5 i hi
  · simp (decide := true) only [R_W, R_D, R_T, TT, R_A, R_B, BT, R_C, CR, NR, PR, R_L, R_P, R_V, wf_W, wf_P, sh_L, sh_M, sh_W, sh_D, sh_X, sh_P, sh_C, sh_T, sh_S, am_gI_sI, am_gL_sI, am_gR_sI, am_gI_sL, am_gL_sL, am_gR_sL, am_gI_sR, am_gL_sR, am_gR_sR, am_lv_sI, am_lv_sL, am_lv_sR, am_gI_fill, am_gL_fill, am_gR_fill, am_lv_fill, Nat.reduceEqDiff, false_and, true_and, and_false, ↓reduceIte, ne_eq, not_false_eq_true]
    refine ⟨rT.1, rT.2.1, rT.2.2.1, fun t ht => ?_⟩
    obtain ⟨t1, t2, t3, t4⟩ := rT.2.2.2 t ht
    exact ⟨t1, t2, wf_T_mono t3, t4⟩
  · simp (decide := true) only [R_W, R_D, R_T, TT, R_A, R_B, BT, R_C, CR, NR, PR, R_L, R_P, R_V, wf_W, wf_P, sh_L, sh_M, sh_W, sh_D, sh_X, sh_P, sh_C, sh_T, sh_S, am_gI_sI, am_gL_sI, am_gR_sI, am_gI_sL, am_gL_sL, am_gR_sL, am_gI_sR, am_gL_sR, am_gR_sR, am_lv_sI, am_lv_sL, am_lv_sR, am_gI_fill, am_gL_fill, am_gR_fill, am_lv_fill, Nat.reduceEqDiff, false_and, true_and, and_false, ↓reduceIte, ne_eq, not_false_eq_true]
    rcases rB with b | ⟨b1, b2, b3, b4, n0, p, B, lk, b5, b6⟩
    · exact Or.inl b
    · exact Or.inr ⟨b1, b2, b3, b4, n0, p, B, lk, BS_mono b5, b6⟩
  · obtain ⟨c1, c2, c3, c4, c5⟩ := rC
    refine ⟨c1, by simpa (decide := true) only [R_W, R_D, R_T, TT, R_A, R_B, BT, R_C, CR, NR, PR, R_L, R_P, R_V, wf_W, wf_P, sh_L, sh_M, sh_W, sh_D, sh_X, sh_P, sh_C, sh_T, sh_S, am_gI_sI, am_gL_sI, am_gR_sI, am_gI_sL, am_gL_sL, am_gR_sL, am_gI_sR, am_gL_sR, am_gR_sR, am_lv_sI, am_lv_sL, am_lv_sR, am_gI_fill, am_gL_fill, am_gR_fill, am_lv_fill, Nat.reduceEqDiff, false_and, true_and, and_false, ↓reduceIte, ne_eq, not_false_eq_true] using c2, by simpa (decide := true) only [R_W, R_D, R_T, TT, R_A, R_B, BT, R_C, CR, NR, PR, R_L, R_P, R_V, wf_W, wf_P, sh_L, sh_M, sh_W, sh_D, sh_X, sh_P, sh_C, sh_T, sh_S, am_gI_sI, am_gL_sI, am_gR_sI, am_gI_sL, am_gL_sL, am_gR_sL, am_gI_sR, am_gL_sR, am_gR_sR, am_lv_sI, am_lv_sL, am_lv_sR, am_gI_fill, am_gL_fill, am_gR_fill, am_lv_fill, Nat.reduceEqDiff, false_and, true_and, and_false, ↓reduceIte, ne_eq, not_false_eq_true] using c3, fun c hc => ?_, fun c hc1 hc2 i hi => by simpa (decide := true) only [R_W, R_D, R_T, TT, R_A, R_B, BT, R_C, CR, NR, PR, R_L, R_P, R_V, wf_W, wf_P, sh_L, sh_M, sh_W, sh_D, sh_X, sh_P, sh_C, sh_T, sh_S, am_gI_sI, am_gL_sI, am_gR_sI, am_gI_sL, am_gL_sL, am_gR_sL, am_gI_sR, am_gL_sR, am_gR_sR, am_lv_sI, am_lv_sL, am_lv_sR, am_gI_fill, am_gL_fill, am_gR_fill, am_lv_fill, Nat.reduceEqDiff, false_and, true_and, and_false, ↓reduceIte, ne_eq, not_false_eq_true] using c5 c hc1 hc2 i hi⟩
    have q := c4 c hc
    simp (decide := true) only [R_W, R_D, R_T, TT, R_A, R_B, BT, R_C, CR, NR, PR, R_L, R_P, R_V, wf_W, wf_P, sh_L, sh_M, sh_W, sh_D, sh_X, sh_P, sh_C, sh_T, sh_S, am_gI_sI, am_gL_sI, am_gR_sI, am_gI_sL, am_gL_sL, am_gR_sL, am_gI_sR, am_gL_sR, am_gR_sR, am_lv_sI, am_lv_sL, am_lv_sR, am_gI_fill, am_gL_fill, am_gR_fill, am_lv_fill, Nat.reduceEqDiff, false_and, true_and, and_false, ↓reduceIte, ne_eq, not_false_eq_true] at q ⊢
    obtain ⟨q1, q2, q3, q4, q5⟩ := q
    refine ⟨q1, q2, q3, q4, ?_⟩
    rcases q5 with q5 | ⟨t, r1, r2, r3, r4, r5⟩
    · exact Or.inl q5
    · refine Or.inr ⟨t, r1, r2, r3, r4, fun m hm => ?_⟩
      obtain ⟨u1, u2, u3, u4, u5⟩ := r5 m hm
      refine ⟨u1, u2, u3, fun h9 => ?_, u5⟩
      obtain ⟨v1, v2⟩ := u4 h9
      refine ⟨v1, ?_⟩
      rcases v2 with v2 | ⟨L, p, g, P, y1, y2, y3, y4, y5, y6, y7, y8⟩
      · exact Or.inl v2
      · refine Or.inr ⟨L, p, g, P, y1, y2, y3, y4, y5, y6, fun i hi => ⟨by have := (y7 i hi).1; omega, (y7 i hi).2⟩, ?_⟩
        rw [pf_cg (D := D)]
        · exact y8
        · intro i; simp only [Nat.reduceEqDiff, false_and, ↓reduceIte]
        · intro i; simp only [Nat.reduceEqDiff, false_and, ↓reduceIte]
  · intro k hk
    left
    rw [am_gI_fill, if_pos ⟨rfl, rfl, hk⟩]
end PR1
