/-! ===== the relation, with the two sides apart ===== -/
section RX1
variable {l : Launch} {C M C' M' C'' M'' : am_H} {D : Nat → Nat → Int32} {T : Nat → Nat → Nat → Int32} {N : Nat → Nat} {K Mt TA Cn j t n S S2 : Nat}
def RX (C M : am_H) (D : Nat → Nat → Int32) (T : Nat → Nat → Nat → Int32) (N : Nat → Nat) (K Mt TA Cn S : Nat) : Prop := (sh_L C ∧ sh_M C ∧ sh_W C ∧ sh_D C ∧ sh_X C ∧ sh_Q M) ∧ R_V C TA Cn ∧ wf_W C ∧ wf_P C S ∧ R_W C M ∧ R_D C M D K ∧ R_T C M T N K Mt ∧ R_A C Mt TA ∧ R_B C M K Mt TA ∧ R_C C M D T N K Mt Cn ∧ R_L C M ∧ R_P M D T N K Mt ∧ ∀ t, t < Mt → ∀ k i, 602 ≤ k → k ≤ 607 → am_gI C k t i = T t k i
/-- the reference's cells are the same -/
def KC (C C' : am_H) : Prop := (∀ a b i, 900 ≤ a → am_gI C' a b i = am_gI C a b i) ∧ (∀ b i, am_gI C' 8 b i = am_gI C 8 b i) ∧ (∀ b i, am_gL C' 902 b i = am_gL C 902 b i) ∧ ∀ b i, am_gR C' 8 b i = am_gR C 8 b i
/-- the class' cells are the same -/
def KM (M M' : am_H) : Prop := (∀ a b i, a ≠ 8 → a < 900 → am_gI M' a b i = am_gI M a b i) ∧ (∀ b i, am_gL M' 702 b i = am_gL M 702 b i) ∧ (∀ a b i, a ≠ 8 → am_gR M' a b i = am_gR M a b i) ∧ am_lv M' = am_lv M
theorem KC_r : KC C C := ⟨fun _ _ _ _ => rfl, fun _ _ => rfl, fun _ _ => rfl, fun _ _ => rfl⟩
theorem KM_r : KM M M := ⟨fun _ _ _ _ _ => rfl, fun _ _ => rfl, fun _ _ _ _ => rfl, rfl⟩
theorem KC_t (h : KC C C') (h2 : KC C' C'') : KC C C'' := ⟨fun a b i q => (h2.1 a b i q).trans (h.1 a b i q), fun b i => (h2.2.1 b i).trans (h.2.1 b i), fun b i => (h2.2.2.1 b i).trans (h.2.2.1 b i), fun b i => (h2.2.2.2 b i).trans (h.2.2.2 b i)⟩
theorem KM_t (h : KM M M') (h2 : KM M' M'') : KM M M'' := ⟨fun a b i q q2 => (h2.1 a b i q q2).trans (h.1 a b i q q2), fun b i => (h2.2.1 b i).trans (h.2.1 b i), fun a b i q => (h2.2.2.1 a b i q).trans (h.2.2.1 a b i q), h2.2.2.2.trans h.2.2.2⟩
theorem KC_CF (h : CF C C' j) : KC C C' := ⟨fun a b i q => h.1 a b i (nkq (by omega)) (by omega) (by omega) (by omega) (by omega) (by omega) (by omega) (by omega), fun b i => h.1 8 b i (nkq (by omega)) (by omega) (by omega) (by omega) (by omega) (by omega) (by omega) (by omega), fun b i => h.2.1 902 b i (nkq (by omega)) (by omega), fun b i => h.2.2.1 8 b i (nkq (by omega)) (by omega)⟩
theorem KM_MF (h : MF M M' j) : KM M M' := ⟨fun a b i q q2 => h.1 a b i q (by omega) (by omega) (by omega) (by omega), fun b i => h.2.2.2.2.2.1 702 b i (by decide), fun a b i _ => h.2.2.2.2.2.2.1 a b i, h.2.2.2.2.2.2.2⟩
set_option maxRecDepth 20000 in
theorem RX_M (h : RX C M D T N K Mt TA Cn S) (gI : ∀ a i, 900 ≤ a → am_gI M' a 0 i = am_gI M a 0 i) (g8 : ∀ i, i ≠ 49 → am_gI M' 8 0 i = am_gI M 8 0 i) (gL : ∀ i, am_gL M' 902 0 i = am_gL M 902 0 i) (gR : ∀ i, am_gR M' 8 0 i = am_gR M 8 0 i) : RX C M' D T N K Mt TA Cn S := by
  simpa (decide := true) only [RX, sh_Q, R_W, R_D, R_T, TT, R_B, BT, R_C, CR, NR, PR, R_L, R_P, gI, g8, gL, gR, ne_eq, not_false_eq_true] using h
set_option maxRecDepth 20000 in
theorem RX_C (h : RX C M D T N K Mt TA Cn S) (hI : ∀ a b i, a ≠ 8 → a < 900 → am_gI C' a b i = am_gI C a b i) (hL : ∀ b i, am_gL C' 702 b i = am_gL C 702 b i) (hR : ∀ a b i, a ≠ 8 → am_gR C' a b i = am_gR C a b i) (hv : am_lv C' = am_lv C) : RX C' M D T N K Mt TA Cn S := by
  obtain ⟨⟨sL, sM, sW, sD, sX, sQ⟩, hV, hw, hP, rW, rD, rT, rA, rB, rC, rL, rP, hT⟩ := h
  refine ⟨⟨?_, ?_, ?_, ?_, ?_, sQ⟩, ?_, ?_, ?_, ?_, ?_, ?_, ?_, ?_, ?_, ?_, rP, fun t ht k i q1 q2 => by rw [hI k t i (by omega) (by omega)]; exact hT t ht k i q1 q2⟩
  · simpa (decide := true) only [sh_L, hR, ne_eq, not_false_eq_true] using sL
  · simpa (decide := true) only [sh_M, hR, ne_eq, not_false_eq_true] using sM
  · simpa (decide := true) only [sh_W, hR, ne_eq, not_false_eq_true] using sW
  · simpa (decide := true) only [sh_D, hR, ne_eq, not_false_eq_true] using sD
  · simpa (decide := true) only [sh_X, hR, ne_eq, not_false_eq_true] using sX
  · simpa (decide := true) only [R_V, hv] using hV
  · simpa (decide := true) only [wf_W, hI, hL, ne_eq, not_false_eq_true] using hw
  · simpa (decide := true) only [wf_P, sh_P, hv, hR, hI, ne_eq, not_false_eq_true] using hP
  · simpa (decide := true) only [R_W, hI, hL, ne_eq, not_false_eq_true] using rW
  · simpa (decide := true) only [R_D, hI, ne_eq, not_false_eq_true] using rD
  · simpa (decide := true) only [R_T, TT, sh_T, hI, hR, ne_eq, not_false_eq_true] using rT
  · simpa (decide := true) only [R_A, sh_T, hR, ne_eq, not_false_eq_true] using rA
  · simpa (decide := true) only [R_B, BT, hI, hR, ne_eq, not_false_eq_true] using rB
  · simpa (decide := true) only [R_C, CR, NR, PR, sh_C, hI, hR, ne_eq, not_false_eq_true] using rC
  · simpa (decide := true) only [R_L, hI, ne_eq, not_false_eq_true] using rL
theorem RX_KC (h : RX C M D T N K Mt TA Cn S) (hk : KC M M') : RX C M' D T N K Mt TA Cn S := RX_M h (fun a i q => hk.1 a 0 i q) (fun i _ => hk.2.1 0 i) (fun i => hk.2.2.1 0 i) (fun i => hk.2.2.2 0 i)
theorem RX_KM (h : RX C M D T N K Mt TA Cn S) (hk : KM C C') : RX C' M D T N K Mt TA Cn S := RX_C h hk.1 hk.2.1 hk.2.2.1 hk.2.2.2
theorem RX_mono (hS : S ≤ S2) (h : RX C M D T N K Mt TA Cn S) : RX C M D T N K Mt TA Cn S2 := ⟨h.1, h.2.1, h.2.2.1, wf_P_mono hS h.2.2.2.1, h.2.2.2.2⟩
theorem RI_RX (h : RX M M D T N K Mt TA Cn (9000 * n)) : RI n M :=
  ⟨D, T, N, K, Mt, TA, Cn, h.1, h.2.1, h.2.2.1, h.2.2.2.1, h.2.2.2.2.1, h.2.2.2.2.2.1, h.2.2.2.2.2.2.1, h.2.2.2.2.2.2.2.1, h.2.2.2.2.2.2.2.2.1, h.2.2.2.2.2.2.2.2.2.1, h.2.2.2.2.2.2.2.2.2.2.1, h.2.2.2.2.2.2.2.2.2.2.2.1⟩
theorem PR_T {T1 T2 : Nat → Nat → Int32} {c m : Nat} (h3 : T2 603 m = T1 603 m) (h4 : T2 604 m = T1 604 m) (h : PR C M D K T1 c m) : PR C M D K T2 c m := by
  unfold PR at *
  rw [h3, h4]
  exact h
theorem NR_T {T1 T2 : Nat → Nat → Int32} {c m : Nat} {g : Prop} (h2 : T2 602 m = T1 602 m) (h3 : T2 603 m = T1 603 m) (h4 : T2 604 m = T1 604 m) (h : NR C M D K T1 c m g) : NR C M D K T2 c m g := by
  obtain ⟨a1, a2, a3, a4, a5⟩ := h
  unfold NR
  rw [h2, h3]
  exact ⟨a1, a2, fun z => PR_T h3 h4 (a3 z), a4, a5⟩
theorem RX_of (h : RI n M) : ∃ D T N K Mt TA Cn, RX M M D T N K Mt TA Cn (9000 * n) := by
  obtain ⟨D, T, N, K, Mt, TA, Cn, ⟨sL, sM, sW, sD, sX, sQ⟩, hV, hw, hP, rW, rD, rT, rA, rB, rC, rL, rP⟩ := h
  refine ⟨D, fun t k i => if i < 30 then T t k i else am_gI M k t i, N, K, Mt, TA, Cn, ⟨sL, sM, sW, sD, sX, sQ⟩, hV, hw, hP, rW, rD, ?_, rA, rB, ?_, rL, ?_, fun t ht k i q1 q2 => ?_⟩
  · refine ⟨rT.1, rT.2.1, rT.2.2.1, fun t ht => ?_⟩
    obtain ⟨t1, t2, t3, t4, t5, t6⟩ := rT.2.2.2 t ht
    have hN := t3.1.2
    refine ⟨t1, t2, wf_T_cg (fun k m _ _ q3 => if_pos (by omega)) t3, t4, t5, fun m hm => ?_⟩
    simp only [if_pos hm]
    exact t6 m hm
  · refine ⟨rC.1, rC.2.1, rC.2.2.1, fun c hc => ?_, rC.2.2.2.2⟩
    obtain ⟨a1, a2, a3, a4, a5⟩ := rC.2.2.2.1 c hc
    refine ⟨a1, a2, a3, a4, a5.imp id (fun z => ?_)⟩
    obtain ⟨t, b1, b2, b3, b4, b5⟩ := z
    refine ⟨t, b1, b2, b3, b4, fun m hm => ?_⟩
    have hN := (rT.2.2.2 t b1).2.2.1.1.2
    exact ⟨(b5 m hm).1, NR_T (if_pos (by omega)) (if_pos (by omega)) (if_pos (by omega)) (b5 m hm).2⟩
  · intro k hk
    rcases rP k hk with q | ⟨q1, t, m, q2, q3, q4, q5⟩
    · exact Or.inl q
    · have hN := (rT.2.2.2 t q2).2.2.1.1.2
      refine Or.inr ⟨q1, t, m, q2, q3, q4, fun j f hj hf => ?_⟩
      have hm : m < 30 := by omega
      simp only [if_pos hm]
      exact q5 j f hj hf
  · dsimp only
    by_cases hi : i < 30
    · obtain ⟨-, -, -, -, -, t6⟩ := rT.2.2.2 t ht
      have z := (t6 i hi).1
      have hk : k = 602 ∨ k = 603 ∨ k = 604 ∨ k = 605 ∨ k = 606 ∨ k = 607 := by omega
      rw [if_pos hi]
      rcases hk with rfl | rfl | rfl | rfl | rfl | rfl
      · exact z.1
      · exact z.2.1
      · exact z.2.2.1
      · exact z.2.2.2.1
      · exact z.2.2.2.2.1
      · exact z.2.2.2.2.2
    · rw [if_neg hi]
end RX1
