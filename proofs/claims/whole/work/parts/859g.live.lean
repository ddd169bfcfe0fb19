/-! ===== a tick on both sides ===== -/
section LV1
variable {l : Launch} {C M C' M' C'' M'' : am_H} {D : Nat → Nat → Int32} {T : Nat → Nat → Nat → Int32} {N : Nat → Nat} {K Mt TA Cn j t n A S S2 : Nat}
theorem CI_RX (h : RX C M D T N K Mt TA Cn S) (hj : j < Cn) (ht : t < Mt) (hr : am_gR C 1 j 0 = some (5, t)) : CI C j t (N t) K (T t) 1000 S := by
  obtain ⟨⟨sL, sM, sW, sD, sX, sQ⟩, hV, hw, hP, rW, rD, rT, rA, rB, rC, rL, rP, hT⟩ := h
  obtain ⟨a1, a2, a3, a4, a5⟩ := rC.2.2.2.1 j hj
  obtain ⟨t1, t2, t3, t4, t5, t6⟩ := rT.2.2.2 t ht
  obtain ⟨a, l1, l2, l3⟩ := rL
  have hK := rD.1
  refine ⟨⟨sL, sM, sW, sD, a1, hr, t1⟩, hT t ht, t4, a4, rD.2.1, hw, ⟨a, l1, l2⟩, hP, rD.1, rW.2.1, fun i hi => ?_, fun i hi => ?_⟩
  · have q := rD.2.2.2.1 i hi
    rw [q.2.2.1.1, q.2.2.2.1.1, q.2.2.2.2.1.1, q.2.2.2.2.2.1.1]
    exact rD.2.2.2.2.2 i hi
  · rw [(rD.2.2.2.1 i (by omega)).2.1.1]
    exact (rD.2.2.2.2.1 i hi).2.1
theorem FT_RX (h : RX C M D T N K Mt TA Cn S) (hj : j < Cn) (ht : t < Mt) : FT T N K Mt j t := by
  obtain ⟨-, -, -, -, rW, rD, rT, rA, rB, rC, -, -, -⟩ := h
  have c6 := rC.1
  exact ⟨ht, rT.1, fun t ht => (rT.2.2.2 t ht).2.2.1.1.2, by omega, (rT.2.2.2 t ht).2.2.1, rD.1⟩
theorem GS_RX (h : RX C M D T N K Mt TA Cn S) (hj : j < Cn) (ht : t < Mt) (h49 : am_gI M 8 0 49 = nI j) (h26 : am_gI M 926 0 j = nI t) : GS C M D T N K Mt j t := by
  obtain ⟨⟨sL, sM, sW, sD, sX, sQ⟩, hV, hw, hP, rW, rD, rT, rA, rB, rC, rL, rP, hT⟩ := h
  obtain ⟨a1, a2, a3, a4, a5⟩ := rC.2.2.2.1 j hj
  obtain ⟨t1, t2, t3, t4, t5, t6⟩ := rT.2.2.2 t ht
  obtain ⟨a, l1, l2, l3, l4⟩ := rL
  have hN := t3.1.2
  exact ⟨rW, rD, a3, ⟨l2.trans l3.symm, l4⟩, rP, sQ, h49, h26, t5, fun n hn => (t6 n (by omega)).2 hn⟩
theorem CF_fl {m : Nat} {v : Int32} (h : CF C C' j) : CF C (am_fill C' 208 j m v) j := by
  refine ⟨fun x y i q0 q1 q2 q3 q4 q5 q6 q7 => ?_, h.2.1, h.2.2.1, h.2.2.2⟩
  rw [am_gI_fill, if_neg (fun q => q7 ⟨by omega, by omega, q.2.1, by omega⟩)]
  exact h.1 x y i q0 q1 q2 q3 q4 q5 q6 q7
theorem MF_fl {m : Nat} {v : Int32} (h : MF M M' j) : MF M (am_fill M' 942 0 m v) j := by
  refine MF_t h ⟨fun x y i q0 q1 q2 q3 q4 => ?_, fun y i q => ?_, fun i q => ?_, fun x i q0 q1 q2 q3 => ?_, fun i q => ?_, fun _ _ _ _ => rfl, fun _ _ _ => rfl, rfl⟩
  all_goals rw [am_gI_fill, if_neg (fun q => by omega)]
theorem st_C {a b i : Nat} (h : a ≠ 0) (h2 : a ≠ 208) (h3 : ¬ (a = 209 ∧ i = 0)) : am_gI (sp_startTick (am_sI C 0 0 0 0) j) a b i = am_gI C a b i := by
  unfold sp_startTick
  rw [am_gI_fill, if_neg (fun q => h2 q.1), am_gI_sI, if_neg (fun q => h3 ⟨q.1, q.2.2⟩), am_gI_sI, if_neg (fun q => h q.1)]
theorem st_M {a i : Nat} (h : a ≠ 942) (h2 : ¬ (a = 927 ∧ i = 8 * j)) (h3 : ¬ (a = 8 ∧ (i = 39 ∨ i = 43 ∨ i = 51))) : am_gI (mq_tk M j) a 0 i = am_gI M a 0 i := by
  unfold mq_tk
  rw [am_gI_sI, if_neg (fun q => by omega), am_gI_fill, if_neg (fun q => by omega), am_gI_sI, if_neg (fun q => by omega), am_gI_sI, if_neg (fun q => by omega), am_gI_sI, if_neg (fun q => by omega)]
theorem st_CF : CF C (sp_startTick (am_sI C 0 0 0 0) j) j := CF_fl (CF_x (CF_x CF_r (by omega)) (by omega))
theorem st_MF : MF M (mq_tk M j) j := MF_x (MF_fl (MF_x (MF_x (MF_x MF_r (by omega)) (by omega)) (by omega))) (by omega)
theorem st_GS (h : GS C M D T N K Mt j t) : GS (sp_startTick (am_sI C 0 0 0 0) j) (mq_tk M j) D T N K Mt j t := by
  refine GS_of st_CF st_MF h ?_ (fun i hi => ?_) ⟨?_, fun i hi => ⟨?_, ?_⟩⟩ (RP_cg (fun k i hk => st_M (by omega) (by omega) (by omega)) h.2.2.2.2.1)
  · exact R_W_cg h.1 (st_C (by decide) (by decide) (by omega)) (st_M (by decide) (by omega) (by omega)) (fun i => st_C (by decide) (by decide) (by omega)) (fun _ => rfl) (fun i => st_C (by decide) (by decide) (by omega)) (fun i => st_M (by decide) (by omega) (by omega)) (fun _ => rfl) (fun i => st_M (by decide) (by omega) (by omega))
  · have e := h.2.2.1 i hi
    by_cases hi0 : i = 0
    · subst hi0
      have e1 : am_gI (sp_startTick (am_sI C 0 0 0 0) j) 209 j 0 = am_gI C 209 j 0 + 1 := by
        unfold sp_startTick
        rw [am_gI_fill, if_neg (fun q => absurd q.1 (by decide)), am_gI_sI, if_pos ⟨rfl, rfl, rfl⟩, am_gI_sI, if_neg (fun q => absurd q.1 (by decide))]
      have e2 : am_gI (mq_tk M j) 927 0 (8 * j + 0) = am_gI M 927 0 (8 * j + 0) + 1 := by
        unfold mq_tk
        rw [am_gI_sI, if_neg (fun q => by omega), am_gI_fill, if_neg (fun q => by omega), am_gI_sI, if_pos ⟨rfl, rfl, rfl⟩]
        rfl
      rw [e1, e2, e]
    · rw [st_C (by decide) (by decide) (by omega), st_M (by decide) (by omega) (by omega)]
      exact e
  · have e1 : am_gI (sp_startTick (am_sI C 0 0 0 0) j) 0 0 0 = 0 := by
      unfold sp_startTick
      rw [am_gI_fill, if_neg (fun q => absurd q.1 (by decide)), am_gI_sI, if_neg (fun q => absurd q.1 (by decide)), am_gI_sI, if_pos ⟨rfl, rfl, rfl⟩]
    have e2 : am_gI (mq_tk M j) 8 0 39 = 0 := by
      unfold mq_tk
      rw [am_gI_sI, if_neg (fun q => by omega), am_gI_fill, if_neg (fun q => by omega), am_gI_sI, if_neg (fun q => by omega), am_gI_sI, if_neg (fun q => by omega), am_gI_sI, if_pos ⟨rfl, rfl, rfl⟩]
    rw [e1, e2]
  · rw [st_C (by decide) (by decide) (by omega), st_M (by decide) (by omega) (by omega)]
    exact (h.2.2.2.1.2 i hi).1
  · rw [st_C (by decide) (by decide) (by omega), st_M (by decide) (by omega) (by omega)]
    exact (h.2.2.2.1.2 i hi).2
theorem st_NX {k : Nat} (hk : k < 30) (h : NR C M D K (T t) j k True) (h2 : am_gI C 202 j k = am_gI M 929 0 (30 * j + k)) : NX (sp_startTick (am_sI C 0 0 0 0) j) (mq_tk M j) D K (T t) j k ∧ am_gI (sp_startTick (am_sI C 0 0 0 0) j) 208 j k = 0 := by
  have e8 : am_gI (sp_startTick (am_sI C 0 0 0 0) j) 208 j k = 0 := by
    unfold sp_startTick
    rw [am_gI_fill, if_pos ⟨rfl, rfl, hk⟩]
  have e9 : am_gI (mq_tk M j) 942 0 k = 0 := by
    unfold mq_tk
    rw [am_gI_sI, if_neg (fun q => by omega), am_gI_fill, if_pos ⟨rfl, rfl, hk⟩]
  have hN : NR (sp_startTick (am_sI C 0 0 0 0) j) (mq_tk M j) D K (T t) j k True := NR_cg (fun a i q1 q2 q3 => st_C (by omega) (by omega) (by omega)) (fun a q1 q2 q3 q4 => st_M (by omega) (by omega) (by omega)) (fun i hi => st_M (by omega) (by omega) (by omega)) h
  refine ⟨⟨NR_cn FC_r FM_r (fun _ => trivial) hN, ?_, by rw [e8, e9], Or.inl e8⟩, e8⟩
  rw [st_C (by decide) (by decide) (by omega), st_M (by decide) (by omega) (by omega)]
  exact h2
set_option maxRecDepth 20000 in
/-- what is left behind a tick of creature j -/
theorem RX_step (h : RX C M D T N K Mt TA Cn S) (hj : j < Cn) (ht : t < Mt) (hr : am_gR C 1 j 0 = some (5, t)) (h26 : am_gI M 926 0 j = nI t) (h98 : am_gI C 209 j 8 = nI t) (hC : CF C C' j) (hM : MF M M' j) (hCI : CI C' j t (N t) K (T t) A S2) (hA : A ≤ 1000) (hG : GS C' M' D T N K Mt j t) (hn : ∀ k, k < N t → NR C' M' D K (T t) j k True ∧ am_gI C' 202 j k = am_gI M' 929 0 (30 * j + k)) : RX C' M' D T N K Mt TA Cn S2 := by
  obtain ⟨⟨sL, sM, sW, sD, sX, sQ⟩, hV, hw, hP, rW, rD, rT, rA, rB, rC, rL, rP, hT⟩ := h
  have c6 := rC.1
  have hN30 : ∀ t, t < Mt → N t ≤ 30 := fun t ht => (rT.2.2.2 t ht).2.2.1.1.2
  have eR : ∀ a b i, a ≠ 3 → a ≠ 4 → (a < 500 ∨ 511 < a) → am_gR C' a b i = am_gR C a b i := fun a b i q1 q2 q3 => hC.2.2.1 a b i (nkq (by omega)) (by omega)
  have eI : ∀ a b i, (a = 2 ∨ a = 5 ∨ a = 7 ∨ 301 ≤ a ∧ a ≤ 309 ∨ 602 ≤ a ∧ a ≤ 608 ∨ a = 703) → am_gI C' a b i = am_gI C a b i := fun a b i q => hC.1 a b i (nkq (by omega)) (by omega) (by omega) (by omega) (by omega) (by omega) (by omega) (by omega)
  have mI : ∀ a i, (903 ≤ a ∧ a ≤ 926) → am_gI M' a 0 i = am_gI M a 0 i := fun a i q => hM.1 a 0 i (by omega) (by omega) (by omega) (by omega) (by omega)
  have m8 : ∀ i, ¬ (i = 0 ∨ i = 38 ∨ i = 39 ∨ i = 43 ∨ i = 50 ∨ i = 51) → am_gI M' 8 0 i = am_gI M 8 0 i := fun i q => hM.2.1 0 i q
  have r5 : ∀ b i, am_gR C' 5 b i = am_gR C 5 b i := fun b i => eR 5 b i (by decide) (by decide) (by decide)
  have r7 : ∀ b i, am_gR C' 7 b i = am_gR C 7 b i := fun b i => eR 7 b i (by decide) (by decide) (by decide)
  have r801 : ∀ b i, am_gR C' 801 b i = am_gR C 801 b i := fun b i => eR 801 b i (by decide) (by decide) (by decide)
  have f5 : ∀ b i, am_gI C' 5 b i = am_gI C 5 b i := fun b i => eI 5 b i (by decide)
  have f7 : ∀ b i, am_gI C' 7 b i = am_gI C 7 b i := fun b i => eI 7 b i (by decide)
  have f602 : ∀ b i, am_gI C' 602 b i = am_gI C 602 b i := fun b i => eI 602 b i (by decide)
  have f603 : ∀ b i, am_gI C' 603 b i = am_gI C 603 b i := fun b i => eI 603 b i (by decide)
  have f604 : ∀ b i, am_gI C' 604 b i = am_gI C 604 b i := fun b i => eI 604 b i (by decide)
  have f605 : ∀ b i, am_gI C' 605 b i = am_gI C 605 b i := fun b i => eI 605 b i (by decide)
  have f606 : ∀ b i, am_gI C' 606 b i = am_gI C 606 b i := fun b i => eI 606 b i (by decide)
  have f607 : ∀ b i, am_gI C' 607 b i = am_gI C 607 b i := fun b i => eI 607 b i (by decide)
  have f608 : ∀ b i, am_gI C' 608 b i = am_gI C 608 b i := fun b i => eI 608 b i (by decide)
  have g917 : ∀ i, am_gI M' 917 0 i = am_gI M 917 0 i := fun i => mI 917 i (by decide)
  have g918 : ∀ i, am_gI M' 918 0 i = am_gI M 918 0 i := fun i => mI 918 i (by decide)
  have g919 : ∀ i, am_gI M' 919 0 i = am_gI M 919 0 i := fun i => mI 919 i (by decide)
  have g920 : ∀ i, am_gI M' 920 0 i = am_gI M 920 0 i := fun i => mI 920 i (by decide)
  have g921 : ∀ i, am_gI M' 921 0 i = am_gI M 921 0 i := fun i => mI 921 i (by decide)
  have g922 : ∀ i, am_gI M' 922 0 i = am_gI M 922 0 i := fun i => mI 922 i (by decide)
  have g923 : ∀ i, am_gI M' 923 0 i = am_gI M 923 0 i := fun i => mI 923 i (by decide)
  have g924 : ∀ i, am_gI M' 924 0 i = am_gI M 924 0 i := fun i => mI 924 i (by decide)
  have g14 : am_gI M' 8 0 14 = am_gI M 8 0 14 := m8 14 (by omega)
  have g15 : am_gI M' 8 0 15 = am_gI M 8 0 15 := m8 15 (by omega)
  have g16 : am_gI M' 8 0 16 = am_gI M 8 0 16 := m8 16 (by omega)
  obtain ⟨a, l1, l2⟩ := hCI.2.2.2.2.2.2.1
  refine ⟨⟨hCI.1.1, hCI.1.2.1, hCI.1.2.2.1, hCI.1.2.2.2.1, ?_, hG.2.2.2.2.2.1⟩, hC.2.2.2 TA Cn ⟨S, hP⟩ hV, hCI.2.2.2.2.2.1, hCI.2.2.2.2.2.2.2.1, hG.1, hG.2.1, ?_, ?_, ?_, ?_, ⟨a, by omega, l2, by rw [← hG.2.2.2.1.1]; exact l2, hG.2.2.2.1.2⟩, hG.2.2.2.2.1, fun t ht k i q1 q2 => by rw [eI k t i (by omega)]; exact hT t ht k i q1 q2⟩
  · simpa (decide := true) only [sh_X, r7, ne_eq, not_false_eq_true] using sX
  · simpa (decide := true) only [R_T, TT, sh_T, r5, r801, f5, f7, f602, f603, f604, f605, f606, f607, f608, g917, g918, g919, g920, g921, g922, g923, g924, g14, ne_eq, not_false_eq_true] using rT
  · simpa (decide := true) only [R_A, sh_T, r5, r801, ne_eq, not_false_eq_true] using rA
  · simpa (decide := true) only [R_B, BT, r7, f5, f7, f602, f603, f604, f605, f606, f607, f608, g917, g918, g919, g920, g921, g922, g923, g924, g15, g16, ne_eq, not_false_eq_true] using rB
  · refine ⟨rC.1, by rw [eI 7 0 4 (by omega)]; exact rC.2.1, by rw [m8 25 (by omega)]; exact rC.2.2.1, fun c hc => ?_, fun c q1 q2 i hi => ?_⟩
    · by_cases hcj : c = j
      · subst hcj
        obtain ⟨a1, a2, a3, a4, a5⟩ := rC.2.2.2.1 c hc
        refine ⟨hCI.1.2.2.2.2.1, by rw [eR 802 0 c (by decide) (by decide) (by decide)]; exact a2, hG.2.2.1, hCI.2.2.2.1, Or.inr ⟨t, ht, by rw [eR 1 c 0 (by decide) (by decide) (by decide)]; exact hr, hG.2.2.2.2.2.2.2.1, ?_, fun k hk => ⟨(hn k hk).2, (hn k hk).1⟩⟩⟩
        rw [hC.1 209 c 8 (nkq (by omega)) (by omega) (by omega) (by omega) (by omega) (by omega) (by omega) (by omega)]
        exact h98
      · refine CR_cg hN30 (fun k i q1 q2 => hC.1 k c i (nkq (by omega)) (by omega) (by omega) (by omega) (by omega) (by omega) (by omega) (by omega)) (fun i => eR 1 c i (by decide) (by decide) (by decide)) (eR 802 0 c (by decide) (by decide) (by decide)) (mI 926 c (by decide)) (fun i hi => hM.2.2.1 _ (by omega)) (fun k i hi q1 q2 q3 => hM.2.2.2.1 k _ q1 q2 q3 (by omega)) (fun m i hm hi => hM.2.2.2.2.1 _ (by omega)) (rC.2.2.2.1 c hc)
    · rw [hM.2.2.1 _ (by omega)]
      exact rC.2.2.2.2 c q1 q2 i hi
end LV1
