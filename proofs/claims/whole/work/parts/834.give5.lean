section GV8
variable {l : Launch}
theorem GL_cg {C M M' : am_H} {K c t n : Nat} (h0 : am_gI M' 930 0 (30 * c + n) = am_gI M 930 0 (30 * c + n)) (h1 : am_gI M' 918 0 (30 * t + n) = am_gI M 918 0 (30 * t + n)) (h2 : am_gI M' 932 0 (30 * c + n) = am_gI M 932 0 (30 * c + n)) (h3 : am_gI M' 919 0 (30 * t + n) = am_gI M 919 0 (30 * t + n)) (h4 : ∀ i, am_gI M' 934 0 i = am_gI M 934 0 i) (h : GL C M K c t n) : GL C M' K c t n := by
  have e : mp_doing M' c t n = mp_doing M c t n := by
    unfold mp_doing
    rw [h1, h2, h3, h4]
  unfold GL
  rw [h0, h1, h2, e]
  exact h
theorem give_main {n : Nat} {H : am_H} {D : Nat → Nat → Int32} {T : Nat → Nat → Nat → Int32} {N : Nat → Nat} {K Mt TA Cn c : Nat} {o : Option am_A} {y : Int32}
    (sh : sh_L H ∧ sh_M H ∧ sh_W H ∧ sh_D H ∧ sh_X H ∧ sh_Q H) (hV : R_V H TA Cn) (hw : wf_W H) (hP : wf_P H (9000 * n)) (rW : R_W H H) (rD : R_D H H D K) (rT : R_T H H T N K Mt) (rA : R_A H Mt TA) (rB : R_B H H K Mt TA) (rC : R_C H H D T N K Mt Cn) (rL : R_L H H) (rP : R_P H D T N K Mt)
    (hc : c < Cn) (ho : (o = none ∧ y = -4) ∨ ∃ t, t < Mt ∧ o = some (5, t) ∧ y = nI t) (hwt : am_AX l 32 0 [.inr (.inr (some (7, 0))), .inl y] H (some (.inr (.inr o))) H) :
    ∃ (v : Int32) (H1 H2 : am_H), am_AX l 30 4 [.inr (.inr (some (7, 0))), .inl (nI c), .inl y] H (some (.inl v)) H1 ∧ am_AX l 109 2 [.inr (.inr (some (8, 0))), .inl (nI c), .inl y] H1 (some (.inl v)) H2 ∧ RI (n + 1) H2 := by
  have sh' := sh
  obtain ⟨sL, sM, sW, sD, sX, sQ⟩ := sh
  have rC' := rC
  obtain ⟨c6, c1, c2, c3, c4⟩ := rC
  obtain ⟨a1, a2, a3, a4, a5⟩ := c3 c hc
  have hMt := rT.1
  have hy : o = none → y = -4 := fun q => by
    rcases ho with h | ⟨t, -, h, -⟩
    · exact h.2
    · rw [h] at q; cases q
  have ho5 : ∀ a, o = some a → a.1 = 5 := fun a q => by
    rcases ho with h | ⟨t, -, h, -⟩
    · rw [h.1] at q; cases q
    · rw [h] at q; cases q; rfl
  have hyM : y = -4 ∨ 0 ≤ y ∧ y < nI Mt := by
    rcases ho with h | ⟨t, ht, -, h⟩
    · exact Or.inl h.2
    · exact Or.inr (by rw [h]; exact nI_rr ht (by omega))
  rcases a5 with ⟨b1, b2, b3⟩ | ⟨t, ht, b1, b2, b3, b4⟩
  · have hB := c_breakOffAll_n (l := l) b1
    have hcl := c_give c y o 0 H sX c1 c6 hc a2 hy ho5 hwt hB a1
    have tI : ∀ k j i, ¬ (201 ≤ k ∧ k ≤ 205) → k ≠ 209 → am_gI (sp_take H c o y) k j i = am_gI H k j i := fun k j i h1 h2 => gI_take h1 h2
    have sQ1 : sh_Q (sp_take H c o y) := by
      have e : ∀ k j i, k ≠ 1 → am_gR (sp_take H c o y) k j i = am_gR H k j i := fun k j i h => by rw [gR_take, if_neg (fun q => h q.1)]
      simpa (decide := true) only [sh_Q, e, ne_eq, not_false_eq_true, Nat.reduceEqDiff] using sQ
    have hml := m_give_n (l := l) (x := y) sQ1 ((tI 8 0 25 (by decide) (by decide)).trans c2) c6 hc ((tI 8 0 14 (by decide) (by decide)).trans rT.2.2.1) hMt hyM ((tI 926 0 c (by decide) (by decide)).trans b2)
    refine ⟨0, _, _, hcl, hml, ?_⟩
    exact give_RI (C1 := H) (M1 := sp_take H c o y) sh' hV hw hP (R_W_cg rW rfl (tI 8 0 0 (by decide) (by decide)) (fun _ => rfl) (fun _ => rfl) (fun _ => rfl) (fun i => tI 901 0 i (by decide) (by decide)) (fun _ => rfl) (fun i => tI 903 0 i (by decide) (by decide))) rD rT rA rB rC' rL rP hc (fun i hi => by rw [tI 927 0 _ (by decide) (by decide)]; exact a3 i hi) ho (fun _ _ _ _ _ _ => rfl) (fun _ _ _ _ _ => rfl) (fun _ _ _ _ => rfl) (fun _ _ _ => rfl) rfl (fun _ _ _ _ => rfl) (fun _ _ _ _ _ _ _ => rfl) (fun _ _ _ _ _ _ => rfl) (fun _ _ _ _ => rfl) (fun _ _ _ => rfl) rfl
  · obtain ⟨t1, t2, t3, t4, t5, t6⟩ := rT.2.2.2 t ht
    have hN30 : N t ≤ 30 := t3.1.2
    have hS : sh_S H c t := ⟨a1, b1, t1⟩
    have hk10 : am_gI H 2 0 0 ≤ 10 := by rw [rD.2.1]; exact nI_le rD.1 (by decide)
    have hB := c_breakOffAll (l := l) sM sW sD hS hN30 t4 a4 hk10
    have hs1 : sh_C (sp_ba H c t (N t)).2 c := by simpa only [sh_C, gR_ba] using a1
    have hcl := c_give c y o _ _ sX c1 c6 hc a2 hy ho5 hwt hB hs1
    -- the reference's side
    have tI : ∀ k j i, ¬ (201 ≤ k ∧ k ≤ 205) → k ≠ 209 → k ≠ 701 → am_gI (sp_take (sp_ba H c t (N t)).2 c o y) k j i = am_gI H k j i := fun k j i h1 h2 h3 => by rw [gI_take h1 h2, gI_ba2 (by omega) h2 h3]
    have tL : ∀ k j i, k ≠ 702 → am_gL (sp_take (sp_ba H c t (N t)).2 c o y) k j i = am_gL H k j i := fun k j i h => by rw [gL_take, gL_ba h]
    have sQ1 : sh_Q (sp_take (sp_ba H c t (N t)).2 c o y) := by
      have e : ∀ k j i, k ≠ 1 → am_gR (sp_take (sp_ba H c t (N t)).2 c o y) k j i = am_gR H k j i := fun k j i h => by rw [gR_take, if_neg (fun q => h q.1), gR_ba]
      simpa (decide := true) only [sh_Q, e, ne_eq, not_false_eq_true, Nat.reduceEqDiff] using sQ
    have hW1 : R_W H (sp_take (sp_ba H c t (N t)).2 c o y) := R_W_cg rW rfl (tI 8 0 0 (by decide) (by decide) (by decide)) (fun _ => rfl) (fun _ => rfl) (fun _ => rfl) (fun i => tI 901 0 i (by decide) (by decide) (by decide)) (fun i => tL 902 0 i (by decide)) (fun i => tI 903 0 i (by decide) (by decide) (by decide))
    have hD1 : R_D H (sp_take (sp_ba H c t (N t)).2 c o y) D K := by
      have e : ∀ k i, 900 ≤ k → am_gI (sp_take (sp_ba H c t (N t)).2 c o y) k 0 i = am_gI H k 0 i := fun k i h => tI k 0 i (by omega) (by omega) (by omega)
      unfold R_D
      rw [tI 8 0 4 (by decide) (by decide) (by decide)]
      refine ⟨rD.1, rD.2.1, rD.2.2.1, fun i hi => ?_, rD.2.2.2.2.1, rD.2.2.2.2.2⟩
      rw [e 905 i (by decide), e 906 i (by decide), e 907 i (by decide), e 908 i (by decide), e 909 i (by decide), e 910 i (by decide), e 911 i (by decide), e 912 i (by decide), e 913 i (by decide)]
      exact rD.2.2.2.1 i hi
    have hc1 : ∀ i, i < 8 → am_gI H 209 c i = am_gI (sp_take (sp_ba H c t (N t)).2 c o y) 927 0 (8 * c + i) := fun i hi => by rw [tI 927 0 _ (by decide) (by decide) (by decide)]; exact a3 i hi
    have hG1 : ∀ m, m < N t → GL H (sp_take (sp_ba H c t (N t)).2 c o y) K c t m := by
      intro m hm
      obtain ⟨u1, u2⟩ := t6 m (by omega)
      have hw2 := t3.2.2.2.2 m hm
      refine GL_cg (M := H) (tI 930 0 _ (by decide) (by decide) (by decide)) (tI 918 0 _ (by decide) (by decide) (by decide)) (tI 932 0 _ (by decide) (by decide) (by decide)) (tI 919 0 _ (by decide) (by decide) (by decide)) (fun i => tI 934 0 i (by decide) (by decide) (by decide)) ?_
      exact GL_of (T := T t) (by omega) u1.1 u1.2.1 (u2 hm).1 (u2 hm).2.1 (hw2.2.2.2.2.2.2.1) rD.1 (b4 m hm).2
    have hrel := ba_rel hW1 hD1 hc1 hG1
    have hok : ∀ m, m < N t → ¬ am_gI (mp_ba (sp_take (sp_ba H c t (N t)).2 c o y) c t m).2 930 0 (30 * c + m) = 0 → (am_gI (sp_take (sp_ba H c t (N t)).2 c o y) 918 0 (30 * t + m) = 9 → ∃ p, p < 12 ∧ am_gI (sp_take (sp_ba H c t (N t)).2 c o y) 932 0 (30 * c + m) = nI p) ∧ ∃ d, d < 10 ∧ mp_doing (mp_ba (sp_take (sp_ba H c t (N t)).2 c o y) c t m).2 c t m = nI d ∧ (am_gI (sp_take (sp_ba H c t (N t)).2 c o y) 911 0 d = -4 ∨ vp_in (am_gI (sp_take (sp_ba H c t (N t)).2 c o y) 911 0 d) 12) := by
      intro m hm h0
      obtain ⟨-, -, -, -, i5⟩ := hrel m (by omega)
      rcases i5 m (Nat.le_refl _) hm with ⟨g1, -⟩ | ⟨-, -, g3, d, g4, g5, g6⟩
      · exact absurd g1 h0
      · have hK := rD.1
        rw [gI_mba2 (by decide) (by decide) (by decide) (by decide), gI_mba2 (by decide) (by decide) (by decide) (by decide)] at g3
        refine ⟨g3, d, by omega, g6, ?_⟩
        rw [tI 911 0 d (by decide) (by decide) (by decide), ← (rD.2.2.2.1 d (by omega)).2.2.2.2.2.2.1]
        exact (rD.2.2.2.2.1 d g4).2.2
    have hml := m_give (l := l) (x := y) sQ1 ((tI 8 0 25 (by decide) (by decide) (by decide)).trans c2) c6 hc ((tI 8 0 14 (by decide) (by decide) (by decide)).trans rT.2.2.1) hMt hyM ((tI 926 0 c (by decide) (by decide) (by decide)).trans b2) (show t < 9 by omega) ((tI 917 0 t (by decide) (by decide) (by decide)).trans t5) hN30 hok
    obtain ⟨i1, i2, -, i4, -⟩ := hrel (N t) (Nat.le_refl _)
    rw [← i1] at hml
    refine ⟨_, _, _, hcl, hml, ?_⟩
    exact give_RI (C1 := (sp_ba H c t (N t)).2) (M1 := (mp_ba (sp_take (sp_ba H c t (N t)).2 c o y) c t (N t)).2) sh' hV (wf_W_ba hw) hP i2 rD rT rA rB rC' rL rP hc i4 ho (fun k j i h1 h2 h3 => gI_ba2 h1 h2 h3) (fun k j i h1 h2 => gI_ba_j h1 h2) (fun k j i h => gL_ba h) (fun _ _ _ => gR_ba) lv_ba (fun k j i h => ga_ba h) (fun k j i h1 h2 h3 h4 => gI_mba2 h1 h2 h3 h4) (fun k i h1 h2 h3 h4 => gI_mba hN30 h1 h2 h3 h4) (fun k j i h => by rw [gL_mba h, gL_take]) (fun k j i => gR_mba) (lv_mba.trans (lv_take.trans lv_ba))
theorem p_Give (a0 : Int32) (a1 : Int32) : am_prI l RI 30 109 [.inl a0, .inl a1] := by
  intro n H hn hR
  have hR0 := RI_s n H hR
  obtain ⟨D, T, N, K, Mt, TA, Cn, ⟨sL, sM, sW, sD, sX, sQ⟩, hV, hw, hP, rW, rD, rT, rA, rB, rC, rL, rP⟩ := hR
  have hMt := rT.1
  have c6 := rC.1
  have hyv : (∃ t, t < Mt ∧ a1 = nI t) ∨ ¬ (0 ≤ a1 ∧ a1 < nI Mt) := by
    by_cases h : 0 ≤ a1 ∧ a1 < nI Mt
    · obtain ⟨t, ht, e⟩ := nI_r (by omega) h
      exact Or.inl ⟨t, ht, e⟩
    · exact Or.inr h
  have hwt : ∃ o : Option am_A, am_AX l 32 0 [.inr (.inr (some (7, 0))), .inl a1] H (some (.inr (.inr o))) H ∧ ((o = none ∧ ¬ (0 ≤ a1 ∧ a1 < nI Mt)) ∨ ∃ t, t < Mt ∧ o = some (5, t) ∧ a1 = nI t) := by
    rcases hyv with ⟨t, ht, rfl⟩ | h
    · exact ⟨_, c_wholeTree t sX rT.2.1 hMt ht (rT.2.2.2 t ht).2.1, Or.inr ⟨t, ht, rfl, rfl⟩⟩
    · exact ⟨_, c_wholeTree_n a1 sX (by rw [rT.2.1]; exact h), Or.inl ⟨rfl, h⟩⟩
  obtain ⟨o, hwt, ho⟩ := hwt
  by_cases hc : 0 ≤ a0 ∧ a0 < nI Cn
  · obtain ⟨c, hcc, rfl⟩ := nI_r (by omega) hc
    by_cases hbad : o = none ∧ ¬ a1 = -4
    · obtain ⟨rfl, h4⟩ := hbad
      rcases ho with ⟨-, ho⟩ | ⟨t, -, ho, -⟩
      · exact pr_of (c_give_2 c a1 sX rC.2.1 c6 hcc (rC.2.2.2.1 c hcc).2.1 h4 hwt) (by decide) (m_give_2 c a1 rC.2.2.1 c6 hcc rT.2.2.1 hMt h4 ho) (by decide) hR0
      · cases ho
    · have ho2 : (o = none ∧ a1 = -4) ∨ ∃ t, t < Mt ∧ o = some (5, t) ∧ a1 = nI t := by
        rcases ho with ⟨h, -⟩ | h
        · exact Or.inl ⟨h, Classical.not_not.mp (fun q => hbad ⟨h, q⟩)⟩
        · exact Or.inr h
      obtain ⟨v, H1, H2, q1, q2, q3⟩ := give_main (l := l) ⟨sL, sM, sW, sD, sX, sQ⟩ hV hw hP rW rD rT rA rB rC rL rP hcc ho2 hwt
      exact pr_of q1 (by decide) q2 (by decide) q3
  · exact pr_of (c_give_1 a0 a1 o sX (by rw [rC.2.1]; exact hc) hwt) (by decide) (m_give_1 a0 a1 rC.2.2.1 c6 hc) (by decide) hR0
end GV8
