section GV7
variable {l : Launch}
/-- the class' cells in a heap that the reference's give made -/
theorem ga_I {H : am_H} {c n k j i : Nat} {x : Int32} (h : k < 900) : am_gI (mp_z6 (am_sI H 926 0 c x) c n) k j i = am_gI H k j i := by
  rw [gI_z6n (by omega), am_gI_sI, if_neg (fun q => by omega)]
theorem ga_ba {H : am_H} {c t n k j i : Nat} (h : k < 900) : am_gI (mp_ba H c t n).2 k j i = am_gI H k j i := gI_mba2 (by omega) (by omega) (by omega) (by omega)
/-- the class' side of give and the reference's: what is left behind -/
theorem give_RI {n : Nat} {H C1 M1 : am_H} {D : Nat → Nat → Int32} {T : Nat → Nat → Nat → Int32} {N : Nat → Nat} {K Mt TA Cn c : Nat} {o : Option am_A} {y : Int32}
    (sh : sh_L H ∧ sh_M H ∧ sh_W H ∧ sh_D H ∧ sh_X H ∧ sh_Q H) (hV : R_V H TA Cn) (hw : wf_W C1) (hP : wf_P H (9000 * n)) (rW : R_W C1 M1) (rD : R_D H H D K) (rT : R_T H H T N K Mt) (rA : R_A H Mt TA) (rB : R_B H H K Mt TA) (rC : R_C H H D T N K Mt Cn) (rL : R_L H H) (rP : R_P H D T N K Mt)
    (hc : c < Cn) (hcnt : ∀ i, i < 8 → am_gI C1 209 c i = am_gI M1 927 0 (8 * c + i))
    (ho : (o = none ∧ y = -4) ∨ ∃ t, t < Mt ∧ o = some (5, t) ∧ y = nI t)
    (cI : ∀ k j i, k ≠ 203 → k ≠ 209 → k ≠ 701 → am_gI C1 k j i = am_gI H k j i) (cJ : ∀ k j i, j ≠ c → k ≠ 701 → am_gI C1 k j i = am_gI H k j i) (cL : ∀ k j i, k ≠ 702 → am_gL C1 k j i = am_gL H k j i) (cR : ∀ k j i, am_gR C1 k j i = am_gR H k j i) (cv : am_lv C1 = am_lv H)
    (m0 : ∀ k j i, k < 900 → am_gI M1 k j i = am_gI (sp_take C1 c o y) k j i) (mI : ∀ k j i, k ≠ 901 → k ≠ 930 → k ≠ 927 → k ≠ 933 → am_gI M1 k j i = am_gI (sp_take C1 c o y) k j i) (mJ : ∀ k i, k ≠ 901 → ¬ (k = 930 ∧ 30 * c ≤ i ∧ i < 30 * c + 30) → ¬ (k = 927 ∧ i = 8 * c + 2) → ¬ (k = 933 ∧ 30 * c ≤ i ∧ i < 30 * c + 30) → am_gI M1 k 0 i = am_gI (sp_take C1 c o y) k 0 i) (mL : ∀ k j i, k ≠ 902 → am_gL M1 k j i = am_gL C1 k j i) (mR : ∀ k j i, am_gR M1 k j i = am_gR (sp_take C1 c o y) k j i) (mv : am_lv M1 = am_lv H) :
    RI (n + 1) (mp_z6 (am_sI M1 926 0 c y) c 30) := by
  obtain ⟨sL, sM, sW, sD, sX, sQ⟩ := sh
  obtain ⟨c6, c1, c2, c3, c4⟩ := rC
  have hN30 : ∀ t, t < Mt → N t ≤ 30 := fun t ht => (rT.2.2.2 t ht).2.2.1.1.2
  -- the last heap's cells
  have zR : ∀ k j i, am_gR (mp_z6 (am_sI M1 926 0 c y) c 30) k j i = if k = 1 ∧ j = c ∧ i = 0 then o else am_gR H k j i := fun k j i => by
    rw [gR_z6, am_gR_sI, mR, gR_take, cR]
  have zR' : ∀ k j i, k ≠ 1 → am_gR (mp_z6 (am_sI M1 926 0 c y) c 30) k j i = am_gR H k j i := fun k j i h => by
    rw [zR, if_neg (fun q => h q.1)]
  have zv : am_lv (mp_z6 (am_sI M1 926 0 c y) c 30) = am_lv H := mv
  have zC : ∀ k j i, k < 900 → am_gI (mp_z6 (am_sI M1 926 0 c y) c 30) k j i = am_gI (sp_take C1 c o y) k j i := fun k j i h => by
    rw [ga_I h, m0 k j i h]
  have zI : ∀ k j i, k < 900 → ¬ (201 ≤ k ∧ k ≤ 205) → k ≠ 209 → k ≠ 701 → am_gI (mp_z6 (am_sI M1 926 0 c y) c 30) k j i = am_gI H k j i := fun k j i h h2 h3 h4 => by
    rw [zC k j i h, gI_take h2 h3, cI k j i (by omega) h3 h4]
  have zM : ∀ k j i, 900 ≤ k → k ≠ 901 → k ≠ 926 → ¬ (927 ≤ k ∧ k ≤ 933) → am_gI (mp_z6 (am_sI M1 926 0 c y) c 30) k j i = am_gI H k j i := fun k j i h h1 h2 h3 => by
    rw [gI_z6n (by omega), am_gI_sI, if_neg (fun q => h2 q.1), mI k j i (by omega) (by omega) (by omega) (by omega), gI_take (by omega) (by omega), cI k j i (by omega) (by omega) (by omega)]
  have z8 : ∀ j i, am_gI (mp_z6 (am_sI M1 926 0 c y) c 30) 8 j i = am_gI H 8 j i := fun j i => zI 8 j i (by decide) (by decide) (by decide) (by decide)
  have zL : ∀ k j i, k ≠ 702 → k ≠ 902 → am_gL (mp_z6 (am_sI M1 926 0 c y) c 30) k j i = am_gL H k j i := fun k j i h h2 => by
    rw [gL_z6, am_gL_sI, mL k j i h2, cL k j i h]
  have z702 : ∀ j i, am_gL (mp_z6 (am_sI M1 926 0 c y) c 30) 702 j i = am_gL C1 702 j i := fun j i => by
    rw [gL_z6, am_gL_sI, mL 702 j i (by decide)]
  have z701 : ∀ j i, am_gI (mp_z6 (am_sI M1 926 0 c y) c 30) 701 j i = am_gI C1 701 j i := fun j i => by
    rw [zC 701 j i (by decide), gI_take (by decide) (by decide)]
  have z901 : ∀ i, am_gI (mp_z6 (am_sI M1 926 0 c y) c 30) 901 0 i = am_gI M1 901 0 i := fun i => by
    rw [gI_z6n (by decide), am_gI_sI, if_neg (fun q => absurd q.1 (by decide))]
  have z902 : ∀ i, am_gL (mp_z6 (am_sI M1 926 0 c y) c 30) 902 0 i = am_gL M1 902 0 i := fun i => rfl
  refine ⟨D, T, N, K, Mt, TA, Cn, ⟨?_, ?_, ?_, ?_, ?_, ?_⟩, ?_, ?_, ?_, ?_, ?_, ?_, ?_, ?_, ?_, ?_, ?_⟩
  · simpa (decide := true) only [sh_L, zR', ne_eq, not_false_eq_true, Nat.reduceEqDiff] using sL
  · simpa (decide := true) only [sh_M, zR', ne_eq, not_false_eq_true, Nat.reduceEqDiff] using sM
  · simpa (decide := true) only [sh_W, zR', ne_eq, not_false_eq_true, Nat.reduceEqDiff] using sW
  · simpa (decide := true) only [sh_D, zR', ne_eq, not_false_eq_true, Nat.reduceEqDiff] using sD
  · simpa (decide := true) only [sh_X, zR', ne_eq, not_false_eq_true, Nat.reduceEqDiff] using sX
  · simpa (decide := true) only [sh_Q, zR', ne_eq, not_false_eq_true, Nat.reduceEqDiff] using sQ
  · unfold R_V; rw [zv]; exact hV
  · exact wf_W_cg (fun i => z701 0 i) (fun i => z702 0 i) hw
  · have hP2 := wf_P_mono (S2 := 9000 * (n + 1)) (by omega) hP
    have e4 : ∀ b i, am_gI (mp_z6 (am_sI M1 926 0 c y) c 30) 4 b i = am_gI H 4 b i := fun b i => zI 4 b i (by decide) (by decide) (by decide) (by decide)
    have e5 : ∀ b i, am_gI (mp_z6 (am_sI M1 926 0 c y) c 30) 508 b i = am_gI H 508 b i := fun b i => zI 508 b i (by decide) (by decide) (by decide) (by decide)
    simpa (decide := true) only [wf_P, sh_P, zR', zv, e4, e5, ne_eq, not_false_eq_true, Nat.reduceEqDiff] using hP2
  · refine R_W_cg rW ?_ ?_ (fun i => z701 0 i) (fun i => z702 0 i) (fun i => ?_) z901 z902 (fun i => ?_)
    · rw [zI 6 0 0 (by decide) (by decide) (by decide) (by decide), cI 6 0 0 (by decide) (by decide) (by decide)]
    · rw [gI_z6n (by decide), am_gI_sI, if_neg (fun q => absurd q.1 (by decide))]
    · rw [zI 703 0 i (by decide) (by decide) (by decide) (by decide), cI 703 0 i (by decide) (by decide) (by decide)]
    · rw [gI_z6n (by decide), am_gI_sI, if_neg (fun q => absurd q.1 (by decide))]
  · have e : ∀ k i, k < 900 → ¬ (201 ≤ k ∧ k ≤ 205) → k ≠ 209 → k ≠ 701 → am_gI (mp_z6 (am_sI M1 926 0 c y) c 30) k 0 i = am_gI H k 0 i := fun k i => zI k 0 i
    have e2 : ∀ k i, 900 ≤ k → k ≠ 901 → k ≠ 926 → ¬ (927 ≤ k ∧ k ≤ 933) → am_gI (mp_z6 (am_sI M1 926 0 c y) c 30) k 0 i = am_gI H k 0 i := fun k i => zM k 0 i
    unfold R_D
    rw [e 2 0 (by decide) (by decide) (by decide) (by decide), z8 0 4]
    refine ⟨rD.1, rD.2.1, rD.2.2.1, fun i hi => ?_, fun i hi => ?_, rD.2.2.2.2.2⟩
    · rw [e 301 i (by decide) (by decide) (by decide) (by decide), e 302 i (by decide) (by decide) (by decide) (by decide), e 303 i (by decide) (by decide) (by decide) (by decide), e 304 i (by decide) (by decide) (by decide) (by decide), e 305 i (by decide) (by decide) (by decide) (by decide), e 306 i (by decide) (by decide) (by decide) (by decide), e 307 i (by decide) (by decide) (by decide) (by decide), e 308 i (by decide) (by decide) (by decide) (by decide), e 309 i (by decide) (by decide) (by decide) (by decide), e2 905 i (by decide) (by decide) (by decide) (by decide), e2 906 i (by decide) (by decide) (by decide) (by decide), e2 907 i (by decide) (by decide) (by decide) (by decide), e2 908 i (by decide) (by decide) (by decide) (by decide), e2 909 i (by decide) (by decide) (by decide) (by decide), e2 910 i (by decide) (by decide) (by decide) (by decide), e2 911 i (by decide) (by decide) (by decide) (by decide), e2 912 i (by decide) (by decide) (by decide) (by decide), e2 913 i (by decide) (by decide) (by decide) (by decide)]
      exact rD.2.2.2.1 i hi
    · rw [e 301 i (by decide) (by decide) (by decide) (by decide), e 307 i (by decide) (by decide) (by decide) (by decide)]
      exact rD.2.2.2.2.1 i hi
  · unfold R_T
    rw [zI 7 0 3 (by decide) (by decide) (by decide) (by decide), z8 0 14]
    refine ⟨rT.1, rT.2.1, rT.2.2.1, fun t ht => ?_⟩
    obtain ⟨t1, t2, t3, t4, t5, t6⟩ := rT.2.2.2 t ht
    refine ⟨by simpa (decide := true) only [sh_T, zR', ne_eq, not_false_eq_true, Nat.reduceEqDiff] using t1, by rw [zR' 801 0 t (by decide)]; exact t2, t3, by rw [zI 5 t 0 (by decide) (by decide) (by decide) (by decide)]; exact t4, by rw [zM 917 0 t (by decide) (by decide) (by decide) (by decide)]; exact t5, fun m hm => ?_⟩
    rw [zI 602 t m (by decide) (by decide) (by decide) (by decide), zI 603 t m (by decide) (by decide) (by decide) (by decide), zI 604 t m (by decide) (by decide) (by decide) (by decide), zI 605 t m (by decide) (by decide) (by decide) (by decide), zI 606 t m (by decide) (by decide) (by decide) (by decide), zI 607 t m (by decide) (by decide) (by decide) (by decide), zM 918 0 _ (by decide) (by decide) (by decide) (by decide), zM 919 0 _ (by decide) (by decide) (by decide) (by decide), zM 920 0 _ (by decide) (by decide) (by decide) (by decide), zM 921 0 _ (by decide) (by decide) (by decide) (by decide), zM 922 0 _ (by decide) (by decide) (by decide) (by decide), zM 923 0 _ (by decide) (by decide) (by decide) (by decide)]
    exact t6 m hm
  · refine ⟨rA.1, rA.2.1, rA.2.2.1, fun t ht => ?_⟩
    rw [zR' 801 0 t (by decide)]
    refine ⟨fun h => ⟨?_, ((rA.2.2.2 t ht).1 h).2⟩, (rA.2.2.2 t ht).2⟩
    simpa (decide := true) only [sh_T, zR', ne_eq, not_false_eq_true, Nat.reduceEqDiff] using ((rA.2.2.2 t ht).1 h).1
  · unfold R_B
    rw [zR' 7 0 5 (by decide), z8 0 15]
    rcases rB with b | ⟨b1, b2, b3, b4, n0, p, B, lk, b5, b6, b7, b8, b9, b10⟩
    · exact Or.inl b
    · refine Or.inr ⟨b1, b2, b3, b4, n0, p, B, lk, b5, ?_, ?_, ?_, ?_, fun m hm => ?_⟩
      · rw [zI 5 _ 0 (by decide) (by decide) (by decide) (by decide)]; exact b6
      · rw [zI 5 _ 1 (by decide) (by decide) (by decide) (by decide)]; exact b7
      · rw [zM 917 0 _ (by decide) (by decide) (by decide) (by decide)]; exact b8
      · rw [z8]; exact b9
      · rw [zI 602 _ m (by decide) (by decide) (by decide) (by decide), zI 603 _ m (by decide) (by decide) (by decide) (by decide), zI 604 _ m (by decide) (by decide) (by decide) (by decide), zI 605 _ m (by decide) (by decide) (by decide) (by decide), zI 606 _ m (by decide) (by decide) (by decide) (by decide), zI 608 _ m (by decide) (by decide) (by decide) (by decide), zM 918 0 _ (by decide) (by decide) (by decide) (by decide), zM 919 0 _ (by decide) (by decide) (by decide) (by decide), zM 920 0 _ (by decide) (by decide) (by decide) (by decide), zM 921 0 _ (by decide) (by decide) (by decide) (by decide), zM 922 0 _ (by decide) (by decide) (by decide) (by decide), zM 923 0 _ (by decide) (by decide) (by decide) (by decide), zM 924 0 _ (by decide) (by decide) (by decide) (by decide)]
        exact b10 m hm
  · refine ⟨c6, by rw [zI 7 0 4 (by decide) (by decide) (by decide) (by decide)]; exact c1, by rw [z8]; exact c2, fun d hd => ?_, fun d h1 h2 i hi => ?_⟩
    · by_cases hdc : d = c
      · subst hdc
        obtain ⟨a1, a2, a3, a4, a5⟩ := c3 d hd
        have z5 : ∀ k i, 201 ≤ k → k ≤ 205 → i < 30 → am_gI (mp_z6 (am_sI M1 926 0 d y) d 30) k d i = 0 := fun k i h1 h2 h3 => by
          rw [zC k d i (by omega)]
          unfold sp_take
          rw [gI_z5, if_pos ⟨⟨h1, h2⟩, rfl, h3⟩]
        have z6 : ∀ k i, 928 ≤ k → k ≤ 933 → i < 30 → am_gI (mp_z6 (am_sI M1 926 0 d y) d 30) k 0 (30 * d + i) = 0 := fun k i h1 h2 h3 => by
          rw [gI_z6, if_pos ⟨⟨h1, h2⟩, rfl, by omega, by omega⟩]
        have z26 : am_gI (mp_z6 (am_sI M1 926 0 d y) d 30) 926 0 d = y := by
          rw [gI_z6n (by decide), am_gI_sI, if_pos ⟨rfl, rfl, rfl⟩]
        have z98 : am_gI (mp_z6 (am_sI M1 926 0 d y) d 30) 209 d 8 = y := by
          rw [zC 209 d 8 (by decide)]
          unfold sp_take
          rw [gI_z5, if_neg (fun q => absurd q.1 (by decide)), am_gI_sI, if_pos ⟨rfl, rfl, rfl⟩]
        refine ⟨?_, by rw [zR' 802 0 d (by decide)]; exact a2, fun i hi => ?_, fun m hm => by rw [z5 205 m (by decide) (by decide) hm]; decide, ?_⟩
        · have zR1 : ∀ i, i ≠ 0 → am_gR (mp_z6 (am_sI M1 926 0 d y) d 30) 1 d i = am_gR H 1 d i := fun i h => by
            rw [zR, if_neg (fun q => h q.2.2)]
          simpa (decide := true) only [sh_C, zR1, ne_eq, not_false_eq_true, Nat.reduceEqDiff] using a1
        · rw [zC 209 d i (by decide), gI_z6n (by decide), am_gI_sI, if_neg (fun q => absurd q.1 (by decide)), ← hcnt i hi]
          unfold sp_take
          rw [gI_z5, if_neg (fun q => absurd q.1 (by decide)), am_gI_sI, if_neg (fun q => by omega), am_gI_sR]
        · rcases ho with ⟨rfl, rfl⟩ | ⟨t, ht, rfl, rfl⟩
          · exact Or.inl ⟨by rw [zR, if_pos ⟨rfl, rfl, rfl⟩], z26, z98⟩
          · refine Or.inr ⟨t, ht, by rw [zR, if_pos ⟨rfl, rfl, rfl⟩], z26, z98, fun m hm => ?_⟩
            have hm30 : m < 30 := by have := hN30 t ht; omega
            refine ⟨by rw [z5 202 m (by decide) (by decide) hm30, z6 929 m (by decide) (by decide) hm30], by rw [z5 201 m (by decide) (by decide) hm30, z6 928 m (by decide) (by decide) hm30], Or.inl ⟨z6 930 m (by decide) (by decide) hm30, z5 203 m (by decide) (by decide) hm30⟩, fun _ => ⟨by rw [z5 205 m (by decide) (by decide) hm30, z6 933 m (by decide) (by decide) hm30], Or.inl ⟨z5 205 m (by decide) (by decide) hm30, z5 204 m (by decide) (by decide) hm30⟩⟩, fun h67 _ => ⟨0, z5 204 m (by decide) (by decide) hm30, z6 932 m (by decide) (by decide) hm30, ?_⟩, fun _ _ _ => z5 204 m (by decide) (by decide) hm30⟩
            have hw := (rT.2.2.2 t ht).2.2.1.2.2.2.2 m hm
            rcases h67 with h | h
            · obtain ⟨a, q1, q2, q3⟩ := hw.2.2.2.2.2.2.2.2.2.1 h
              rw [q3, nI_clamp (show a < 2 ^ 31 by omega)]
              omega
            · obtain ⟨a, q1, q2, q3⟩ := hw.2.2.2.2.2.2.2.1 (Or.inr (Or.inr (Or.inr h)))
              rw [q3, nI_clamp (show a < 2 ^ 31 by omega)]
              omega
      · refine CR_cg hN30 (fun k i h1 h2 => ?_) (fun i => by rw [zR, if_neg (fun q => hdc q.2.1)]) (zR' 802 0 d (by decide)) ?_ (fun i hi => ?_) (fun k i hi h1 h2 h3 => ?_) (fun m i hm hi => ?_) (c3 d hd)
        · rw [zC k d i (by omega), gI_take_j hdc, cJ k d i hdc (by omega)]
        · rw [gI_z6n (by decide), am_gI_sI, if_neg (fun q => hdc q.2.2), mI 926 0 d (by decide) (by decide) (by decide) (by decide), gI_take (by decide) (by decide), cI 926 0 d (by decide) (by decide) (by decide)]
        · rw [gI_z6n (by decide), am_gI_sI, if_neg (fun q => absurd q.1 (by decide)), mJ 927 _ (by decide) (by omega) (by omega) (by omega), gI_take (by decide) (by decide), cI 927 0 _ (by decide) (by decide) (by decide)]
        · rw [gI_z6, if_neg (fun q => by omega), am_gI_sI, if_neg (fun q => by omega), mJ k _ (by omega) (by omega) (by omega) (by omega), gI_take (by omega) (by omega), cI k 0 _ (by omega) (by omega) (by omega)]
        · rw [zM 934 0 _ (by decide) (by decide) (by decide) (by decide)]
    · rw [gI_z6n (by decide), am_gI_sI, if_neg (fun q => absurd q.1 (by decide)), mJ 927 _ (by decide) (by omega) (by omega) (by omega), gI_take (by decide) (by decide), cI 927 0 _ (by decide) (by decide) (by decide)]
      exact c4 d h1 h2 i hi
  · obtain ⟨a, ha, l1, l2, l3⟩ := rL
    refine ⟨a, ha, by rw [zI 0 0 0 (by decide) (by decide) (by decide) (by decide)]; exact l1, by rw [z8]; exact l2, fun i hi => ?_⟩
    rw [zI 101 0 i (by decide) (by decide) (by decide) (by decide), zI 102 0 i (by decide) (by decide) (by decide) (by decide), zM 940 0 i (by decide) (by decide) (by decide) (by decide), zM 941 0 i (by decide) (by decide) (by decide) (by decide)]
    exact l3 i hi
  · intro k hk
    rw [zM 937 0 k (by decide) (by decide) (by decide) (by decide)]
    rcases rP k hk with q | ⟨q1, t, m, q2, q3, q4, q5⟩
    · exact Or.inl q
    · refine Or.inr ⟨q1, t, m, q2, q3, q4, fun j f hj hf => ?_⟩
      rw [zM 936 0 _ (by decide) (by decide) (by decide) (by decide)]
      exact q5 j f hj hf
end GV7
