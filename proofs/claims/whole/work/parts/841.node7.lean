section ND7
variable {l : Launch}
abbrev safeN (x : Nat) : Prop := x ≠ 7 ∧ x ≠ 5 ∧ ¬ (602 ≤ x ∧ x ≤ 608) ∧ x ≠ 917 ∧ x ≠ 8 ∧ ¬ (918 ≤ x ∧ x ≤ 924)
theorem node_RI {n : Nat} {H F : am_H} {D : Nat → Nat → Int32} {T T' : Nat → Nat → Nat → Int32} {N N' : Nat → Nat} {K Mt Mt' TA Cn : Nat}
    (sh : sh_L H ∧ sh_M H ∧ sh_W H ∧ sh_D H ∧ sh_X H ∧ sh_Q H) (hV : R_V H TA Cn) (hw : wf_W H) (hP : wf_P H (9000 * n)) (rW : R_W H H) (rD : R_D H H D K) (rT : R_T H H T N K Mt) (rC : R_C H H D T N K Mt Cn) (rL : R_L H H) (rP : R_P H D T N K Mt)
    (fI : ∀ x y z, safeN x → am_gI F x y z = am_gI H x y z) (f8 : ∀ z, z ≠ 14 → z ≠ 15 → z ≠ 16 → am_gI F 8 0 z = am_gI H 8 0 z) (fR : ∀ x y z, ¬ (x = 7 ∧ z = 5) → am_gR F x y z = am_gR H x y z) (fL : ∀ x y z, am_gL F x y z = am_gL H x y z) (fv : am_lv F = am_lv H) (f7 : am_gI F 7 0 4 = am_gI H 7 0 4)
    (hMM : Mt ≤ Mt') (hTN : ∀ t, t < Mt → T' t = T t ∧ N' t = N t) (rT' : R_T F F T' N' K Mt') (rA' : R_A F Mt' TA) (rB' : R_B F F K Mt' TA) : RI (n + 1) F := by
  obtain ⟨sL, sM, sW, sD, sX, sQ⟩ := sh
  have fRx : ∀ x y z, x ≠ 7 → am_gR F x y z = am_gR H x y z := fun x y z h => fR x y z (fun q => h q.1)
  have fRz : ∀ z, z ≠ 5 → am_gR F 7 0 z = am_gR H 7 0 z := fun z h => fR 7 0 z (fun q => h q.2)
  have hN30 : ∀ t, t < Mt → N t ≤ 30 := fun t ht => (rT.2.2.2 t ht).2.2.1.1.2
  refine ⟨D, T', N', K, Mt', TA, Cn, ⟨?_, ?_, ?_, ?_, ?_, ?_⟩, ?_, ?_, ?_, ?_, ?_, rT', rA', rB', ?_, ?_, ?_⟩
  · simpa (decide := true) only [sh_L, fRx, ne_eq, not_false_eq_true, Nat.reduceEqDiff] using sL
  · simpa (decide := true) only [sh_M, fRx, ne_eq, not_false_eq_true, Nat.reduceEqDiff] using sM
  · simpa (decide := true) only [sh_W, fRx, ne_eq, not_false_eq_true, Nat.reduceEqDiff] using sW
  · simpa (decide := true) only [sh_D, fRx, ne_eq, not_false_eq_true, Nat.reduceEqDiff] using sD
  · simpa (decide := true) only [sh_X, fRz, ne_eq, not_false_eq_true, Nat.reduceEqDiff] using sX
  · simpa (decide := true) only [sh_Q, fRx, ne_eq, not_false_eq_true, Nat.reduceEqDiff] using sQ
  · unfold R_V; rw [fv]; exact hV
  · exact wf_W_cg (fun i => fI 701 0 i (by decide)) (fun i => fL 702 0 i) hw
  · have hP2 := wf_P_mono (S2 := 9000 * (n + 1)) (by omega) hP
    have e4 : ∀ b i, am_gI F 4 b i = am_gI H 4 b i := fun b i => fI 4 b i (by decide)
    have e5 : ∀ b i, am_gI F 508 b i = am_gI H 508 b i := fun b i => fI 508 b i (by decide)
    simpa (decide := true) only [wf_P, sh_P, fRx, fv, e4, e5, ne_eq, not_false_eq_true, Nat.reduceEqDiff] using hP2
  · exact R_W_cg rW (fI 6 0 0 (by decide)) (f8 0 (by decide) (by decide) (by decide)) (fun i => fI 701 0 i (by decide)) (fun i => fL 702 0 i) (fun i => fI 703 0 i (by decide)) (fun i => fI 901 0 i (by decide)) (fun i => fL 902 0 i) (fun i => fI 903 0 i (by decide))
  · unfold R_D
    rw [fI 2 0 0 (by decide), f8 4 (by decide) (by decide) (by decide)]
    refine ⟨rD.1, rD.2.1, rD.2.2.1, fun i hi => ?_, fun i hi => ?_, rD.2.2.2.2.2⟩
    · rw [fI 301 0 i (by decide), fI 302 0 i (by decide), fI 303 0 i (by decide), fI 304 0 i (by decide), fI 305 0 i (by decide), fI 306 0 i (by decide), fI 307 0 i (by decide), fI 308 0 i (by decide), fI 309 0 i (by decide), fI 905 0 i (by decide), fI 906 0 i (by decide), fI 907 0 i (by decide), fI 908 0 i (by decide), fI 909 0 i (by decide), fI 910 0 i (by decide), fI 911 0 i (by decide), fI 912 0 i (by decide), fI 913 0 i (by decide)]
      exact rD.2.2.2.1 i hi
    · rw [fI 301 0 i (by decide), fI 307 0 i (by decide)]
      exact rD.2.2.2.2.1 i hi
  · obtain ⟨c6, c1, c2, c3, c4⟩ := rC
    refine ⟨c6, by rw [f7]; exact c1, by rw [f8 25 (by decide) (by decide) (by decide)]; exact c2, fun c hc => ?_, fun c h1 h2 i hi => by rw [fI 927 0 _ (by decide)]; exact c4 c h1 h2 i hi⟩
    have q := CR_cg (C := H) (M := H) (C' := F) (M' := F) hN30 (fun k i h1 h2 => fI k c i (by omega)) (fun i => fRx 1 c i (by decide)) (fRx 802 0 c (by decide)) (fI 926 0 c (by decide)) (fun i hi => fI 927 0 _ (by decide)) (fun k i hi h1 h2 h3 => fI k 0 _ (by omega)) (fun m i hm hi => fI 934 0 _ (by decide)) (c3 c hc)
    obtain ⟨a1, a2, a3, a4, a5⟩ := q
    refine ⟨a1, a2, a3, a4, ?_⟩
    rcases a5 with a5 | ⟨t, b1, b2, b3, b4, b5⟩
    · exact Or.inl a5
    · obtain ⟨e1, e2⟩ := hTN t b1
      exact Or.inr ⟨t, by omega, b2, b3, b4, fun m hm => by rw [e2] at hm; rw [e1]; exact b5 m hm⟩
  · obtain ⟨a, ha, l1, l2, l3⟩ := rL
    refine ⟨a, ha, by rw [fI 0 0 0 (by decide)]; exact l1, by rw [f8 39 (by decide) (by decide) (by decide)]; exact l2, fun i hi => ?_⟩
    rw [fI 101 0 i (by decide), fI 102 0 i (by decide), fI 940 0 i (by decide), fI 941 0 i (by decide)]
    exact l3 i hi
  · intro k hk
    rw [fI 937 0 k (by decide)]
    rcases rP k hk with q | ⟨q1, t, m, q2, q3, q4, q5⟩
    · exact Or.inl q
    · obtain ⟨e1, e2⟩ := hTN t q2
      refine Or.inr ⟨q1, t, m, by omega, by rw [e2]; exact q3, q4, fun j f hj hf => ?_⟩
      rw [fI 936 0 _ (by decide), e1]
      exact q5 j f hj hf
/-- the trees that are whole stay so -/
theorem TT_fr {H F : am_H} {T T' : Nat → Nat → Nat → Int32} {N N' : Nat → Nat} {K Mt t : Nat} (ht : t < Mt) (hTN : T' t = T t ∧ N' t = N t)
    (fO : ∀ x z, x = 5 ∨ 602 ≤ x ∧ x ≤ 607 → am_gI F x t z = am_gI H x t z) (fR : ∀ x y z, x ≠ 7 → am_gR F x y z = am_gR H x y z) (f17 : ∀ z, z ≠ Mt → am_gI F 917 0 z = am_gI H 917 0 z) (fM : ∀ x z, 918 ≤ x → x ≤ 923 → ¬ (30 * Mt ≤ z ∧ z < 30 * Mt + 30) → am_gI F x 0 z = am_gI H x 0 z) (h : TT H H T N K t) : TT F F T' N' K t := by
  obtain ⟨t1, t2, t3, t4, t5, t6⟩ := h
  obtain ⟨e1, e2⟩ := hTN
  unfold TT
  rw [e1, e2]
  refine ⟨by simpa (decide := true) only [sh_T, fR, ne_eq, not_false_eq_true, Nat.reduceEqDiff] using t1, by rw [fR 801 0 t (by decide)]; exact t2, t3, by rw [fO 5 0 (Or.inl rfl)]; exact t4, by rw [f17 t (by omega)]; exact t5, fun m hm => ?_⟩
  have hz : ¬ (30 * Mt ≤ 30 * t + m ∧ 30 * t + m < 30 * Mt + 30) := by omega
  rw [fO 602 m (by decide), fO 603 m (by decide), fO 604 m (by decide), fO 605 m (by decide), fO 606 m (by decide), fO 607 m (by decide), fM 918 _ (by decide) (by decide) hz, fM 919 _ (by decide) (by decide) hz, fM 920 _ (by decide) (by decide) hz, fM 921 _ (by decide) (by decide) hz, fM 922 _ (by decide) (by decide) hz, fM 923 _ (by decide) (by decide) hz]
  exact t6 m hm
theorem sm_ge {lk : Nat → Nat} : ∀ n i, i < n → lk i ≤ sm lk n := by
  intro n
  induction n with
  | zero => intro i h; omega
  | succ n ih =>
    intro i h
    show lk i ≤ sm lk n + lk n
    by_cases e : i = n
    · subst e; omega
    · have := ih i (by omega); omega
theorem mgrow_8 {H : am_H} {k a b c s : Int32} {t n0 : Nat} {o : Option Nat} {L : List Nat} {z : Nat} : am_gI (mp_inc (mp_up (mp_row H (30 * t + n0) k a b c s) t n0 o) t L) 8 0 z = am_gI H 8 0 z := by
  rw [gI_inc _ _ (fun q => absurd q.1 (by decide)), up_fr (fun q => absurd q.1 (by decide))]
set_option maxHeartbeats 2000000 in
theorem p_Node (a0 : Int32) (a1 : Int32) (a2 : Int32) (a3 : Int32) : am_prI l RI 19 103 [.inl a0, .inl a1, .inl a2, .inl a3] := by
  intro n H hn hR
  have hR0 := RI_s n H hR
  obtain ⟨D, T, N, K, Mt, TA, Cn, ⟨sL, sM, sW, sD, sX, sQ⟩, hV, hw, hP, rW, rD, rT, rA, rB, rC, rL, rP⟩ := hR
  have K10 := rD.1
  have k1 := rD.2.1
  have k2 := rD.2.2.1
  by_cases hok : ¬ ndOk K a0 a1 a2 a3
  · exact pr_of (c_node_1 a0 a1 a2 a3 sX sM k1 hok) (by decide) (m_node_1 a0 a1 a2 a3 k2 K10 hok) (by decide) hR0
  have hok := Classical.not_not.mp hok
  rcases rB with ⟨b1, b2⟩ | ⟨b1, b2, hTA, hM8, n0, p, B, lk, hBS, e1, e2, e3, e4, e5⟩
  · exact pr_of (c_node_2 a0 a1 a2 a3 sX sM k1 hok b1) (by decide) (m_node_2 a0 a1 a2 a3 k2 K10 hok b2) (by decide) hR0
  have b15 : ¬ am_gI H 8 0 15 = 0 := by rw [b2]; decide
  obtain ⟨hq, hq6⟩ := pO_tpv hok
  have hnp := hBS.1
  by_cases hroom : n0 + p + tpv a0 a1 ≤ 30
  case neg =>
    have hr : ¬ (nI n0 + nI p + nI (tpv a0 a1) ≤ 30) := by
      rw [nI_add, nI_add]
      exact nI_ge (a := 30) (by omega) (by omega)
    exact pr_of (c_node_3 a0 a1 a2 a3 sX sM k1 hok b1 (by rw [e1, e2, hq]; exact hr)) (by decide) (m_node_3 a0 a1 a2 a3 _ hq sQ k2 K10 hok b15 rT.2.2.1 hM8 (by omega) e3 (by rw [e3, e4]; exact hr)) (by decide) hR0
  have hr : nI n0 + nI p + nI (tpv a0 a1) ≤ 30 := by
    rw [nI_add, nI_add]
    exact nI_le (b := 30) hroom (by decide)
  have hn0 : n0 < 30 := by omega
  obtain ⟨A1, A2, A3, A4⟩ := rA
  have hsT := ((A4 Mt hM8).1 hTA).1
  have hlk : ∀ i, i < n0 → lk i < 100 := fun i hi => by
    have := sm_ge n0 i hi (lk := lk)
    have := (hBS.2.2.1 (by omega)).1
    omega
  have hop := op_lt n0 (lk := lk)
  have hBNo := hBS.2.2.2
  have hprl := pr_lt (B := B) (lk := lk) (K := K) hBNo (show n0 ≤ 30 by omega)
  have hacL : ∀ i ∈ ac (pr B n0) 30 (op lk n0), i < n0 := by
    intro i hi
    cases ho : op lk n0 with
    | none => rw [ho, ac_nil] at hi; cases hi
    | some b =>
      rw [ho] at hi
      have := ac_lt (fun n q h => (hprl n q h).1) 30 b i hi
      have := (hop b ho).1
      omega
  have hacN : (ac (pr B n0) 30 (op lk n0)).Nodup := by
    cases ho : op lk n0 with
    | none => rw [ac_nil]; exact List.nodup_nil
    | some b => exact ac_nd (fun n q h => (hprl n q h).1) 30 b
  have hBN := BN_grow K10 hok hBS hn0
  have hadd := c_addN (l := l) a0 a1 a2 a3 (nI (tpv a0 a1)) hsT e1 hn0 (fun i hi => ⟨(e5 i hi).1.2.2.2.2.2, hlk i hi⟩) hq
  have hGrows := fun m (hm : m < n0 + 1) => grow_rows (H := H) (B := B) (k := a0) (a := a1) (b := a2) (c := a3) (q := tpv a0 a1) (L := ac (pr B n0) 30 (op lk n0)) (fun x h => (hop x h).2.1) (fun i hi => (e5 i hi).1) (fun x h => (hop x h).1) hm
  have hm1 : am_gI (sp_grow H Mt n0 a0 a1 a2 a3 (op lk n0) (nI (tpv a0 a1))) 5 Mt 1 = nI (p - 1 + tpv a0 a1) := by
    rw [grow_5.2, e2, miss_nI hnp.2]
  have hrow2 : ∀ m, m < n0 → am_gI H 922 0 (30 * Mt + m) = oI (pr B n0 m) := by
    intro m hm
    rw [(e5 m hm).2.2.2.2.2.1]
    by_cases hm0 : m = 0
    · subst hm0
      rw [(hBNo 0 hm).2.2.2.2.2.2.1 rfl]
      unfold pr
      rw [if_neg (fun q => by omega)]
      rfl
    · obtain ⟨b, r1, r2, r3⟩ := pr_of1 (B := B) hBNo (show n0 ≤ 30 by omega) hm (by omega)
      rw [r3, r2]
      rfl
  -- what the reference does to a heap whose rows are its own still
  have key : ∀ (G : am_H) (Mt' : Nat) (T' : Nat → Nat → Nat → Int32) (N' : Nat → Nat), (∀ x y z, x ≠ 7 → y ≠ Mt ∨ (x ≠ 5 ∧ ¬ (602 ≤ x ∧ x ≤ 608)) → am_gI G x y z = am_gI H x y z) → (∀ x y z, ¬ (x = 7 ∧ z = 5) → am_gR G x y z = am_gR H x y z) → (∀ x y z, am_gL G x y z = am_gL H x y z) → am_lv G = am_lv H → am_gI G 7 0 4 = am_gI H 7 0 4 →
      am_AX l 103 3 [.inr (.inr (some (8, 0))), .inl a0, .inl a1, .inl a2, .inl a3] G (some (.inl (nI (p - 1 + tpv a0 a1)))) (mp_grow G Mt n0 a0 a1 a2 a3 (pr B n0) (op lk n0) (nI (tpv a0 a1))) ∧
      (∀ x y z, ¬ (x = 917 ∧ y = 0 ∧ z = Mt) → ¬ (x = 8 ∧ y = 0 ∧ (z = 14 ∨ z = 15 ∨ z = 16)) → ¬ (918 ≤ x ∧ x ≤ 924 ∧ y = 0 ∧ 30 * Mt ≤ z ∧ z < 30 * Mt + 30) → am_gI (mp_grow G Mt n0 a0 a1 a2 a3 (pr B n0) (op lk n0) (nI (tpv a0 a1))) x y z = am_gI G x y z) ∧
      (Mt ≤ Mt' → (∀ t, t < Mt → T' t = T t ∧ N' t = N t) → R_T (mp_grow G Mt n0 a0 a1 a2 a3 (pr B n0) (op lk n0) (nI (tpv a0 a1))) (mp_grow G Mt n0 a0 a1 a2 a3 (pr B n0) (op lk n0) (nI (tpv a0 a1))) T' N' K Mt' → R_A (mp_grow G Mt n0 a0 a1 a2 a3 (pr B n0) (op lk n0) (nI (tpv a0 a1))) Mt' TA → R_B (mp_grow G Mt n0 a0 a1 a2 a3 (pr B n0) (op lk n0) (nI (tpv a0 a1))) (mp_grow G Mt n0 a0 a1 a2 a3 (pr B n0) (op lk n0) (nI (tpv a0 a1))) K Mt' TA → RI (n + 1) (mp_grow G Mt n0 a0 a1 a2 a3 (pr B n0) (op lk n0) (nI (tpv a0 a1)))) ∧
      (∀ t, t < Mt → (T' t = T t ∧ N' t = N t) → TT (mp_grow G Mt n0 a0 a1 a2 a3 (pr B n0) (op lk n0) (nI (tpv a0 a1))) (mp_grow G Mt n0 a0 a1 a2 a3 (pr B n0) (op lk n0) (nI (tpv a0 a1))) T' N' K t) ∧
      (∀ t, t < 8 → (t < TA → sh_T (mp_grow G Mt n0 a0 a1 a2 a3 (pr B n0) (op lk n0) (nI (tpv a0 a1))) t ∧ am_gR (mp_grow G Mt n0 a0 a1 a2 a3 (pr B n0) (op lk n0) (nI (tpv a0 a1))) 801 0 t = some (5, t)) ∧ (TA ≤ t → am_gR (mp_grow G Mt n0 a0 a1 a2 a3 (pr B n0) (op lk n0) (nI (tpv a0 a1))) 801 0 t = none)) ∧
      am_gI (mp_grow G Mt n0 a0 a1 a2 a3 (pr B n0) (op lk n0) (nI (tpv a0 a1))) 917 0 Mt = nI (n0 + 1) := by
    intro G Mt' T' N' gI gR gL gv g7
    have gM : ∀ x z, 900 ≤ x ∨ x = 8 → am_gI G x 0 z = am_gI H x 0 z := fun x z h => gI x 0 z (by omega) (Or.inr ⟨by omega, by omega⟩)
    have gRx : ∀ x y z, x ≠ 7 → am_gR G x y z = am_gR H x y z := fun x y z h => gR x y z (fun q => h q.1)
    have hml := m_node (l := l) (H := G) (t := Mt) (n0 := n0) (K := K) (lk := lk) (par := pr B n0) a0 a1 a2 a3 (nI (tpv a0 a1)) (by simpa (decide := true) only [sh_Q, gRx, ne_eq, not_false_eq_true, Nat.reduceEqDiff] using sQ) ((gM 8 4 (Or.inr rfl)).trans k2) K10 hok (by rw [gM 8 15 (Or.inr rfl)]; exact b15) ((gM 8 14 (Or.inr rfl)).trans rT.2.2.1) hM8 ((gM 917 Mt (by decide)).trans e3) hn0 hq (by rw [gM 917 Mt (by decide), gM 8 16 (Or.inr rfl), e3, e4]; exact hr) (fun m q h => (hprl m q h).1) (fun m q h => (hprl m q h).2.2.1) (fun i hi => ⟨(gM 924 _ (by decide)).trans (e5 i hi).2.2.2.2.2.2.2, hlk i hi⟩) (fun m hm => (gM 922 _ (by decide)).trans (hrow2 m hm))
    rw [gM 8 16 (Or.inr rfl), e4, miss_nI hnp.2] at hml
    have fr := fun x y z (h1 : ¬ (x = 917 ∧ y = 0 ∧ z = Mt)) (h2 : ¬ (x = 8 ∧ y = 0 ∧ (z = 14 ∨ z = 15 ∨ z = 16))) (h3 : ¬ (918 ≤ x ∧ x ≤ 924 ∧ y = 0 ∧ 30 * Mt ≤ z ∧ z < 30 * Mt + 30)) => mgrow_fr (H := G) (k := a0) (a := a1) (b := a2) (c := a3) (s := nI (tpv a0 a1)) (par := pr B n0) (o := op lk n0) (t := Mt) (n0 := n0) (x := x) (y := y) (z := z) (fun i h => by have := (hop i h).1; omega) hn0 (fun i hi => by have := hacL i hi; omega) h1 h2 h3
    have fRR : ∀ x y z, am_gR (mp_grow G Mt n0 a0 a1 a2 a3 (pr B n0) (op lk n0) (nI (tpv a0 a1))) x y z = am_gR G x y z := fun x y z => gR_mgrow
    have fRx : ∀ x y z, x ≠ 7 → am_gR (mp_grow G Mt n0 a0 a1 a2 a3 (pr B n0) (op lk n0) (nI (tpv a0 a1))) x y z = am_gR H x y z := fun x y z h => (fRR x y z).trans (gRx x y z h)
    refine ⟨hml, fr, fun hMM hTN rT' rA' rB' => ?_, fun t ht hTN => ?_, fun t ht => ⟨fun h => ⟨?_, ?_⟩, fun h => ?_⟩, ?_⟩
    · refine node_RI ⟨sL, sM, sW, sD, sX, sQ⟩ hV hw hP rW rD rT rC rL rP (fun x y z hs => ?_) (fun z h1 h2 h3 => ?_) (fun x y z h => (fRR x y z).trans (gR x y z h)) (fun x y z => gL_mgrow.trans (gL x y z)) (lv_mgrow.trans gv) ?_ hMM hTN rT' rA' rB'
      · rw [fr x y z (by omega) (by omega) (by omega), gI x y z (by omega) (Or.inr ⟨by omega, by omega⟩)]
      · rw [fr 8 0 z (by omega) (by omega) (by omega), gM 8 z (Or.inr rfl)]
      · rw [fr 7 0 4 (by omega) (by omega) (by omega)]; exact g7
    · refine TT_fr (H := H) ht hTN (fun x z hx => ?_) fRx (fun z hz => ?_) (fun x z h1 h2 h3 => ?_) (rT.2.2.2 t ht)
      · rw [fr x t z (by omega) (by omega) (by omega), gI x t z (by omega) (Or.inl (by omega))]
      · rw [fr 917 0 z (by omega) (by omega) (by omega), gM 917 z (by decide)]
      · rw [fr x 0 z (by omega) (by omega) (by omega), gM x z (by omega)]
    · simpa (decide := true) only [sh_T, fRx, ne_eq, not_false_eq_true, Nat.reduceEqDiff] using ((A4 t ht).1 h).1
    · rw [fRx 801 0 t (by decide)]; exact ((A4 t ht).1 h).2
    · rw [fRx 801 0 t (by decide)]; exact (A4 t ht).2 h
    · unfold mp_grow mp_end
      split <;> simp (decide := true) only [am_gI_sI, true_and, false_and, ↓reduceIte]
  have hG0 : ∀ x y z, x ≠ 7 → y ≠ Mt ∨ (x ≠ 5 ∧ ¬ (602 ≤ x ∧ x ≤ 608)) → am_gI (sp_grow H Mt n0 a0 a1 a2 a3 (op lk n0) (nI (tpv a0 a1))) x y z = am_gI H x y z := fun x y z _ h => grow_fr (by rcases h with h | h; exact Or.inl h; exact Or.inr ⟨h.1, by omega, by omega⟩)
  have hMrows : ∀ (G : am_H), (∀ x z, 900 ≤ x → am_gI G x 0 z = am_gI H x 0 z) → ∀ m, m < n0 + 1 → _ := fun G gM m hm => mgrow_rows (H := G) (t := Mt) (B := B) (lk := lk) (n0 := n0) (k := a0) (a := a1) (b := a2) (c := a3) (q := tpv a0 a1) (par := pr B n0) (o := op lk n0) (fun x h => ⟨(hop x h).2.1, (hop x h).1⟩) hacN hacL (fun i hi => by
    rw [gM 918 _ (by decide), gM 919 _ (by decide), gM 920 _ (by decide), gM 921 _ (by decide), gM 922 _ (by decide), gM 923 _ (by decide), gM 924 _ (by decide)]
    exact (e5 i hi).2) hm
  by_cases hm0 : p - 1 + tpv a0 a1 = 0
  · -- the tree is whole
    rw [hm0] at hBN
    have hwT := BN_T hBN (by omega) (by omega)
    have hm10 : am_gI (sp_grow H Mt n0 a0 a1 a2 a3 (op lk n0) (nI (tpv a0 a1))) 5 Mt 1 = 0 := by rw [hm1, hm0]; rfl
    have hsT1 : sh_T (sp_grow H Mt n0 a0 a1 a2 a3 (op lk n0) (nI (tpv a0 a1))) Mt := by simpa only [sh_T, gR_grow] using hsT
    have hpar : ∀ m, 0 < m → m < n0 + 1 → ∃ q, q < m ∧ am_gI (sp_grow H Mt n0 a0 a1 a2 a3 (op lk n0) (nI (tpv a0 a1))) 606 Mt m = nI q := fun m h1 h2 => by
      rw [(hGrows m h2).1 606 (by decide) (by decide)]
      exact hwT.2.2.1 m h1 h2
    have hroot : am_gI (sp_grow H Mt n0 a0 a1 a2 a3 (op lk n0) (nI (tpv a0 a1))) 606 Mt 0 = -4 := by
      rw [(hGrows 0 (by omega)).1 606 (by decide) (by decide)]
      exact hwT.2.1
    have hms := c_ms (l := l) hsT1 grow_5.1 (show n0 + 1 ≤ 30 by omega) (by omega) hroot hpar
    have hcl := c_node_5 (l := l) (Mt := Mt) a0 a1 a2 a3 _ _ sX sM k1 hok b1 (by rw [e1, e2, hq]; exact hr) hadd (by rw [gR_grow]; exact b1) hm10 hms (by rw [gI_ms (by omega), grow_fr (Or.inr ⟨by decide, by decide, by decide⟩)]; exact rT.2.1)
    have hsz : ∀ m, m < n0 + 1 → am_gI (sp_ms (sp_grow H Mt n0 a0 a1 a2 a3 (op lk n0) (nI (tpv a0 a1))) Mt (n0 + 1) (n0 + 1 - 1)) 607 Mt m = gT B n0 (ac (pr B n0) 30 (op lk n0)) a0 a1 a2 a3 (oI (op lk n0)) 607 m := by
      intro m hm
      rw [ms_heap (T := gT B n0 (ac (pr B n0) 30 (op lk n0)) a0 a1 a2 a3 (oI (op lk n0))) (show n0 + 1 ≤ 30 by omega) (fun i hi => (hGrows i hi).1 606 (by decide) (by decide)) (fun i h1 h2 => hwT.2.2.1 i h1 h2) (n0 + 1 - 1) (Nat.le_refl _) m hm, ms_tn (show n0 + 1 ≤ 30 by omega) hBN.2 (sm_0 (n0 + 1) (hBN.1 (by omega)).1) (n0 - m) m (by omega) (n0 + 1 - 1) (by omega) (by omega)]
      exact ((hBN.2 m hm).2.1.2.1).symm
    have gI : ∀ x y z, x ≠ 7 → y ≠ Mt ∨ (x ≠ 5 ∧ ¬ (602 ≤ x ∧ x ≤ 608)) → am_gI (am_sI (am_sR (sp_ms (sp_grow H Mt n0 a0 a1 a2 a3 (op lk n0) (nI (tpv a0 a1))) Mt (n0 + 1) (n0 + 1 - 1)) 7 0 5 none) 7 0 3 (nI (Mt + 1))) x y z = am_gI H x y z := fun x y z h1 h2 => by
      rw [am_gI_sI, if_neg (fun q => h1 q.1), am_gI_sR, gI_ms (by omega), hG0 x y z h1 h2]
    have gC : ∀ x m, 602 ≤ x → x ≤ 607 → m < n0 + 1 → am_gI (am_sI (am_sR (sp_ms (sp_grow H Mt n0 a0 a1 a2 a3 (op lk n0) (nI (tpv a0 a1))) Mt (n0 + 1) (n0 + 1 - 1)) 7 0 5 none) 7 0 3 (nI (Mt + 1))) x Mt m = gT B n0 (ac (pr B n0) 30 (op lk n0)) a0 a1 a2 a3 (oI (op lk n0)) x m := fun x m h1 h2 hm => by
      rw [am_gI_sI, if_neg (fun q => by omega), am_gI_sR]
      by_cases hx : x = 607
      · subst hx; exact hsz m hm
      · rw [gI_ms (by omega)]; exact (hGrows m hm).1 x h1 (by omega)
    obtain ⟨q1, fr, q2, q3, q4, q5⟩ := key (am_sI (am_sR (sp_ms (sp_grow H Mt n0 a0 a1 a2 a3 (op lk n0) (nI (tpv a0 a1))) Mt (n0 + 1) (n0 + 1 - 1)) 7 0 5 none) 7 0 3 (nI (Mt + 1))) (Mt + 1) (fun t k m => if t = Mt then am_gI (am_sI (am_sR (sp_ms (sp_grow H Mt n0 a0 a1 a2 a3 (op lk n0) (nI (tpv a0 a1))) Mt (n0 + 1) (n0 + 1 - 1)) 7 0 5 none) 7 0 3 (nI (Mt + 1))) k Mt m else T t k m) (fun t => if t = Mt then n0 + 1 else N t) gI
      (fun x y z h => by rw [am_gR_sI, am_gR_sR, if_neg (fun q => h ⟨q.1, q.2.2⟩), gR_ms, gR_grow]) (fun x y z => by rw [am_gL_sI, am_gL_sR, gL_ms, gL_grow]) (by rw [am_lv_sI, am_lv_sR, lv_ms, lv_grow]) (by rw [am_gI_sI, if_neg (by decide), am_gI_sR, gI_ms (by omega), grow_fr (Or.inr ⟨by decide, by decide, by decide⟩)])
    have hTN : ∀ t, t < Mt → (fun k m => if t = Mt then am_gI (am_sI (am_sR (sp_ms (sp_grow H Mt n0 a0 a1 a2 a3 (op lk n0) (nI (tpv a0 a1))) Mt (n0 + 1) (n0 + 1 - 1)) 7 0 5 none) 7 0 3 (nI (Mt + 1))) k Mt m else T t k m) = T t ∧ (if t = Mt then n0 + 1 else N t) = N t := fun t ht => by
      have e : t ≠ Mt := by omega
      simp only [e, ↓reduceIte, and_self]
    have hz16 : am_gI (am_sI (am_sR (sp_ms (sp_grow H Mt n0 a0 a1 a2 a3 (op lk n0) (nI (tpv a0 a1))) Mt (n0 + 1) (n0 + 1 - 1)) 7 0 5 none) 7 0 3 (nI (Mt + 1))) 8 0 16 + (nI (tpv a0 a1) - 1) = 0 := by
      rw [gI 8 0 16 (by decide) (Or.inr ⟨by decide, by decide⟩), e4, miss_nI hnp.2, hm0]; rfl
    rw [hm0] at q1
    refine pr_of hcl (by decide) q1 (by decide) (q2 (by omega) hTN ⟨by omega, ?_, ?_, fun t ht => ?_⟩ ⟨by omega, by omega, A3, q4⟩ (Or.inl ⟨?_, ?_⟩))
    · rw [fr 7 0 3 (by omega) (by omega) (by omega), am_gI_sI, if_pos ⟨rfl, rfl, rfl⟩]
    · unfold mp_grow mp_end
      rw [mgrow_8, if_pos hz16]
      simp (decide := true) only [am_gI_sI, ↓reduceIte]
    · by_cases htM : t = Mt
      · subst htM
        have hrows := hMrows _ (fun x z h => gI x 0 z (by omega) (Or.inr ⟨by omega, by omega⟩))
        unfold TT
        simp only [↓reduceIte]
        refine ⟨(q4 t hM8).1 hTA |>.1, ((q4 t hM8).1 hTA).2, wf_T_cg (T := gT B n0 (ac (pr B n0) 30 (op lk n0)) a0 a1 a2 a3 (oI (op lk n0))) (fun k m h1 h2 h3 => gC k m h1 h2 h3) hwT, ?_, q5, fun m hm => ⟨?_, fun hmN => ?_⟩⟩
        · rw [fr 5 t 0 (by omega) (by omega) (by omega), am_gI_sI, if_neg (fun q => absurd q.1 (by decide)), am_gI_sR, gI_ms (by omega)]
          exact grow_5.1
        · rw [fr 602 t m (by omega) (by omega) (by omega), fr 603 t m (by omega) (by omega) (by omega), fr 604 t m (by omega) (by omega) (by omega), fr 605 t m (by omega) (by omega) (by omega), fr 606 t m (by omega) (by omega) (by omega), fr 607 t m (by omega) (by omega) (by omega)]
          exact ⟨rfl, rfl, rfl, rfl, rfl, rfl⟩
        · rw [gC 602 m (by decide) (by decide) hmN, gC 603 m (by decide) (by decide) hmN, gC 604 m (by decide) (by decide) hmN, gC 605 m (by decide) (by decide) hmN, gC 606 m (by decide) (by decide) hmN, gC 607 m (by decide) (by decide) hmN]
          obtain ⟨w1, w2, w3, w4, w5, w6, -⟩ := hrows m hmN
          exact ⟨w1, w2, w3, w4, w5, w6⟩
      · exact q3 t (by omega) (hTN t (by omega))
    · rw [gR_mgrow, am_gR_sI, am_gR_sR, if_pos ⟨rfl, rfl, rfl⟩]
    · unfold mp_grow mp_end
      rw [mgrow_8, if_pos hz16]
      simp (decide := true) only [am_gI_sI, ↓reduceIte]
  · have hm0' : ¬ nI (p - 1 + tpv a0 a1) = 0 := fun q => by
      rw [show (0 : Int32) = nI 0 from rfl, nI_eq (by omega) (by decide)] at q
      exact hm0 q
    have hcl := c_node_4 (l := l) a0 a1 a2 a3 _ _ sX sM k1 hok b1 (by rw [e1, e2, hq]; exact hr) hadd (by rw [gR_grow]; exact b1) hm1 hm0'
    obtain ⟨q1, fr, q2, q3, q4, q5⟩ := key (sp_grow H Mt n0 a0 a1 a2 a3 (op lk n0) (nI (tpv a0 a1))) Mt T N hG0 (fun x y z _ => gR_grow) (fun x y z => gL_grow) lv_grow (grow_fr (Or.inr ⟨by decide, by decide, by decide⟩))
    have gM : ∀ x z, 900 ≤ x ∨ x = 8 → am_gI (sp_grow H Mt n0 a0 a1 a2 a3 (op lk n0) (nI (tpv a0 a1))) x 0 z = am_gI H x 0 z := fun x z h => hG0 x 0 z (by omega) (Or.inr ⟨by omega, by omega⟩)
    have hz16 : ¬ am_gI (sp_grow H Mt n0 a0 a1 a2 a3 (op lk n0) (nI (tpv a0 a1))) 8 0 16 + (nI (tpv a0 a1) - 1) = 0 := by
      rw [gM 8 16 (Or.inr rfl), e4, miss_nI hnp.2]; exact hm0'
    refine pr_of hcl (by decide) q1 (by decide) (q2 (Nat.le_refl _) (fun t _ => ⟨rfl, rfl⟩) ⟨rT.1, ?_, ?_, fun t ht => q3 t ht ⟨rfl, rfl⟩⟩ ⟨A1, A2, A3, q4⟩ (Or.inr ⟨?_, ?_, hTA, hM8, n0 + 1, p - 1 + tpv a0 a1, gT B n0 (ac (pr B n0) 30 (op lk n0)) a0 a1 a2 a3 (oI (op lk n0)), glk lk n0 (op lk n0) (tpv a0 a1), BN_BS hBN (by omega) (by omega) (by omega), ?_, ?_, q5, ?_, fun m hm => ⟨?_, ?_⟩⟩))
    · rw [fr 7 0 3 (by omega) (by omega) (by omega), grow_fr (Or.inr ⟨by decide, by decide, by decide⟩)]; exact rT.2.1
    · unfold mp_grow mp_end
      rw [mgrow_8, if_neg hz16]
      simp (decide := true) only [am_gI_sI, ↓reduceIte]
      rw [mgrow_8, gM 8 14 (Or.inr rfl)]; exact rT.2.2.1
    · rw [gR_mgrow, gR_grow]; exact b1
    · unfold mp_grow mp_end
      rw [mgrow_8, if_neg hz16]
      simp (decide := true) only [am_gI_sI, ↓reduceIte]
      rw [mgrow_8, gM 8 15 (Or.inr rfl)]; exact b2
    · rw [fr 5 Mt 0 (by omega) (by omega) (by omega)]; exact grow_5.1
    · rw [fr 5 Mt 1 (by omega) (by omega) (by omega)]; exact hm1
    · unfold mp_grow mp_end
      rw [mgrow_8, if_neg hz16]
      simp (decide := true) only [am_gI_sI, ↓reduceIte]
      rw [gM 8 16 (Or.inr rfl), e4, miss_nI hnp.2]
    · rw [fr 602 Mt m (by omega) (by omega) (by omega), fr 603 Mt m (by omega) (by omega) (by omega), fr 604 Mt m (by omega) (by omega) (by omega), fr 605 Mt m (by omega) (by omega) (by omega), fr 606 Mt m (by omega) (by omega) (by omega), fr 608 Mt m (by omega) (by omega) (by omega)]
      obtain ⟨w1, w2⟩ := hGrows m hm
      exact ⟨w1 602 (by decide) (by decide), w1 603 (by decide) (by decide), w1 604 (by decide) (by decide), w1 605 (by decide) (by decide), w1 606 (by decide) (by decide), w2⟩
    · exact hMrows _ (fun x z h => gM x z (Or.inl h)) m hm
end ND7
