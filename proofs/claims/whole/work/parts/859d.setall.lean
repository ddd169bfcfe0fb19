/-! ===== behind a tick, both sides: all nodes ===== -/
section ST2
variable {l : Launch} {C M C' M' M1 : am_H} {D : Nat → Nat → Int32} {Ts : Nat → Nat → Nat → Int32} {Ns : Nat → Nat} {T : Nat → Nat → Int32} {K Mt j t n k w d A S N : Nat} {ef : Nat → Int32} {O : Prop}
theorem sa_404s {c : Nat} : am_gI (sp_sa C j t (n + 1)) 404 0 c = if c = n then am_bi (sp_we (sp_sa C j t n) j t n) else am_gI (sp_sa C j t n) 404 0 c := by
  show am_gI (sp_sa1 (sp_sa C j t n) j t n) 404 0 c = _
  unfold sp_sa1
  rw [gI_settle_ne (by decide) (by decide), am_gI_sI]
  by_cases h : c = n
  · rw [if_pos h, if_pos ⟨rfl, rfl, h⟩]
  · rw [if_neg h, if_neg (fun q => h q.2.2)]
theorem sa_404 : ∀ m, k < m → am_gI (sp_sa C j t m) 404 0 k = am_bi (sp_we (sp_sa C j t k) j t k) := by
  intro m
  induction m with
  | zero => intro h; omega
  | succ m ih =>
    intro h
    rw [sa_404s]
    by_cases hk : k = m
    · subst hk
      rw [if_pos rfl]
    · rw [if_neg hk]
      exact ih (by omega)
theorem sa_I {a b c : Nat} (h : a ≠ 203 ∧ a ≠ 209 ∧ a ≠ 701) (h2 : a ≠ 204 ∧ a ≠ 205) (h3 : a ≠ 404) : am_gI (sp_sa C j t n) a b c = am_gI C a b c := gI_sa_ne h h2 h3
theorem bi_01 {p : Prop} [Decidable p] : am_bi p = 0 ∨ am_bi p = 1 := by
  unfold am_bi
  split
  · exact Or.inr rfl
  · exact Or.inl rfl
theorem EF_of (hF : FT Ts Ns K Mt j t) (hS : GS C M D Ts Ns K Mt j t) (hC : CI C j t (Ns t) K (Ts t) A S) (hX : ∀ k, k < Ns t → NX C M D K (Ts t) j k) : EF M j t (Ns t) (fun k => am_gI (sp_sa C j t (Ns t)) 404 0 k) := by
  obtain ⟨f1, f2, f3, f4, f5, f6⟩ := hF
  have hN30 := f3 t f1
  intro k hk
  have hmT := hS.2.2.2.2.2.2.2.2.2
  have t6 := (hmT k hk).2.2.2.2.1
  have c6 : am_gI (sp_sa C j t k) 606 t k = Ts t 606 k := (sa_I (by decide) (by decide) (by decide)).trans (hC.2.1 606 k (by decide) (by decide))
  have e1 : am_gI (sp_sa C j t (Ns t)) 404 0 k = am_bi (sp_we (sp_sa C j t k) j t k) := sa_404 _ hk
  dsimp only
  rcases (f5.2.2.2.2 k hk).2.2.2.1 with h4 | ⟨p, hp, h4⟩
  · left
    refine ⟨t6.trans h4, ?_⟩
    rw [e1]
    unfold am_bi
    rw [if_neg (fun z => z.1 (c6.trans h4))]
  · right
    refine ⟨p, hp, t6.trans h4, ?_⟩
    have ep : am_gI (sp_sa C j t k) 404 0 p = am_gI (sp_sa C j t (Ns t)) 404 0 p := by rw [sa_404 k hp, sa_404 (Ns t) (show p < Ns t by omega)]
    have hpN : p < Ns t := by omega
    obtain ⟨hR, -, x3, -⟩ := hX p hpN
    have hBB : sp_isE (sp_sa C j t k) j t p ↔ BB M j t p := by
      have s1 : am_gI (sp_sa C j t k) 602 t p = am_gI M 918 0 (30 * t + p) := by
        rw [sa_I (by decide) (by decide) (by decide), hC.2.1 602 p (by decide) (by decide), (hmT p hpN).1]
      have s2 : am_gI (sp_sa C j t k) 208 j p = am_gI M 942 0 p := by rw [sa_I (by decide) (by decide) (by decide), x3]
      have s3 : am_gI (sp_sa C j t k) 201 j p = am_gI M 928 0 (30 * j + p) := by rw [sa_I (by decide) (by decide) (by decide), hR.1]
      show (am_gI (sp_sa C j t k) 602 t p = 4 ∧ ¬ am_gI (sp_sa C j t k) 208 j p = 0 ∧ ¬ am_gI (sp_sa C j t k) 201 j p = 3) ↔ _
      rw [s1, s2, s3]
      exact Iff.rfl
    have hwe : sp_we (sp_sa C j t k) j t k ↔ (¬ am_gI (sp_sa C j t (Ns t)) 404 0 p = 0 ∨ BB M j t p) := by
      show (¬ am_gI (sp_sa C j t k) 606 t k = -4 ∧ (¬ am_gI (sp_sa C j t k) 404 0 (am_gI (sp_sa C j t k) 606 t k).toNatClampNeg = 0 ∨ sp_isE (sp_sa C j t k) j t (am_gI (sp_sa C j t k) 606 t k).toNatClampNeg)) ↔ _
      rw [c6, h4, nI_clamp (show p < 2 ^ 31 by omega), ep]
      exact ⟨fun z => z.2.imp id hBB.mp, fun z => ⟨nI_n4 (show p < 2 ^ 31 by omega), z.imp id hBB.mpr⟩⟩
    have h01 : am_gI (sp_sa C j t (Ns t)) 404 0 p = 0 ∨ am_gI (sp_sa C j t (Ns t)) 404 0 p = 1 := by
      rw [sa_404 (Ns t) hpN]
      exact bi_01
    rw [e1]
    by_cases hz : sp_we (sp_sa C j t k) j t k
    · left
      refine ⟨if_pos hz, ?_⟩
      rcases hwe.mp hz with y | y
      · exact Or.inl (h01.resolve_left y)
      · exact Or.inr y
    · right
      refine ⟨if_neg hz, ?_, fun y => hz (hwe.mpr (Or.inr y))⟩
      exact Classical.not_not.mp (fun y => hz (hwe.mpr (Or.inl y)))
set_option maxHeartbeats 1000000 in
theorem set_1 (hF : FT Ts Ns K Mt j t) (hS : GS C M D Ts Ns K Mt j t) (hC : CI C j t (Ns t) K (Ts t) A S) (hX : ∀ k, k < Ns t → NX C M D K (Ts t) j k) (hef : ∀ k, k < Ns t → ef k = am_bi (sp_we (sp_sa C j t k) j t k)) : ∀ n, n ≤ Ns t → (GS (sp_sa C j t n) (mq_b1 M j t ef n) D Ts Ns K Mt j t ∧ CF C (sp_sa C j t n) j ∧ MF M (mq_b1 M j t ef n) j ∧ (∀ k, n ≤ k → FC C (sp_sa C j t n) j k ∧ FM M (mq_b1 M j t ef n) j k) ∧ ∀ k, k < n → DN (sp_sa C j t n) (mq_b1 M j t ef n) D K (Ts t) j k (am_gI M 942 0 k = 0 ∨ ¬ ef k = 0)) ∧ (∀ m, m < n → cB1 (mq_b1 M j t ef m) j t ef m → (am_gI (mq_b1 M j t ef m) 918 0 (30 * t + m) = 9 → ∃ p, p < 12 ∧ am_gI (mq_b1 M j t ef m) 932 0 (30 * j + m) = nI p) ∧ ∃ d, d < 10 ∧ mp_doing (mq_b1 M j t ef m) j t m = nI d ∧ (am_gI (mq_b1 M j t ef m) 911 0 d = -4 ∨ vp_in (am_gI (mq_b1 M j t ef m) 911 0 d) 12)) := by
  have hF' := hF
  obtain ⟨f1, f2, f3, f4, f5, f6⟩ := hF
  have hN30 := f3 t f1
  intro n
  induction n with
  | zero => intro _; exact ⟨⟨hS, CF_r, MF_r, fun _ _ => ⟨FC_r, FM_r⟩, fun k hk => by omega⟩, fun m hm => by omega⟩
  | succ n ih =>
    intro hn
    obtain ⟨⟨i1, i2, i3, i4, i5⟩, i6⟩ := ih (by omega)
    have hnN : n < Ns t := by omega
    have hCn : CI (sp_sa C j t n) j t (Ns t) K (Ts t) A S := CI_sa hC
    have hC4 : CI (am_sI (sp_sa C j t n) 404 0 n (am_bi (sp_we (sp_sa C j t n) j t n))) j t (Ns t) K (Ts t) A S := CI_sI (by decide) hCn
    have h4 : GS (am_sI (sp_sa C j t n) 404 0 n (am_bi (sp_we (sp_sa C j t n) j t n))) (mq_b1 M j t ef n) D Ts Ns K Mt j t := GS_C (Or.inl rfl) i1
    have fc4 : ∀ k, FC (sp_sa C j t n) (am_sI (sp_sa C j t n) 404 0 n (am_bi (sp_we (sp_sa C j t n) j t n))) j k := fun k => ⟨fun a q1 q2 q3 => by rw [am_gI_sI, if_neg (fun q => by omega)], fun i hi => by rw [am_gI_sI, if_neg (fun q => by omega)]⟩
    obtain ⟨g1, g2⟩ := i4 n (Nat.le_refl n)
    have hXn := NX_cn (FC_t g1 (fc4 n)) g2 (hX n hnN)
    have e208 : am_gI (sp_sa C j t n) 208 j n = am_gI M 942 0 n := by rw [sa_I (by decide) (by decide) (by decide)]; exact (hX n hnN).2.2.1
    have e942 : am_gI (mq_b1 M j t ef n) 942 0 n = am_gI M 942 0 n := gI_b1 (by decide) (by decide) (by decide) (by decide)
    have hwe : sp_we (sp_sa C j t n) j t n ↔ ¬ ef n = 0 := by
      rw [hef n hnN, am_bi_0, Classical.not_not]
    have ho : (am_gI (sp_sa C j t n) 208 j n = 0 ∨ sp_we (sp_sa C j t n) j t n) ↔ (am_gI M 942 0 n = 0 ∨ ¬ ef n = 0) := by
      rw [e208]
      exact or_congr Iff.rfl hwe
    have t2 : am_gI (mq_b1 M j t ef n) 918 0 (30 * t + n) = Ts t 602 n := (i1.2.2.2.2.2.2.2.2.2 n hnN).1
    have hst := settle_step (ef := ef) (M1 := mq_b1 M j t ef (n + 1)) (o := am_gI (sp_sa C j t n) 208 j n = 0 ∨ sp_we (sp_sa C j t n) j t n) (O := am_gI M 942 0 n = 0 ∨ ¬ ef n = 0) hF' h4 (wP_CI hC4) hnN (hC4.2.1 602 n (by decide) (by decide)) (hC4.2.1 603 n (by decide) (by decide)) hXn ho (fun z => by
      rw [am_gI_sI, if_neg (fun q => by omega), e208] at z
      exact Or.inl z) (by
      unfold cB1
      rw [e942, t2, ← hXn.1.1]
      refine and_congr Iff.rfl ⟨fun z => ?_, fun z => ?_⟩
      · rcases z with z | z | ⟨z1, -, z3⟩
        · exact Or.inl (Or.inl z)
        · exact Or.inl (Or.inr z)
        · exact Or.inr ⟨z1, z3⟩
      · rcases z with (z | z) | ⟨z1, z2⟩
        · exact Or.inl z
        · exact Or.inr (Or.inl z)
        · by_cases hz : am_gI M 942 0 n = 0
          · exact Or.inl hz
          · exact Or.inr (Or.inr ⟨z1, hz, z2⟩)) b1_p b1_n
    obtain ⟨⟨s1, s2, s3, s4, s5⟩, s6⟩ := hst
    have hsa : sp_sa C j t (n + 1) = sp_settle (am_sI (sp_sa C j t n) 404 0 n (am_bi (sp_we (sp_sa C j t n) j t n))) j t n (am_gI (sp_sa C j t n) 208 j n = 0 ∨ sp_we (sp_sa C j t n) j t n) := rfl
    rw [← hsa] at s1 s2 s4 s5
    refine ⟨⟨s1, CF_t (wP_CI hCn) i2 (CF_t (wP_CI hC4) (CF_x CF_r (by omega)) s2), MF_t i3 s3, fun k hk => ?_, fun k hk => ?_⟩, fun m hm => ?_⟩
    · obtain ⟨y1, y2⟩ := i4 k (by omega)
      obtain ⟨y3, y4⟩ := s4 k (by omega)
      exact ⟨FC_t y1 (FC_t (fc4 k) y3), FM_t y2 y4⟩
    · by_cases hkn : k = n
      · subst hkn
        exact s5
      · obtain ⟨y3, y4⟩ := s4 k hkn
        exact DN_cn (FC_t (fc4 k) y3) y4 (i5 k (by omega))
    · by_cases hmn : m = n
      · subst hmn
        exact s6
      · exact i6 m (by omega)
/-- the second way, of one node -/
theorem b2s_rel (hn : n < 30) (hwf : Ts t 602 n = 6 ∨ Ts t 602 n = 7 → 0 < (Ts t 603 n).toNatClampNeg) (h : GS C M D Ts Ns K Mt j t) (t2 : am_gI M 918 0 (30 * t + n) = Ts t 602 n) (hd : DN C M D K (Ts t) j n (am_gI M 942 0 n = 0 ∨ ¬ ef n = 0)) : GS C (mq_b2s M j t n (ef n)) D Ts Ns K Mt j t ∧ MF M (mq_b2s M j t n (ef n)) j ∧ (∀ k, k ≠ n → FM M (mq_b2s M j t n (ef n)) j k) ∧ NR C (mq_b2s M j t n (ef n)) D K (Ts t) j n True ∧ am_gI C 202 j n = am_gI (mq_b2s M j t n (ef n)) 929 0 (30 * j + n) := by
  have e : ∀ a c, ¬ (a = 932 ∧ c = 30 * j + n) → ¬ (a = 933 ∧ c = 30 * j + n) → am_gI (mq_b2s M j t n (ef n)) a 0 c = am_gI M a 0 c := fun a c q1 q2 => gI_b2s q1 q2
  obtain ⟨o1, o2, o3⟩ := b2s_o (M := M) (j := j) (t := t) (n := n) (e := ef n)
  have hM : MF M (mq_b2s M j t n (ef n)) j := ⟨fun a b i q0 q1 q2 q3 q4 => gI_b2s (by omega) (by omega), fun b i q => gI_b2s (by omega) (by omega), fun i q => gI_b2s (by omega) (by omega), fun a i q0 q1 q2 q3 => gI_b2s (by omega) (by omega), fun i q => gI_b2s (by omega) (by omega), fun a b i _ => o1 a b i, o2, o3⟩
  obtain ⟨a1, a2, a3, a4, a5, a6⟩ := hd
  refine ⟨GS_of CF_r hM h (R_W_cg h.1 rfl (e 8 0 (by omega) (by omega)) (fun _ => rfl) (fun _ => rfl) (fun _ => rfl) (fun i => e 901 i (by omega) (by omega)) (fun i => o1 902 0 i) (fun i => e 903 i (by omega) (by omega))) (fun i hi => by rw [e 927 _ (by omega) (by omega)]; exact h.2.2.1 i hi) ⟨by rw [e 8 39 (by omega) (by omega)]; exact h.2.2.2.1.1, fun i hi => by rw [e 940 i (by omega) (by omega), e 941 i (by omega) (by omega)]; exact h.2.2.2.1.2 i hi⟩ (RP_cg (fun k i hk => e k i (by omega) (by omega)) h.2.2.2.2.1), hM, fun k hk => ⟨fun a q1 q2 q3 => e a _ (by omega) (by omega), fun i hi => e 934 _ (by omega) (by omega), e 942 k (by omega) (by omega)⟩, ⟨?_, ?_, fun h9 => ?_, fun h67 _ => ?_, a6⟩, ?_⟩
  · rw [e 928 _ (by omega) (by omega)]; exact a1
  · rw [e 930 _ (by omega) (by omega), e 931 _ (by omega) (by omega)]
    rcases a3 with q | ⟨q1, q2, q3, q4⟩
    · exact Or.inl q
    · exact Or.inr ⟨q1, q2, q3, q4.imp id (fun z => ⟨z.1, z.2.2⟩)⟩
  · have n67 : ¬ (am_gI M 918 0 (30 * t + n) = 7 ∨ am_gI M 918 0 (30 * t + n) = 6) := by rw [t2, h9]; decide
    by_cases hc : (am_gI M 942 0 n = 0 ∨ ¬ ef n = 0) ∨ am_gI C 201 j n = 1
    · obtain ⟨z5, z4⟩ := (a4 h9).1 hc
      have e933 : am_gI (mq_b2s M j t n (ef n)) 933 0 (30 * j + n) = 0 := by
        unfold mq_b2s
        rw [if_neg n67, if_pos ⟨t2.trans h9, by rw [← a1]; exact hc⟩, am_gI_sI, if_pos ⟨rfl, rfl, rfl⟩]
      exact ⟨by rw [z5, e933], Or.inl ⟨z5, z4⟩⟩
    · have es : mq_b2s M j t n (ef n) = M := by
        unfold mq_b2s
        rw [if_neg n67, if_neg (fun z => hc (by rw [a1]; exact z.2))]
      rw [es]
      exact (a4 h9).2 hc
  · have k67 : am_gI M 918 0 (30 * t + n) = 7 ∨ am_gI M 918 0 (30 * t + n) = 6 := by rw [t2]; exact h67.symm
    have e932 : am_gI (mq_b2s M j t n (ef n)) 932 0 (30 * j + n) = if (am_gI M 942 0 n = 0 ∨ ¬ ef n = 0) ∨ ¬ am_gI M 928 0 (30 * j + n) = 3 then 0 else am_gI M 932 0 (30 * j + n) := by
      unfold mq_b2s
      rw [if_pos k67, am_gI_sI, if_pos ⟨rfl, rfl, rfl⟩]
    rw [e932, ← a1]
    by_cases hc : (am_gI M 942 0 n = 0 ∨ ¬ ef n = 0) ∨ ¬ am_gI C 201 j n = 3
    · rw [if_pos hc, (a5 h67).1 hc]
      exact ⟨0, rfl, rfl, hwf h67⟩
    · rw [if_neg hc]
      exact (a5 h67).2 hc
  · rw [e 929 _ (by omega) (by omega)]; exact a2
theorem set_2 (hF : FT Ts Ns K Mt j t) (hS : GS C M D Ts Ns K Mt j t) (hD : ∀ k, k < Ns t → DN C M D K (Ts t) j k (am_gI M 942 0 k = 0 ∨ ¬ ef k = 0)) : ∀ n, n ≤ Ns t → GS C (mq_b2 M j t ef n) D Ts Ns K Mt j t ∧ MF M (mq_b2 M j t ef n) j ∧ (∀ k, n ≤ k → FM M (mq_b2 M j t ef n) j k) ∧ ∀ k, k < n → NR C (mq_b2 M j t ef n) D K (Ts t) j k True ∧ am_gI C 202 j k = am_gI (mq_b2 M j t ef n) 929 0 (30 * j + k) := by
  obtain ⟨f1, f2, f3, f4, f5, f6⟩ := hF
  have hN30 := f3 t f1
  intro n
  induction n with
  | zero => intro _; exact ⟨hS, MF_r, fun _ _ => FM_r, fun k hk => by omega⟩
  | succ n ih =>
    intro hn
    obtain ⟨i1, i2, i3, i4⟩ := ih (by omega)
    have hnN : n < Ns t := by omega
    have hw := f5.2.2.2.2 n hnN
    have e942 : am_gI (mq_b2 M j t ef n) 942 0 n = am_gI M 942 0 n := gI_b2 (by decide) (by decide)
    have hd : DN C (mq_b2 M j t ef n) D K (Ts t) j n (am_gI (mq_b2 M j t ef n) 942 0 n = 0 ∨ ¬ ef n = 0) := by
      rw [e942]
      exact DN_cn FC_r (i3 n (Nat.le_refl n)) (hD n hnN)
    obtain ⟨s1, s2, s3, s4, s5⟩ := b2s_rel (n := n) (by omega) (fun h67 => by
      rcases h67 with z | z
      · obtain ⟨a, q1, q2, q3⟩ := hw.2.2.2.2.2.2.2.2.2.1 z
        rw [q3, nI_clamp (show a < 2 ^ 31 by omega)]
        omega
      · obtain ⟨a, q1, q2, q3⟩ := hw.2.2.2.2.2.2.2.1 (Or.inr (Or.inr (Or.inr z)))
        rw [q3, nI_clamp (show a < 2 ^ 31 by omega)]
        omega) i1 (i1.2.2.2.2.2.2.2.2.2 n hnN).1 hd
    refine ⟨s1, MF_t i2 s2, fun k hk => FM_t (i3 k (by omega)) (s3 k (by omega)), fun k hk => ?_⟩
    by_cases hkn : k = n
    · subst hkn
      exact ⟨s4, s5⟩
    · obtain ⟨y1, y2⟩ := i4 k (by omega)
      have fm := s3 k hkn
      refine ⟨NR_cn FC_r fm id y1, ?_⟩
      rw [y2]
      exact (fm.1 929 (by decide) (by decide) (by decide)).symm
end ST2
