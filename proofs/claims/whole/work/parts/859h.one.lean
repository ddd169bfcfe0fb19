/-! ===== a whole tick on both sides ===== -/
section LV2
variable {l : Launch} {C M C' M' C'' M'' : am_H} {D : Nat → Nat → Int32} {T : Nat → Nat → Nat → Int32} {N : Nat → Nat} {K Mt TA Cn j t n A S S2 : Nat}
set_option maxRecDepth 20000 in
theorem live_q (h : RX C M D T N K Mt TA Cn S) (hj : j < Cn) (ht : t < Mt) (hr : am_gR C 1 j 0 = some (5, t)) (h26 : am_gI M 926 0 j = nI t) (h98 : am_gI C 209 j 8 = nI t) (h49 : am_gI M 8 0 49 = nI j) (b5 : ∀ n, n < N t → am_gI C 202 j n = am_gI M 929 0 (30 * j + n) ∧ NR C M D K (T t) j n True) (hS : S + 30 ≤ 1073741824) : am_FQ l (0, fun _ => 0) 115 6 57 [some (.inr (.inr (some (8, 0)))), none, none] [] (mq_tk M j) (fun r' H'' => r' = some (.inl (sp_live (sp_pl l D (T t) K j t (N t)) (T t) C j t (N t)).1) ∧ MF M H'' j ∧ RX (sp_live (sp_pl l D (T t) K j t (N t)) (T t) C j t (N t)).2 H'' D T N K Mt TA Cn (S + 30) ∧ CF C (sp_live (sp_pl l D (T t) K j t (N t)) (T t) C j t (N t)).2 j ∧ ((sp_live (sp_pl l D (T t) K j t (N t)) (T t) C j t (N t)).1 = 1 ∨ (sp_live (sp_pl l D (T t) K j t (N t)) (T t) C j t (N t)).1 = 2 ∨ (sp_live (sp_pl l D (T t) K j t (N t)) (T t) C j t (N t)).1 = 3)) := by
  have hF := FT_RX h hj ht
  have hF' := hF
  obtain ⟨f1, f2, f3, f4, f5, f6⟩ := hF
  have hN30 := f3 t f1
  have hN1 := f5.1.1
  have hC0 := CI_RX h hj ht hr
  have hG0 := GS_RX h hj ht h49 h26
  have hC1 : CI (sp_startTick (am_sI C 0 0 0 0) j) j t (N t) K (T t) 0 S := CI_startTick (CI_log0 hC0)
  have htn : tn (T t) 0 = N t := f5.2.2.2.1
  obtain ⟨-, hC2⟩ := c_node (l := l) (pl_ok D f6 hN30) (by decide) f5 f6 30 0 (by omega) (by omega) (sp_startTick (am_sI C 0 0 0 0) j) 0 S 0 hC1 (by omega) (Nat.le_refl 0) (by omega) (by omega)
  rw [htn, Nat.zero_add] at hC2
  have h51 : am_gI (mq_tk M j) 8 0 51 = nI 0 := by
    unfold mq_tk
    rw [am_gI_sI, if_pos ⟨rfl, rfl, rfl⟩]
    rfl
  have h43 : am_gI (mq_tk M j) 8 0 43 = nI 0 := by
    unfold mq_tk
    rw [am_gI_sI, if_neg (fun q => by omega), am_gI_fill, if_neg (fun q => by omega), am_gI_sI, if_neg (fun q => by omega), am_gI_sI, if_pos ⟨rfl, rfl, rfl⟩]
    rfl
  refine sim_all (l := l) (D := D) hF' 30 0 (by omega) (by omega) (sp_startTick (am_sI C 0 0 0 0) j) (mq_tk M j) 0 S 0 (0, fun _ => 0) 6 _ (by decide) hC1 (by omega) (by omega) (st_GS hG0) (fun k q1 q2 => st_NX (by omega) (b5 k (by omega)).2 (b5 k (by omega)).1) h51 h43 (Nat.le_refl 0) (fun M1 hS1 => ?_)
  obtain ⟨g, cf, mf, -, -, nx, hx, h50, h51', h43'⟩ := hS1
  rw [htn, Nat.zero_add] at nx
  have hX : ∀ k, k < N t → NX (sp_ask (sp_pl l D (T t) K j t (N t)) (T t) j t 30 (sp_startTick (am_sI C 0 0 0 0) j) 0).2 M1 D K (T t) j k := fun k hk => nx k (Nat.zero_le _) hk
  have hlv1 : (sp_live (sp_pl l D (T t) K j t (N t)) (T t) C j t (N t)).1 = (sp_ask (sp_pl l D (T t) K j t (N t)) (T t) j t 30 (sp_startTick (am_sI C 0 0 0 0) j) 0).1 := rfl
  have hlv2 : (sp_live (sp_pl l D (T t) K j t (N t)) (T t) C j t (N t)).2 = sp_sa (sp_ask (sp_pl l D (T t) K j t (N t)) (T t) j t 30 (sp_startTick (am_sI C 0 0 0 0) j) 0).2 j t (N t) := rfl
  rw [hlv1, hlv2]
  generalize sp_ask (sp_pl l D (T t) K j t (N t)) (T t) j t 30 (sp_startTick (am_sI C 0 0 0 0) j) 0 = y at *
  have hE := EF_of hF' g hC2 hX
  obtain ⟨⟨s1, s2, s3, s4, s5⟩, hok⟩ := set_1 (ef := fun k => am_gI (sp_sa y.2 j t (N t)) 404 0 k) hF' g hC2 hX (fun k hk => sa_404 (N t) hk) (N t) (Nat.le_refl _)
  obtain ⟨u1, u2, u3, u4⟩ := set_2 (ef := fun k => am_gI (sp_sa y.2 j t (N t)) 404 0 k) hF' s1 (fun k hk => by
    rw [gI_b1 (by decide) (by decide) (by decide) (by decide)]
    exact s5 k hk) (N t) (Nat.le_refl _)
  obtain ⟨mQ, m49, m26, m17, mT⟩ := g.2.2.2.2.2
  have hbeh := m_behind (l := l) (M := M1) (j := j) (t := t) (N := N t) ⟨mQ, f4, m49, m26, by omega, hN30, m17⟩ hE hok
  have e50 : am_gI (mq_b2 (mq_b1 M1 j t (fun k => am_gI (sp_sa y.2 j t (N t)) 404 0 k) (N t)) j t (fun k => am_gI (sp_sa y.2 j t (N t)) 404 0 k) (N t)) 8 0 50 = y.1 := by
    rw [gI_b2 (by decide) (by decide), gI_b1 (by decide) (by decide) (by decide) (by decide)]
    exact h50
  have hcf : CF C (sp_sa y.2 j t (N t)) j := CF_t (wP_CI hC1) st_CF (CF_t (wP_CI hC2) cf s2)
  have hmf : MF M (mq_b2 (mq_b1 M1 j t (fun k => am_gI (sp_sa y.2 j t (N t)) 404 0 k) (N t)) j t (fun k => am_gI (sp_sa y.2 j t (N t)) 404 0 k) (N t)) j := MF_t st_MF (MF_t mf (MF_t s3 u2))
  refine tk_e h51' h43' hbeh (by decide) ⟨by rw [e50], hmf, ?_, hcf, hx⟩
  exact RX_mono (S := S + N t) (by omega) (RX_step h hj ht hr h26 h98 hcf hmf (CI_sa hC2) (by omega) u1 u4)
/-- a tick of creature j, if it has a tree; else nothing -/
theorem live_one (hE : ∃ M, RX C M D T N K Mt TA Cn S) (hj : j < Cn) (hS : S + 30 ≤ 1073741824) : ∃ (x : Int32) (C' : am_H), am_AX l 40 94 [.inr (.inr (some (3, 0))), .inr (.inr (some (1, j)))] C (some (.inl x)) C' ∧ KC C C' ∧
    ((x = -2 ∧ C' = C ∧ ∀ M, RX C M D T N K Mt TA Cn S → am_gI M 926 0 j = -4) ∨ (¬ x = -2 ∧ ∀ M, RX C M D T N K Mt TA Cn S → (∃ t, t < 8 ∧ am_gI M 926 0 j = nI t) ∧ ∃ M', am_AX l 115 6 [.inr (.inr (some (8, 0))), .inl (nI j)] M (some (.inl x)) M' ∧ KM M M' ∧ RX C' M' D T N K Mt TA Cn (S + 30))) := by
  obtain ⟨M0, h0⟩ := hE
  have h0' := h0
  obtain ⟨-, -, -, -, -, -, rT, -, -, rC, -, -, -⟩ := h0
  obtain ⟨a1, a2, a3, a4, a5⟩ := rC.2.2.2.1 j hj
  have c6 := rC.1
  have hM8 := rT.1
  rcases a5 with ⟨b1, b2, b3⟩ | ⟨t, ht, b1, b2, b3, b4⟩
  · refine ⟨-2, C, am_AX_dle (c_live_n b1) (by decide), KC_r, Or.inl ⟨rfl, rfl, fun M hM => ?_⟩⟩
    obtain ⟨-, -, -, -, d5⟩ := hM.2.2.2.2.2.2.2.2.2.1.2.2.2.1 j hj
    rcases d5 with ⟨-, q, -⟩ | ⟨t, -, q, -⟩
    · exact q
    · rw [b1] at q; cases q
  · have hN30 : N t ≤ 30 := (rT.2.2.2 t ht).2.2.1.1.2
    have hK := h0'.2.2.2.2.2.1.1
    have hw := (rT.2.2.2 t ht).2.2.1
    have hC0 := CI_RX h0' hj ht b1
    obtain ⟨hX, -⟩ := c_live (l := l) (pl_ok D hK hN30) (by decide) hw hK hC0 (by omega)
    have key : ∀ M, RX C M D T N K Mt TA Cn S → ∃ M', am_AX l 115 6 [.inr (.inr (some (8, 0))), .inl (nI j)] M (some (.inl (sp_live (sp_pl l D (T t) K j t (N t)) (T t) C j t (N t)).1)) M' ∧ KM M M' ∧ RX (sp_live (sp_pl l D (T t) K j t (N t)) (T t) C j t (N t)).2 M' D T N K Mt TA Cn (S + 30) ∧ CF C (sp_live (sp_pl l D (T t) K j t (N t)) (T t) C j t (N t)).2 j ∧ ((sp_live (sp_pl l D (T t) K j t (N t)) (T t) C j t (N t)).1 = 1 ∨ (sp_live (sp_pl l D (T t) K j t (N t)) (T t) C j t (N t)).1 = 2 ∨ (sp_live (sp_pl l D (T t) K j t (N t)) (T t) C j t (N t)).1 = 3) ∧ am_gI M 926 0 j = nI t := by
      intro M hM
      have hM1 : RX C (am_sI M 8 0 49 (nI j)) D T N K Mt TA Cn S := RX_M hM (fun a i q => by rw [am_gI_sI, if_neg (fun z => by omega)]) (fun i q => by rw [am_gI_sI, if_neg (fun z => q z.2.2)]) (fun _ => rfl) (fun _ => rfl)
      obtain ⟨-, -, -, -, d5⟩ := hM.2.2.2.2.2.2.2.2.2.1.2.2.2.1 j hj
      obtain ⟨-, -, -, -, e5⟩ := hM1.2.2.2.2.2.2.2.2.2.1.2.2.2.1 j hj
      rcases e5 with ⟨q, -⟩ | ⟨t', ht', q, r1, r2, r3⟩
      · rw [b1] at q; cases q
      · rw [b1] at q
        have ett : t' = t := by
          have z := congrArg Prod.snd (Option.some.inj q)
          exact z.symm
        subst ett
        have h49 : am_gI (am_sI M 8 0 49 (nI j)) 8 0 49 = nI j := by rw [am_gI_sI, if_pos ⟨rfl, rfl, rfl⟩]
        obtain ⟨r, M', ⟨rfl, y1, y2, y3, y4⟩, ex⟩ := live_q (l := l) hM1 hj ht b1 r1 r2 h49 r3 hS
        refine ⟨M', m_tick hM.1.2.2.2.2.2 (by omega) ⟨_, _, ⟨rfl, rfl⟩, ex⟩, ?_, y2, y3, y4, ?_⟩
        · have km := KM_MF y1
          exact ⟨fun a b i q1 q2 => (km.1 a b i q1 q2).trans (by rw [am_gI_sI, if_neg (fun z => q1 z.1)]), fun b i => km.2.1 b i, fun a b i q1 => km.2.2.1 a b i q1, km.2.2.2⟩
        · rw [← r1, am_gI_sI, if_neg (fun z => absurd z.1 (by decide))]
    obtain ⟨M0', k1, k2, k3, k4, k5, k6⟩ := key M0 h0'
    refine ⟨_, _, hX, KC_CF k4, Or.inr ⟨?_, fun M hM => ?_⟩⟩
    · rcases k5 with q | q | q <;> rw [q] <;> decide
    · obtain ⟨M', q1, q2, q3, q4, q5, q6⟩ := key M hM
      exact ⟨⟨t, by omega, q6⟩, M', q1, q2, q3⟩
end LV2
