/-! ===== a tick on both sides: nodes without parts ===== -/
section SI6
variable {l : Launch} {C0 M0 C M C' M' : am_H} {D : Nat → Nat → Int32} {Ts : Nat → Nat → Nat → Int32} {Ns : Nat → Nat} {K Mt j t n k w a e A S : Nat} {g g' : Prop} {x : Int32}
/-- both sides of a node's asking -/
def SIM (l : Launch) (g : am_G) (D : Nat → Nat → Int32) (Ts : Nat → Nat → Nat → Int32) (Ns : Nat → Nat) (K Mt j t n : Nat) : Prop := ∀ (C M : am_H) (A S w : Nat) (sc : am_SC) (dd : Nat) (Q : Option am_V → am_H → Prop), 6 ≤ dd → CI C j t (Ns t) K (Ts t) A S → A + tn (Ts t) n ≤ 1000 → S + tn (Ts t) n ≤ 1073741824 → GS C M D Ts Ns K Mt j t → (∀ k, n ≤ k → k < n + tn (Ts t) n → NX C M D K (Ts t) j k ∧ am_gI C 208 j k = 0) → am_gI M 8 0 51 = nI n → am_gI M 8 0 43 = nI w → w ≤ n → (∀ M', SP C M (g C n).2 M' D Ts Ns K Mt j t n w (g C n).1 → am_FQ l sc 115 dd 57 [some (.inr (.inr (some (8, 0)))), none, none] [] M' Q) → am_FQ l sc 115 dd 57 [some (.inr (.inr (some (8, 0)))), none, none] [] M Q
def FT (Ts : Nat → Nat → Nat → Int32) (Ns : Nat → Nat) (K Mt j t : Nat) : Prop := t < Mt ∧ Mt ≤ 8 ∧ (∀ t, t < Mt → Ns t ≤ 30) ∧ j < 6 ∧ wf_T (Ts t) (Ns t) K ∧ K ≤ 10
theorem wP_CI (h : CI C j t (Ns t) K (Ts t) A S) : ∃ S, wf_P C S := ⟨S, h.2.2.2.2.2.2.2.1⟩
theorem log_CI (hS : GS C M D Ts Ns K Mt j t) (h : CI C j t (Ns t) K (Ts t) A S) (hA : A ≤ 1000) : ∃ a, a < 2 ^ 31 ∧ am_gI M 8 0 39 = nI a := by
  obtain ⟨a, a1, a2⟩ := h.2.2.2.2.2.2.1
  exact ⟨a, by omega, by rw [← hS.2.2.2.1.1]; exact a2⟩
theorem BH_of (h : GS C M D Ts Ns K Mt j t) (hF : FT Ts Ns K Mt j t) (hn : n < Ns t) : BH M j t n := by
  obtain ⟨f1, f2, f3, f4, f5, f6⟩ := hF
  have := f3 t f1
  exact ⟨h.2.2.2.2.2.1, f4, h.2.2.2.2.2.2.1, h.2.2.2.2.2.2.2.1, by omega, by omega⟩
theorem bg_43 : am_gI (mq_bg M j n) 8 0 43 = am_gI M 8 0 43 := gI_bg (by decide) (by decide)
set_option maxHeartbeats 1000000 in
theorem sim_doing {pl g0 : am_G} (hF : FT Ts Ns K Mt j t) (hn : n < Ns t) (hk : Ts t 602 n = 0) : SIM l (fun H n => ((sp_ans pl g0 (Ts t) H j t n).1, sp_note (sp_ans pl g0 (Ts t) H j t n).2 j n (sp_ans pl g0 (Ts t) H j t n).1)) D Ts Ns K Mt j t n := by
  intro C M A S w sc dd Q hdd hC hA hSb hS hX h51 h43 hwn hQ
  dsimp only at hQ
  have hF' := hF
  obtain ⟨f1, f2, f3, f4, f5, f6⟩ := hF
  have hN30 := f3 t f1
  have hw := f5.2.2.2.2 n hn
  have ht1 := hw.1.1
  have hn30 : n < 30 := by omega
  obtain ⟨d, hd, ed⟩ := vp_in_of (hw.2.2.2.2.2.2.1 hk) (by omega)
  have c2 : am_gI C 602 t n = Ts t 602 n := hC.2.1 602 n (by decide) (by decide)
  have c3 : am_gI C 603 t n = Ts t 603 n := hC.2.1 603 n (by decide) (by decide)
  have hx : sp_ans pl g0 (Ts t) C j t n = sp_askD C j n (nI d) := by
    unfold sp_ans sp_doingOf
    rw [if_pos hk, c2, if_pos hk, c3, ed]
  have e0 := bg_rel (w := w) hS hn30 ht1 hX
  have hS1 := e0.1
  have hB := BH_of hS hF' hn
  obtain ⟨mQ, m49, m26, m17, mT⟩ := hS.2.2.2.2.2
  obtain ⟨t2, t3, -⟩ := mT n hn
  have hNM := e0.2.2.2.2.2.2
  have hgx : GX C (mq_bg M j n) j n := by
    rcases hNM.1.2.1 with q | ⟨q1, q2, q3, -⟩
    · exact Or.inl q
    · exact Or.inr ⟨q1, q2, q3⟩
  have s := do_rel hS1 hd hgx hn30
  obtain ⟨w0, w1, w2⟩ := hS1.1.2.1
  have w3 : am_gI (mq_bg M j n) 8 0 0 = nI w0 := hS1.1.1.symm.trans w2
  have h911 : am_gI (mq_bg M j n) 911 0 d = -4 ∨ vp_in (am_gI (mq_bg M j n) 911 0 d) 12 := by
    have q := (hS1.2.1.2.2.2.1 d (by omega)).2.2.2.2.2.2.1
    rw [← q]
    exact (hS1.2.1.2.2.2.2.1 d hd).2.2
  have hdo := m_does (l := l) (H := mq_bg M j n) hS1.2.2.2.2.2.1 (MD_RD hS1.2.1) f4 hS1.2.2.2.2.2.2.1 hn30 (show d < 10 by omega) w3 h911
  have hCI1 := CI_askD (n := n) (d := nI d) hC
  rw [hx] at hQ
  rw [w3] at s
  generalize sp_askD C j n (nI d) = x at s hQ hCI1
  generalize mq_do (mq_bg M j n) D j n d (nI w0) = y at s hdo
  obtain ⟨x1, x2⟩ := x
  obtain ⟨y1, y2⟩ := y
  dsimp only at s hQ hdo hCI1
  obtain ⟨s1, s2, s3, s4, s5, s6, s7, s8, s9, s10⟩ := s
  subst s1
  have hop := OP_DF s4 s5 s6 s7
  have n9 : ¬ Ts t 602 n = 9 := by rw [hk]; decide
  have n67 : ¬ (Ts t 602 n = 6 ∨ Ts t 602 n = 7) := by rw [hk]; decide
  have hNM1 : NM x2 y2 D K (Ts t) j n True := by
    obtain ⟨⟨a1, a2, a3, a4, a5⟩, b2, b3, b4⟩ := hNM
    refine ⟨⟨?_, ?_, fun z => absurd z n9, fun z _ => absurd z n67, fun z1 z2 z3 => ?_⟩, ?_, ?_, ?_⟩
    · rw [s6.1 201 n (by decide) (by decide) (Or.inl (by decide)), s6.2.1 928 _ (by decide) (by decide) (Or.inl (by decide))]; exact a1
    · rcases s8 with q | ⟨q1, q2, q3⟩
      · exact Or.inl q
      · exact Or.inr ⟨q1, q2, q3, Or.inl hk⟩
    · rw [s6.1 204 n (by decide) (by decide) (Or.inl (by decide))]; exact a5 z1 z2 z3
    · rw [s6.1 202 n (by decide) (by decide) (Or.inl (by decide)), s6.2.1 929 _ (by decide) (by decide) (Or.inl (by decide))]; exact b2
    · rw [s6.2.2]; exact b3
    · rw [s6.1 208 n (by decide) (by decide) (Or.inl (by decide))]; exact b4
  have e1 := E0_op (wP_CI hC) e0 s3 hop.1 hop.2.1 hop.2.2.1 (fun a i q1 q2 _ => hop.2.2.2.1 a i q1 q2) hNM1 ht1
  have h43' : am_gI y2 8 0 43 = nI w := by rw [hop.2.2.2.2, bg_43]; exact h43
  obtain ⟨a, a1, a2⟩ := log_CI s3 hCI1 (by omega)
  have han := m_answers (l := l) (x := x1) s3.2.2.2.2.2.1 f4 s3.2.2.2.2.2.2.1 hn30 a2 a1
  have hb := bg_doing hB (t2.trans hk) (t3.trans ed) hdo han
  exact tk_b hn30 h51 hb hdd (hQ _ (SP_end (wP_CI hCI1) e1 h43' hn30 ht1 (fun _ => trivial) s2))
set_option maxHeartbeats 1000000 in
theorem sim_test {pl g0 : am_G} (hF : FT Ts Ns K Mt j t) (hn : n < Ns t) (hk : Ts t 602 n = 1) : SIM l (fun H n => ((sp_ans pl g0 (Ts t) H j t n).1, sp_note (sp_ans pl g0 (Ts t) H j t n).2 j n (sp_ans pl g0 (Ts t) H j t n).1)) D Ts Ns K Mt j t n := by
  intro C M A S w sc dd Q hdd hC hA hSb hS hX h51 h43 hwn hQ
  dsimp only at hQ
  have hF' := hF
  obtain ⟨f1, f2, f3, f4, f5, f6⟩ := hF
  have hN30 := f3 t f1
  have hw := f5.2.2.2.2 n hn
  have ht1 := hw.1.1
  have hn30 : n < 30 := by omega
  have c3 : am_gI C 603 t n = Ts t 603 n := hC.2.1 603 n (by decide) (by decide)
  have c4 : am_gI C 604 t n = Ts t 604 n := hC.2.1 604 n (by decide) (by decide)
  have c5 : am_gI C 605 t n = Ts t 605 n := hC.2.1 605 n (by decide) (by decide)
  have hv := hw.2.2.2.2.2.1 (Or.inl hk)
  have hx : sp_ans pl g0 (Ts t) C j t n = (if (sp_test C j t n).1 = 0 then 2 else 1, (sp_test C j t n).2) := by
    unfold sp_ans
    rw [if_neg (by rw [hk]; decide), if_pos hk]
  have e0 := bg_rel (w := w) hS hn30 ht1 hX
  have hS1 := e0.1
  have hB := BH_of hS hF' hn
  obtain ⟨mQ, m49, m26, m17, mT⟩ := hS1.2.2.2.2.2
  obtain ⟨t2, t3, t4, t5, -⟩ := mT n hn
  have t2' := (hS.2.2.2.2.2.2.2.2.2 n hn).1
  have hNM := e0.2.2.2.2.2.2
  obtain ⟨v1, v2⟩ := test_val hS1 hC.2.2.2.2.2.1 hn c3 c4 c5 hv
  obtain ⟨a0, ha0, ea0⟩ := vp_in_of hv.2.1 (by decide)
  have h72 : 0 ≤ am_gI (mq_bg M j n) 921 0 (30 * t + n) ∧ (am_gI (mq_bg M j n) 921 0 (30 * t + n)).toInt64 ≤ am_gL (mq_bg M j n) 902 0 (am_gI (mq_bg M j n) 920 0 (30 * t + n)).toNatClampNeg - 1 → am_gI (mq_bg M j n) 901 0 (am_gI (mq_bg M j n) 920 0 (30 * t + n)).toNatClampNeg = 3 → vp_in (6 * am_gI (mq_bg M j n) 920 0 (30 * t + n) + am_gI (mq_bg M j n) 921 0 (30 * t + n)) 72 := by
    rw [t4, t5, ea0, nI_clamp (show a0 < 2 ^ 31 by omega)]
    obtain ⟨u1, u2, -⟩ := hS1.1.2.2 a0 ha0
    rw [← u1, ← u2]
    intro z1 z2
    obtain ⟨l0, l6⟩ := hC.2.2.2.2.2.1 a0 ha0 z2
    have hf := (row_c l0 l6).mp z1
    generalize Ts t 605 n = p at *
    rw [not_or, Int32.not_lt, Int64.not_le] at hf
    have hp : vp_in p 6 := by
      rw [vp_in_iff]
      simp only [Int32.le_iff_toInt_le, Int64.lt_iff_toInt_lt, Int32.toInt_toInt64, Int32.reduceToInt] at hf
      omega
    obtain ⟨b, hb, rfl⟩ := vp_in_of hp (by decide)
    rw [nI_6m, nI_add]
    exact vp_in_nI (by omega) (by decide)
  have hho := m_holds (l := l) (H := mq_bg M j n) mQ f4 m49 m26 (by omega) hn30 (by rw [t4]; exact hv.2.1) (by rw [t3]; exact hv.1) h72
  rw [← v1] at hho
  have hCI1 := CI_test (n := n) hC
  rw [hx] at hQ
  have fin : ∀ (C1 M1 : am_H), (sp_test C j t n).2 = C1 → (mq_hold (mq_bg M j n) j t n).2 = M1 → GS C1 M1 D Ts Ns K Mt j t → OP C (mq_bg M j n) C1 M1 j n → FC C C1 j n → FM (mq_bg M j n) M1 j n → am_FQ l sc 115 dd 57 [some (.inr (.inr (some (8, 0)))), none, none] [] M Q := by
    intro C1 M1 hC1 hM1 g1 hop fc fm
    rw [hC1] at hCI1 hQ
    rw [hM1] at hho
    have e1 := E0_op (wP_CI hC) e0 g1 hop.1 hop.2.1 hop.2.2.1 (fun a i q1 q2 _ => hop.2.2.2.1 a i q1 q2) (NM_cn fc fm id hNM) ht1
    have h43' : am_gI M1 8 0 43 = nI w := by rw [hop.2.2.2.2, bg_43]; exact h43
    obtain ⟨a, a1, a2⟩ := log_CI g1 hCI1 (by omega)
    have han := m_answers (l := l) (x := if (sp_test C j t n).1 = 0 then 2 else 1) g1.2.2.2.2.2.1 f4 g1.2.2.2.2.2.2.1 hn30 a2 a1
    have hb := bg_test hB (t2'.trans hk) hho han
    refine tk_b hn30 h51 hb hdd (hQ _ (SP_end (wP_CI hCI1) e1 h43' hn30 ht1 (fun _ => trivial) ?_))
    split
    · exact Or.inr (Or.inl rfl)
    · exact Or.inl rfl
  rcases v2 with ⟨v2, v3⟩ | ⟨s, v2, v3⟩
  · exact fin C (mq_bg M j n) v2 v3 hS1 OP_r FC_r FM_r
  · obtain ⟨r1, r2, r3, r4⟩ := find_rel (k := n) (s := s) (n := n) hS1
    exact fin _ _ v2 v3 r1 r2 r3 r4
set_option maxHeartbeats 1000000 in
theorem sim_plan {g0 : am_G} (hF : FT Ts Ns K Mt j t) (hn : n < Ns t) (hk : Ts t 602 n = 9) : SIM l (fun H n => ((sp_ans (sp_pl l D (Ts t) K j t (Ns t)) g0 (Ts t) H j t n).1, sp_note (sp_ans (sp_pl l D (Ts t) K j t (Ns t)) g0 (Ts t) H j t n).2 j n (sp_ans (sp_pl l D (Ts t) K j t (Ns t)) g0 (Ts t) H j t n).1)) D Ts Ns K Mt j t n := by
  intro C M A S w sc dd Q hdd hC hA hSb hS hX h51 h43 hwn hQ
  dsimp only at hQ
  have hF' := hF
  obtain ⟨f1, f2, f3, f4, f5, f6⟩ := hF
  have hN30 := f3 t f1
  have hw := f5.2.2.2.2 n hn
  have ht1 := hw.1.1
  have hn30 : n < 30 := by omega
  have c2 : am_gI C 602 t n = Ts t 602 n := hC.2.1 602 n (by decide) (by decide)
  have c3 : am_gI C 603 t n = Ts t 603 n := hC.2.1 603 n (by decide) (by decide)
  have c4 : am_gI C 604 t n = Ts t 604 n := hC.2.1 604 n (by decide) (by decide)
  have hx : sp_ans (sp_pl l D (Ts t) K j t (Ns t)) g0 (Ts t) C j t n = sp_pl l D (Ts t) K j t (Ns t) C n := by
    unfold sp_ans
    rw [hk]
    rfl
  have e0 := bg_rel (w := w) hS hn30 ht1 hX
  have hS1 := e0.1
  have hB := BH_of hS hF' hn
  have t2' := (hS.2.2.2.2.2.2.2.2.2 n hn).1
  have hNM := e0.2.2.2.2.2.2
  obtain ⟨-, p2, p3⟩ := pl_spec (l := l) D f6 hC hn30 (show S + 1 ≤ 1073741824 by omega)
  have hA2 := p3 ⟨DD_RD hS.2.1, okD_RD hS.2.1⟩
  have hCI1 := p2 A S (by omega) hC
  obtain ⟨y, y1, y2, y3, y4, y5, y6, y7, y8⟩ := plan_rel (l := l) ⟨S, by omega, hC.2.2.2.2.2.2.2.1⟩ hS1 f1 f4 hn f3 f2 hk c2 c3 c4 hNM.1 hA2
  rw [hx] at hQ
  generalize sp_pl l D (Ts t) K j t (Ns t) C n = x at hQ hCI1 y2 y3 y4 y5 y6 y7 y8
  have n67 : ¬ (Ts t 602 n = 6 ∨ Ts t 602 n = 7) := by rw [hk]; decide
  have hNM1 : NM x.2 y.2 D K (Ts t) j n True := by
    obtain ⟨⟨a1, a2, a3, a4, a5⟩, b2, b3, b4⟩ := hNM
    obtain ⟨k1, k2, k3, k4, k5, k6⟩ := y6
    refine ⟨⟨?_, ?_, fun _ => y8, fun z _ => absurd z n67, fun z1 z2 z3 => absurd hk z3⟩, ?_, ?_, ?_⟩
    · rw [k1, k4]; exact a1
    · rcases y7 with q | ⟨q1, q2, q3, q4⟩
      · exact Or.inl q
      · exact Or.inr ⟨q1, q2, q3, Or.inr ⟨hk, q4⟩⟩
    · rw [k2, k5]; exact b2
    · rw [k6]; exact b3
    · rw [k3]; exact b4
  have e1 := E0_op (wP_CI hC) e0 y4 y5.1 y5.2.1 y5.2.2.1 (fun a i q1 q2 _ => y5.2.2.2.1 a i q1 q2) hNM1 ht1
  have h43' : am_gI y.2 8 0 43 = nI w := by rw [y5.2.2.2.2, bg_43]; exact h43
  obtain ⟨a, a1, a2⟩ := log_CI y4 hCI1 (by omega)
  have han := m_answers (l := l) (x := y.1) y4.2.2.2.2.2.1 f4 y4.2.2.2.2.2.2.1 hn30 a2 a1
  have hb := bg_plan hB (t2'.trans hk) y1 han
  rw [← y2] at hb
  exact tk_b hn30 h51 hb hdd (hQ _ (SP_end (wP_CI hCI1) e1 h43' hn30 ht1 (fun _ => trivial) y3))
end SI6
