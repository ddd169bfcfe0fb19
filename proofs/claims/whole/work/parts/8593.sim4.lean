/-! ===== a tick on both sides: a PLAN, the whole of it ===== -/
section SI4
variable {l : Launch} {C M C3 : am_H} {D : Nat → Nat → Int32} {Ts : Nat → Nat → Nat → Int32} {Ns : Nat → Nat} {K Mt j t n k w d S : Nat} {g : Prop} {m b : Int32}
theorem gI_mk {a x c : Nat} (h : a ≠ 936) (h2 : a ≠ 937) (h3 : ¬ (a = 8 ∧ c = 38)) (h4 : a ≠ 934) (h5 : ¬ (a = 933 ∧ c = 30 * j + n)) (h6 : ¬ (a = 932 ∧ c = 30 * j + n)) (h7 : ¬ (a = 935 ∧ c = 30 * j + n)) (h8 : ¬ (a = 927 ∧ c = 8 * j + 7)) : am_gI (mq_mk M D K m b j t n w) a x c = am_gI M a x c := by
  have e0 : am_gI (mq_mk0 M D K m b j t n w) a x c = am_gI M a x c := by
    unfold mq_mk0
    rw [am_gI_sI, if_neg (fun q => h7 ⟨q.1, q.2.2⟩), am_gI_sI, if_neg (fun q => h6 ⟨q.1, q.2.2⟩), am_gI_sI, if_neg (fun q => h5 ⟨q.1, q.2.2⟩), gI_plans h h2 h3 h4]
  unfold mq_mk
  split
  · exact e0
  · rw [am_gI_sI, if_neg (fun q => h8 ⟨q.1, q.2.2⟩)]
    exact e0
theorem gI_mkx {a c : Nat} (h : a ≠ 927) : am_gI (mq_mk M D K m b j t n w) a 0 c = am_gI (mq_mk0 M D K m b j t n w) a 0 c := by
  unfold mq_mk
  split
  · rfl
  · rw [am_gI_sI, if_neg (fun q => h q.1)]
theorem mk_933 : am_gI (mq_mk M D K m b j t n w) 933 0 (30 * j + n) = nI (mm D K m b w 12).2 := by
  rw [gI_mkx (by decide)]
  unfold mq_mk0
  simp (decide := true) only [am_gI_sI, false_and, true_and, and_self, ↓reduceIte]
theorem mk_932 : am_gI (mq_mk M D K m b j t n w) 932 0 (30 * j + n) = 0 := by
  rw [gI_mkx (by decide)]
  unfold mq_mk0
  simp (decide := true) only [am_gI_sI, false_and, true_and, and_self, ↓reduceIte]
theorem mk_935 : am_gI (mq_mk M D K m b j t n w) 935 0 (30 * j + n) = nI w := by
  rw [gI_mkx (by decide)]
  unfold mq_mk0
  simp (decide := true) only [am_gI_sI, false_and, true_and, and_self, ↓reduceIte]
theorem mk_934 {c : Nat} : am_gI (mq_mk M D K m b j t n w) 934 0 c = if 12 * (30 * j + n) ≤ c ∧ c < 12 * (30 * j + n) + (mm D K m b w 12).2 then nI (gP D K m b (mm D K m b w 12).2 w (c - 12 * (30 * j + n))) else am_gI M 934 0 c := by
  rw [gI_mkx (by decide)]
  unfold mq_mk0 mp_plans
  simp (decide := true) only [am_gI_sI, gI_row0, false_and, true_and, ↓reduceIte]
  rw [gI_paid (by decide) (by decide) (by omega)]
theorem mk_927 {i : Nat} : am_gI (mq_mk M D K m b j t n w) 927 0 (8 * j + i) = if i = 7 then am_gI M 927 0 (8 * j + 7) + (if (mm D K m b w 12).2 = 0 then 0 else 1) else am_gI M 927 0 (8 * j + i) := by
  have e0 : ∀ c, am_gI (mq_mk0 M D K m b j t n w) 927 0 c = am_gI M 927 0 c := fun c => by
    unfold mq_mk0
    rw [am_gI_sI, if_neg (fun q => by omega), am_gI_sI, if_neg (fun q => by omega), am_gI_sI, if_neg (fun q => by omega), gI_plans (by decide) (by decide) (by omega) (by decide)]
  unfold mq_mk
  by_cases hR : (mm D K m b w 12).2 = 0
  · rw [if_pos hR, if_pos hR, e0, Int32.add_zero]
    split
    · rename_i h
      rw [h]
    · rfl
  · rw [if_neg hR, if_neg hR, am_gI_sI, e0, e0]
    simp only [true_and, Nat.add_left_cancel_iff]
theorem mk_R {a x c : Nat} : am_gR (mq_mk M D K m b j t n w) a x c = am_gR M a x c := by
  unfold mq_mk mq_mk0
  split
  · simp only [am_gR_sI, gR_plans]
  · simp only [am_gR_sI, gR_plans]
theorem mk_L {a x c : Nat} : am_gL (mq_mk M D K m b j t n w) a x c = am_gL M a x c := by
  unfold mq_mk mq_mk0
  split
  · simp only [am_gL_sI, gL_plans]
  · simp only [am_gL_sI, gL_plans]
theorem mk_v : am_lv (mq_mk M D K m b j t n w) = am_lv M := by
  unfold mq_mk mq_mk0
  split
  · simp only [am_lv_sI, lv_plans]
  · simp only [am_lv_sI, lv_plans]
theorem mk_MF (hn : n < 30) : MF M (mq_mk M D K m b j t n w) j := by
  have hR := mm_12 (D := D) (K := K) (m := m) (b := b) (f := w)
  refine ⟨fun a x i q0 q1 q2 q3 q4 => gI_mk (by omega) (by omega) (by omega) (by omega) (by omega) (by omega) (by omega) (by omega), fun x i q => gI_mk (by omega) (by omega) (by omega) (by omega) (by omega) (by omega) (by omega) (by omega), fun i q => gI_mk (by omega) (by omega) (by omega) (by omega) (by omega) (by omega) (by omega) (by omega), fun a i q0 q1 q2 q3 => gI_mk (by omega) (by omega) (by omega) (by omega) (by omega) (by omega) (by omega) (by omega), fun i q => ?_, fun _ _ _ _ => mk_L, fun _ _ _ => mk_R, mk_v⟩
  rw [mk_934, if_neg (by omega)]
theorem mk_FM (hn : n < 30) (hk : k ≠ n) : FM M (mq_mk M D K m b j t n w) j k := by
  have hR := mm_12 (D := D) (K := K) (m := m) (b := b) (f := w)
  refine ⟨fun a q1 q2 q3 => gI_mk (by omega) (by omega) (by omega) (by omega) (by omega) (by omega) (by omega) (by omega), fun i hi => ?_, gI_mk (by decide) (by decide) (by omega) (by decide) (by omega) (by omega) (by omega) (by omega)⟩
  rw [mk_934, if_neg (by omega)]
theorem mk_P (hP : R_P M D Ts Ns K Mt) (ht : t < Mt) (hn : n < Ns t) (hN : Ns t ≤ 30) (hM8 : Mt ≤ 8) (hm : m = Ts t 603 n) (hb : b = Ts t 604 n) : R_P (mq_mk M D K m b j t n w) D Ts Ns K Mt := by
  have e : ∀ k c, k = 936 ∨ k = 937 → am_gI (mq_mk M D K m b j t n w) k 0 c = am_gI (mp_paid M D K m b (30 * t + n)) k 0 c := by
    intro k c hk
    rw [gI_mkx (by omega)]
    unfold mq_mk0 mp_plans
    rw [am_gI_sI, if_neg (fun q => by omega), am_gI_sI, if_neg (fun q => by omega), am_gI_sI, if_neg (fun q => by omega), gI_row (by omega)]
  intro k hk
  rw [e 937 k (Or.inr rfl)]
  unfold mp_paid
  by_cases h0 : am_gI M 937 0 (30 * t + n) = 0
  · rw [if_pos h0, am_gI_sI]
    by_cases hkk : k = 30 * t + n
    · subst hkk
      right
      rw [if_pos ⟨rfl, rfl, rfl⟩]
      refine ⟨rfl, t, n, ht, hn, rfl, fun i f hi hf => ?_⟩
      rw [e 936 _ (Or.inl rfl)]
      unfold mp_paid
      rw [if_pos h0, am_gI_sI, if_neg (fun q => by omega), gI_lay_i hf (by omega), hm, hb]
    · rw [if_neg (fun q => hkk q.2.2), gI_lay (by decide), am_gI_sI, if_neg (fun q => by omega)]
      rcases hP k hk with q | ⟨q1, t2, n2, q2, q3, q4, q5⟩
      · exact Or.inl q
      · refine Or.inr ⟨q1, t2, n2, q2, q3, q4, fun i f hi hf => ?_⟩
        rw [e 936 _ (Or.inl rfl)]
        unfold mp_paid
        rw [if_pos h0, am_gI_sI, if_neg (fun q => by omega), gI_lay_o (by omega), am_gI_sI, if_neg (fun q => by omega)]
        exact q5 i f hi hf
  · rw [if_neg h0, am_gI_sI, if_neg (fun q => by omega)]
    rcases hP k hk with q | ⟨q1, t2, n2, q2, q3, q4, q5⟩
    · exact Or.inl q
    · refine Or.inr ⟨q1, t2, n2, q2, q3, q4, fun i f hi hf => ?_⟩
      rw [e 936 _ (Or.inl rfl)]
      unfold mp_paid
      rw [if_neg h0, am_gI_sI, if_neg (fun q => by omega)]
      exact q5 i f hi hf
/-- a new plan on both sides -/
theorem mk_rel (h : GS C M D Ts Ns K Mt j t) (ht : t < Mt) (hn : n < Ns t) (hN : Ns t ≤ 30) (hM8 : Mt ≤ 8) (hw : w < 256) (c3 : am_gI C 603 t n = Ts t 603 n) (c4 : am_gI C 604 t n = Ts t 604 n) (hPN : PN D K C C3 j t n) (hw2 : am_gI C 6 0 0 = nI w) (hV : ∃ S, wf_P C S) :
    GS C3 (mq_mk M D K (Ts t 603 n) (Ts t 604 n) j t n w) D Ts Ns K Mt j t ∧ OP C M C3 (mq_mk M D K (Ts t 603 n) (Ts t 604 n) j t n w) j n ∧ KP C M C3 (mq_mk M D K (Ts t 603 n) (Ts t 604 n) j t n w) j n ∧ am_gI C3 203 j n = am_gI C 203 j n ∧ am_gI C3 205 j n = nI (mm D K (Ts t 603 n) (Ts t 604 n) w 12).2 ∧ am_gI C3 204 j n = 0 ∧ am_gI C3 207 j n = nI w ∧ (∀ i, i < (mm D K (Ts t 603 n) (Ts t 604 n) w 12).2 → am_gI C3 206 j (n * 12 + i) = nI (gP D K (Ts t 603 n) (Ts t 604 n) (mm D K (Ts t 603 n) (Ts t 604 n) w 12).2 w i)) ∧ (∀ i, am_gI C3 602 t i = am_gI C 602 t i ∧ am_gI C3 603 t i = am_gI C 603 t i ∧ am_gI C3 604 t i = am_gI C 604 t i) := by
  obtain ⟨w', v1, v2, e1, e2, e3, e4, e5⟩ := hPN
  have : w' = w := by rw [v2, nI_eq (by omega) (by omega)] at hw2; exact hw2
  subst this
  rw [c3, c4] at e1
  have hR := mm_12 (D := D) (K := K) (m := Ts t 603 n) (b := Ts t 604 n) (f := w')
  have hCF : CF C C3 j := by
    refine ⟨fun a b i q0 q1 q2 q3 q4 q5 q6 q7 => ?_, fun a b i q0 _ => e2 a b i q0, e3, fun TA Cn q0 q1 => e5 TA Cn q0 q1⟩
    rw [e1 a b i q0]
    by_cases hb : b = j
    · by_cases h98 : a = 209 ∧ i = 8
      · obtain ⟨rfl, rfl⟩ := h98
        subst hb
        rw [gI_tk_9, if_neg (by decide)]
      · exact gI_tk (by omega) (by omega) (by omega) (by omega) (by omega)
    · exact gI_tk_j hb
  have hMF : MF M (mq_mk M D K (Ts t 603 n) (Ts t 604 n) j t n w') j := mk_MF (by omega)
  have x0 : ∀ a i, a = 201 ∨ a = 202 ∨ a = 203 ∨ a = 208 ∨ a = 0 ∨ a = 101 ∨ a = 102 ∨ a = 6 ∨ a = 701 ∨ a = 703 → ∀ b, am_gI C3 a b i = am_gI C a b i := fun a i ha b => (e1 a b i (nkq (by omega))).trans (gI_tk (by omega) (by omega) (by omega) (by omega) (by omega))
  refine ⟨GS_of hCF hMF h (R_W_cg h.1 (x0 6 0 (by omega) 0) (gI_mk (by decide) (by decide) (by decide) (by decide) (by omega) (by omega) (by omega) (by omega)) (fun i => x0 701 i (by omega) 0) (fun i => e2 702 0 i (nkq (by omega))) (fun i => x0 703 i (by omega) 0) (fun i => gI_mk (by decide) (by decide) (by omega) (by decide) (by omega) (by omega) (by omega) (by omega)) (fun i => mk_L) (fun i => gI_mk (by decide) (by decide) (by omega) (by decide) (by omega) (by omega) (by omega) (by omega))) (fun i hi => ?_) ⟨?_, fun i hi => ⟨?_, ?_⟩⟩ (mk_P h.2.2.2.2.1 ht hn hN hM8 rfl rfl), ⟨hCF, hMF, fun k hk => ⟨⟨fun a q1 q2 q3 => ?_, fun i hi => ?_⟩, mk_FM (by omega) hk⟩, fun a i q1 q2 => ?_, ?_⟩, ⟨x0 201 n (by omega) j, x0 202 n (by omega) j, x0 208 n (by omega) j, ?_, ?_, ?_⟩, x0 203 n (by omega) j, ?_, ?_, ?_, fun i hi => ?_, fun i => ⟨?_, ?_, ?_⟩⟩
  · rw [e1 209 j i (nkq (by omega)), gI_tk_9, mk_927, h.2.2.1 7 (by decide), h.2.2.1 i hi]
  · rw [x0 0 0 (by omega) 0, gI_mk (by decide) (by decide) (by decide) (by decide) (by omega) (by omega) (by omega) (by omega)]
    exact h.2.2.2.1.1
  · rw [x0 101 i (by omega) 0, gI_mk (by decide) (by decide) (by omega) (by decide) (by omega) (by omega) (by omega) (by omega)]
    exact (h.2.2.2.1.2 i hi).1
  · rw [x0 102 i (by omega) 0, gI_mk (by decide) (by decide) (by omega) (by decide) (by omega) (by omega) (by omega) (by omega)]
    exact (h.2.2.2.1.2 i hi).2
  · rw [e1 a j k (nkq (by omega))]
    have : a = 201 ∨ a = 202 ∨ a = 203 ∨ a = 204 ∨ a = 205 ∨ a = 207 ∨ a = 208 := by omega
    rcases this with rfl | rfl | rfl | rfl | rfl | rfl | rfl
    · exact gI_tk (by decide) (by decide) (by decide) (by decide) (by decide)
    · exact gI_tk (by decide) (by decide) (by decide) (by decide) (by decide)
    · exact gI_tk (by decide) (by decide) (by decide) (by decide) (by decide)
    · rw [gI_tk_4, if_neg hk]
    · rw [gI_tk_5, if_neg hk]
    · rw [gI_tk_7, if_neg hk]
    · exact gI_tk (by decide) (by decide) (by decide) (by decide) (by decide)
  · rw [e1 206 j _ (nkq (by omega)), gI_tk_6, if_neg (by omega)]
  · exact gI_mk (by omega) (by omega) (by omega) (by omega) (by omega) (by omega) (by omega) (by omega)
  · exact gI_mk (by omega) (by omega) (by omega) (by omega) (by omega) (by omega) (by omega) (by omega)
  · exact gI_mk (by omega) (by omega) (by omega) (by omega) (by omega) (by omega) (by omega) (by omega)
  · exact gI_mk (by omega) (by omega) (by omega) (by omega) (by omega) (by omega) (by omega) (by omega)
  · exact gI_mk (by omega) (by omega) (by omega) (by omega) (by omega) (by omega) (by omega) (by omega)
  · rw [e1 205 j n (nkq (by omega)), gI_tk_5, if_pos rfl]
  · rw [e1 204 j n (nkq (by omega)), gI_tk_4, if_pos rfl]
  · rw [e1 207 j n (nkq (by omega)), gI_tk_7, if_pos rfl]
  · rw [e1 206 j _ (nkq (by omega)), gI_tk_6, if_pos ⟨by omega, by omega⟩, show n * 12 + i - n * 12 = i by omega]
  · rw [e1 602 t i (nkq (by omega)), gI_tk (by decide) (by decide) (by decide) (by decide) (by decide)]
  · rw [e1 603 t i (nkq (by omega)), gI_tk (by decide) (by decide) (by decide) (by decide) (by decide)]
  · rw [e1 604 t i (nkq (by omega)), gI_tk (by decide) (by decide) (by decide) (by decide) (by decide)]
theorem PO_0 {M3 : am_H} (m1 : GS C3 M3 D Ts Ns K Mt j t) (m2 : OP C M C3 M3 j n) (m3 : KP C M C3 M3 j n) (e930 : am_gI M3 930 0 (30 * j + n) = 0) (e203 : am_gI C3 203 j n = 0) (e5 : am_gI C3 205 j n = 0) (e3 : am_gI M3 933 0 (30 * j + n) = 0) (e4 : am_gI C3 204 j n = 0) : PO C M (2, C3) (2, M3) D Ts Ns K Mt j t n :=
  ⟨rfl, Or.inr (Or.inl rfl), m1, m2, m3, Or.inl ⟨e930, e203⟩, e5.trans e3.symm, Or.inl ⟨e5, e4⟩⟩
set_option maxHeartbeats 1000000 in
/-- a PLAN is asked, on both sides -/
theorem plan_rel {x : Int32 × am_H} (hV : ∃ S, S + 1 ≤ 1073741824 ∧ wf_P C S) (h : GS C M D Ts Ns K Mt j t) (ht : t < Mt) (hj : j < 6) (hn : n < Ns t) (hN : ∀ t, t < Mt → Ns t ≤ 30) (hM8 : Mt ≤ 8) (h9 : Ts t 602 n = 9) (c2 : am_gI C 602 t n = Ts t 602 n) (c3 : am_gI C 603 t n = Ts t 603 n) (c4 : am_gI C 604 t n = Ts t 604 n) (hR : NR C M D K (Ts t) j n g) (hA : AP D K C j t n x) : ∃ y : Int32 × am_H, am_AX l 123 4 [.inr (.inr (some (8, 0))), .inl (nI n)] M (some (.inl y.1)) y.2 ∧ PO C M x y D Ts Ns K Mt j t n := by
  have hN30 := hN t ht
  have hV1 : ∃ S, wf_P C S := by
    obtain ⟨S, -, hS⟩ := hV
    exact ⟨S, hS⟩
  obtain ⟨mQ, m49, m26, m17, mT⟩ := h.2.2.2.2.2
  obtain ⟨t2, t3, t4, t5, t6, t7⟩ := mT n hn
  obtain ⟨w, w1, w2⟩ := h.1.2.1
  have w3 : am_gI M 8 0 0 = nI w := h.1.1.symm.trans w2
  have hok := okD_RD h.2.1
  have hMD := MD_RD h.2.1
  have hpr := hR.2.2.1 h9
  have n9 : ¬ Ts t 602 n = 0 := by rw [h9]; decide
  have g9 : G9 C M j n := by
    rcases hR.2.1 with q | ⟨q1, q2, q3, q4⟩
    · exact Or.inl q
    · exact Or.inr ⟨q1, q2, q3, (q4.resolve_left n9).2⟩
  have hws : sp_wish C t n ↔ ws (Ts t 603 n) (Ts t 604 n) (nI w) := by
    unfold sp_wish
    rw [w2, c3, c4]
  rcases hA with ⟨a1, rfl⟩ | ⟨a1, C3, a2, rfl⟩
  · refine ⟨(1, M), m_dop_w mQ hj m49 m26 (by omega) (by omega) t3 t4 (by rw [w3]; exact hws.mp a1), rfl, Or.inl rfl, h, OP_r, KP_r, g9, hpr⟩
  · have hnw : ¬ ws (Ts t 603 n) (Ts t 604 n) (nI w) := fun q => a1 (hws.mpr q)
    rcases a2 with ⟨b1, b2⟩ | ⟨b1, e3⟩
    · -- a new plan
      obtain ⟨m1, m2, m3, m4, m5, m6, m7, m8, m9⟩ := mk_rel h ht hn hN30 hM8 (show w < 256 by omega) c3 c4 b2 w2 hV1
      have hleft : am_gI M 930 0 (30 * j + n) = 0 ∧ am_gI C 203 j n = 0 := by
        rcases g9 with q | ⟨q1, q2, ⟨a, q3, q4, q5⟩, q6⟩
        · exact q
        · exfalso
          rcases b1 with z | ⟨z, -⟩
          · rcases hpr.2 with ⟨-, z2⟩ | ⟨L, p, f, P, ⟨z1, z2, -⟩, z3, -⟩
            · rw [z, z2] at q6
              exact absurd q6 (by decide)
            · rw [z3, show (0 : Int32) = nI 0 from rfl, nI_eq (by omega) (by decide)] at z
              omega
          · rw [q5, show (0 : Int32) = nI 0 from rfl, nI_eq (by omega) (by decide)] at z
            omega
      have hmw : am_gI M 933 0 (30 * j + n) = 0 ∨ am_gI M 930 0 (30 * j + n) = 0 ∧ ¬ nI w = am_gI M 935 0 (30 * j + n) := by
        rcases hpr.2 with ⟨z1, -⟩ | ⟨L, p, f, P, z0, z1, z2, z3, z4, z5, -⟩
        · exact Or.inl (hpr.1.symm.trans z1)
        · rcases b1 with z | ⟨-, z⟩
          · exact Or.inl (hpr.1.symm.trans z)
          · refine Or.inr ⟨hleft.1, fun q => z ?_⟩
            rw [w2, z4, q, z5]
      have e930 : am_gI (mq_mk M D K (Ts t 603 n) (Ts t 604 n) j t n w) 930 0 (30 * j + n) = 0 := (gI_mk (by decide) (by decide) (by omega) (by decide) (by omega) (by omega) (by omega) (by omega)).trans hleft.1
      have e203 : am_gI C3 203 j n = 0 := m4.trans hleft.2
      have hR12 := mm_12 (D := D) (K := K) (m := Ts t 603 n) (b := Ts t 604 n) (f := w)
      by_cases hR0 : (mm D K (Ts t 603 n) (Ts t 604 n) w 12).2 = 0
      · have ex : sp_pl2 C3 j t n = (2, C3) := by
          unfold sp_pl2
          rw [if_pos (by rw [m5, hR0]; rfl)]
        rw [ex]
        have hpd := paid_RP h.2.2.2.2.1 ht hM8 hN hn
        have hdn := m_dop_n (l := l) (H := M) (D := D) (K := K) (m := Ts t 603 n) (b := Ts t 604 n) (w := w) (j := j) (t := t) (n := n) (r := some (.inl 2)) (H' := mq_mk M D K (Ts t 603 n) (Ts t 604 n) j t n w) mQ hMD hok h.2.1.2.2.1 hj m49 m26 (by omega) (by omega) t3 t4 w3 (by omega) hpd hnw hmw (fun _ => ⟨rfl, rfl⟩) (fun q => absurd hR0 q)
        have h5 : am_gI C3 205 j n = 0 := by rw [m5, hR0]; rfl
        have h3 : am_gI (mq_mk M D K (Ts t 603 n) (Ts t 604 n) j t n w) 933 0 (30 * j + n) = 0 := by rw [mk_933, hR0]; rfl
        generalize mq_mk M D K (Ts t 603 n) (Ts t 604 n) j t n w = M3 at hdn m1 m2 m3 e930 h3
        exact ⟨(2, M3), hdn, PO_0 m1 m2 m3 e930 e203 h5 h3 m6⟩
      · have hq2 := mm_vl (m := Ts t 603 n) (b := Ts t 604 n) hok (show w < 256 by omega) hnw
        rcases hq2 with ⟨-, q0⟩ | ⟨r1, r2, r3, -⟩
        · exact absurd q0 hR0
        obtain ⟨o1, o2⟩ := gP_ok hok _ _ (show w < 256 by omega) r3
        have hPH : PH C3 (mq_mk M D K (Ts t 603 n) (Ts t 604 n) j t n w) D K (Ts t 603 n) (Ts t 604 n) j n (mm D K (Ts t 603 n) (Ts t 604 n) w 12).2 0 w (gP D K (Ts t 603 n) (Ts t 604 n) (mm D K (Ts t 603 n) (Ts t 604 n) w 12).2 w) := by
          refine ⟨⟨r1, r2, Nat.zero_le _, w1⟩, m5, mk_933, m6, mk_932, m7, mk_935, fun i hi => ⟨o1 i hi, m8 i hi, ?_⟩, by rw [Nat.sub_zero]; exact o2⟩
          rw [mk_934, if_pos ⟨by omega, by omega⟩, show 12 * (30 * j + n) + i - 12 * (30 * j + n) = i by omega]
        have hx : sp_pl2 C3 j t n = sp_pl3 (sp_askD C3 j n (nI (gP D K (Ts t 603 n) (Ts t 604 n) (mm D K (Ts t 603 n) (Ts t 604 n) w 12).2 w 0))) j t n (nI (gP D K (Ts t 603 n) (Ts t 604 n) (mm D K (Ts t 603 n) (Ts t 604 n) w 12).2 w 0)) := by
          have ed : sp_doingOf C3 j t n = nI (gP D K (Ts t 603 n) (Ts t 604 n) (mm D K (Ts t 603 n) (Ts t 604 n) w 12).2 w 0) := by
            unfold sp_doingOf sp_planned
            rw [(m9 n).1, c2, if_neg n9, m6, m5, show (0 : Int32) = nI 0 from rfl, if_pos (show nI 0 ≤ nI 0 ∧ nI 0 < nI (mm D K (Ts t 603 n) (Ts t 604 n) w 12).2 from nI_rr (c := 0) (by omega) (by omega)), nI_12n, nI_clamp (show n * 12 + 0 < 2 ^ 31 by omega)]
            exact m8 0 (by omega)
          unfold sp_pl2
          rw [ed, if_neg (by rw [m5, show (0 : Int32) = nI 0 from rfl, nI_eq (by omega) (by decide)]; omega)]
        have e8 : am_gI (mq_mk M D K (Ts t 603 n) (Ts t 604 n) j t n w) 8 0 0 = nI w := (gI_mk (by decide) (by decide) (by decide) (by decide) (by omega) (by omega) (by omega) (by omega)).trans w3
        have htail := tail_rel m1 (show n < 30 by omega) ((m9 n).2.1.trans c3) ((m9 n).2.2.trans c4) (Or.inl ⟨e930, e203⟩) (show 0 < (mm D K (Ts t 603 n) (Ts t 604 n) w 12).2 by omega) hPH
        rw [hx]
        obtain ⟨mQ', m49', m26', m17', mT'⟩ := m1.2.2.2.2.2
        obtain ⟨u2, u3, u4, -⟩ := mT' n hn
        have hd0 := (hPH.2.2.2.2.2.2.2.1 0 (by omega)).1
        have h911 : am_gI (mq_mk M D K (Ts t 603 n) (Ts t 604 n) j t n w) 911 0 (gP D K (Ts t 603 n) (Ts t 604 n) (mm D K (Ts t 603 n) (Ts t 604 n) w 12).2 w 0) = -4 ∨ vp_in (am_gI (mq_mk M D K (Ts t 603 n) (Ts t 604 n) j t n w) 911 0 (gP D K (Ts t 603 n) (Ts t 604 n) (mm D K (Ts t 603 n) (Ts t 604 n) w 12).2 w 0)) 12 := by
          have q := (m1.2.1.2.2.2.1 (gP D K (Ts t 603 n) (Ts t 604 n) (mm D K (Ts t 603 n) (Ts t 604 n) w 12).2 w 0) (by have := hok.1; omega)).2.2.2.2.2.2.1
          rw [← q]
          exact (m1.2.1.2.2.2.2.1 _ hd0).2.2
        have hpd := paid_RP h.2.2.2.2.1 ht hM8 hN hn
        have hrow0 := (hPH.2.2.2.2.2.2.2.1 0 (by omega)).2.2
        generalize hd00 : gP D K (Ts t 603 n) (Ts t 604 n) (mm D K (Ts t 603 n) (Ts t 604 n) w 12).2 w 0 = d0 at htail hd0 h911 hrow0 ⊢
        have hd10 : d0 < 10 := by have := hok.1; omega
        rw [e8] at htail
        have hfq := m_pl2 (l := l) (sc := (0, fun _ => 0)) (dd := 4) (H := mq_mk M D K (Ts t 603 n) (Ts t 604 n) j t n w) (D := D) (j := j) (t := t) (n := n) (d := d0) (w := w) (m := Ts t 603 n) (b := Ts t 604 n) (p := 0) (Q := fun r' H'' => r' = some (.inl (mq_pl3 (mq_do (mq_mk M D K (Ts t 603 n) (Ts t 604 n) j t n w) D j n d0 (nI w)) D (Ts t 603 n) (Ts t 604 n) j n d0).1) ∧ H'' = (mq_pl3 (mq_do (mq_mk M D K (Ts t 603 n) (Ts t 604 n) j t n w) D j n d0 (nI w)) D (Ts t 603 n) (Ts t 604 n) j n d0).2) (by decide) mQ' (MD_RD m1.2.1) hj m49' (by omega) (by omega) u3 u4 mk_932 (by decide) hrow0 hd10 e8 h911 ⟨w, by omega, mk_935⟩ ⟨rfl, rfl⟩
        have hdn := m_dop_n (l := l) (H := M) (D := D) (K := K) (m := Ts t 603 n) (b := Ts t 604 n) (w := w) (j := j) (t := t) (n := n) (r := some (.inl (mq_pl3 (mq_do (mq_mk M D K (Ts t 603 n) (Ts t 604 n) j t n w) D j n d0 (nI w)) D (Ts t 603 n) (Ts t 604 n) j n d0).1)) (H' := (mq_pl3 (mq_do (mq_mk M D K (Ts t 603 n) (Ts t 604 n) j t n w) D j n d0 (nI w)) D (Ts t 603 n) (Ts t 604 n) j n d0).2) mQ hMD hok h.2.1.2.2.1 hj m49 m26 (by omega) (by omega) t3 t4 w3 (by omega) hpd hnw hmw (fun q => absurd q hR0) (fun _ => hfq)
        refine ⟨_, hdn, PO_cn ?_ m2 m3 htail⟩
        obtain ⟨S, hS, hwS⟩ := hV
        obtain ⟨-, -, -, -, -, -, z4, -⟩ := b2
        exact ⟨_, z4 S hwS hS⟩
    · -- an old plan
      rw [e3]
      rcases hpr.2 with ⟨z1, -⟩ | ⟨L, p, f, P, ⟨z1, z2, z3, z4⟩, z5, z6, z7, z8, z9, z10, z11⟩
      · exact absurd (Or.inl z1) b1
      have hPH : PH C M D K (Ts t 603 n) (Ts t 604 n) j n L p f P := ⟨⟨z1, z2, z3, z4⟩, z5, hpr.1.symm.trans z5, z6, z7, z8, z9, z10, z11⟩
      have hp : p < L := by
        rcases Nat.lt_or_ge p L with q | q
        · exact q
        · exfalso
          have : p = L := by omega
          subst this
          rw [Nat.sub_self] at z11
          have z11 : ws (Ts t 603 n) (Ts t 604 n) (nI f) := z11
          rcases g9 with ⟨-, q2⟩ | ⟨-, -, -, q4⟩
          · have e6 : am_gI C 6 0 0 = am_gI C 207 j n := Classical.not_not.mp (fun q => b1 (Or.inr ⟨q2, q⟩))
            rw [w2, z8] at e6
            rw [← e6] at z11
            exact hnw z11
          · rw [z6, z5, nI_ltI (by omega) (by omega)] at q4
            omega
      have hx : sp_pl2 C j t n = sp_pl3 (sp_askD C j n (nI (P p))) j t n (nI (P p)) := by
        have ed : sp_doingOf C j t n = nI (P p) := by
          unfold sp_doingOf sp_planned
          rw [c2, if_neg n9, z6, z5, if_pos (nI_rr hp (by omega)), nI_12n, nI_clamp (show n * 12 + p < 2 ^ 31 by omega)]
          exact (z10 p hp).2.1
        unfold sp_pl2
        rw [ed, if_neg (by rw [z5, show (0 : Int32) = nI 0 from rfl, nI_eq (by omega) (by decide)]; omega)]
      have hgx : GX C M j n := by
        rcases g9 with q | ⟨q1, q2, q3, -⟩
        · exact Or.inl q
        · exact Or.inr ⟨q1, q2, q3⟩
      have htail := tail_rel h (show n < 30 by omega) c3 c4 hgx hp hPH
      rw [hx]
      have hd0 := (z10 p hp).1
      have h911 : am_gI M 911 0 (P p) = -4 ∨ vp_in (am_gI M 911 0 (P p)) 12 := by
        have q := (h.2.1.2.2.2.1 (P p) (by have := hok.1; omega)).2.2.2.2.2.2.1
        rw [← q]
        exact (h.2.1.2.2.2.2.1 _ hd0).2.2
      have hd10 : P p < 10 := by have := hok.1; omega
      rw [w3] at htail
      have hfq := m_pl2 (l := l) (sc := (0, fun _ => 0)) (dd := 4) (H := M) (D := D) (j := j) (t := t) (n := n) (d := P p) (w := w) (m := Ts t 603 n) (b := Ts t 604 n) (p := p) (Q := fun r' H'' => r' = some (.inl (mq_pl3 (mq_do M D j n (P p) (nI w)) D (Ts t 603 n) (Ts t 604 n) j n (P p)).1) ∧ H'' = (mq_pl3 (mq_do M D j n (P p) (nI w)) D (Ts t 603 n) (Ts t 604 n) j n (P p)).2) (by decide) mQ hMD hj m49 (by omega) (by omega) t3 t4 z7 (by omega) (z10 p hp).2.2 hd10 w3 h911 ⟨f, by omega, z9⟩ ⟨rfl, rfl⟩
      refine ⟨_, m_dop_o (l := l) (H := M) mQ hj m49 m26 (by omega) (by omega) t3 t4 (by rw [w3]; exact hnw) ?_ ?_ hfq, htail⟩
      · rw [hPH.2.2.1, show (0 : Int32) = nI 0 from rfl, nI_eq (by omega) (by decide)]
        omega
      · rintro ⟨q1, q2⟩
        have q3 : am_gI C 203 j n = 0 := by
          rcases g9 with ⟨-, q3⟩ | ⟨q3, -⟩
          · exact q3
          · rw [q1] at q3
            exact absurd q3 (by decide)
        exact b1 (Or.inr ⟨q3, fun q => q2 (by rw [w3, z9, ← w2, q, z8])⟩)
end SI4
