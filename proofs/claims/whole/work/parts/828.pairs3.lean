/-! ===== pairs: told, plan, part, asked ===== -/
section PR3
variable {l : Launch}
theorem cr_S {C M : am_H} {D : Nat → Nat → Int32} {T : Nat → Nat → Nat → Int32} {N : Nat → Nat} {K Mt c t : Nat} (hT : R_T C M T N K Mt) (hc : sh_C C c) (ht : t < Mt) (hr : am_gR C 1 c 0 = some (5, t)) : sh_S C c t := ⟨hc, hr, (hT.2.2.2 t ht).1⟩
theorem tc_num {k n : Nat} (hk : k ≤ 9) (hn : n ≤ 9) : (nI k = nI n) = (k = n) := propext (nI_eq (by omega) (by omega))
theorem told_eq {C M : am_H} {D : Nat → Nat → Int32} {T : Nat → Nat → Int32} {K c n : Nat} {w : Int32} {t : Nat} (h2 : am_gI C 602 t n = T 602 n) (h3 : am_gI M 918 0 (30 * t + n) = T 602 n) (ht : am_gI C 202 c n = am_gI M 929 0 (30 * c + n)) (h : NR C M D K T c n True) : sp_told C c t n w = mp_told M c t n w := by
  obtain ⟨a1, a2, a3, a4, a5⟩ := h
  unfold sp_told mp_told
  rw [a1, ht]
  by_cases w0 : w = 0
  · rw [if_pos w0, if_pos w0]
  rw [if_neg w0, if_neg w0]
  by_cases w1 : w = 1
  · rw [if_pos w1, if_pos w1]
  rw [if_neg w1, if_neg w1]
  by_cases w2 : w = 2
  · rw [if_pos w2, if_pos w2]
    rcases a2 with ⟨b1, b2⟩ | ⟨b1, b2, -⟩
    · rw [if_pos b1, b2]
    · rw [if_neg (by rw [b1]; decide), b2]
  rw [if_neg w2, if_neg w2]
  by_cases w3 : w = 3
  · rw [if_pos w3, if_pos w3]
    unfold sp_prog
    rw [h2, h3]
    by_cases k67 : T 602 n = 6 ∨ T 602 n = 7
    · rw [if_pos k67]
      obtain ⟨p, p1, p2, -⟩ := a4 k67 trivial
      have k9 : ¬ T 602 n = 9 := by rcases k67 with q | q <;> rw [q] <;> decide
      rw [if_neg (fun q => k9 q.1), p1, p2]
    · rw [if_neg k67]
      by_cases k9 : T 602 n = 9
      · rw [if_pos k9]
        obtain ⟨b1, b2⟩ := a3 k9
        rw [← b1]
        rcases b2 with ⟨b2, b3⟩ | ⟨L, p, g, P, ⟨q1, q12, -⟩, q2, q3, q4, -⟩
        · rw [if_pos ⟨k9, b2⟩, if_pos b2]
        · have hL : ¬ am_gI C 205 c n = 0 := by
            rw [q2, show (0 : Int32) = nI 0 from rfl, nI_eq (by omega) (by decide)]
            omega
          rw [if_neg (fun q => hL q.2), if_neg hL, q3, q4]
      · rw [if_neg k9, if_neg (fun q => k9 q.1)]
        exact a5 (fun q => k67 (Or.inl q)) (fun q => k67 (Or.inr q)) k9
  · rw [if_neg w3, if_neg w3]
theorem p_Told (a0 : Int32) (a1 : Int32) (a2 : Int32) : am_prI l RI 86 138 [.inl a0, .inl a1, .inl a2] := by
  intro n H hn hR
  have hR0 := RI_s n H hR
  obtain ⟨D, T, N, K, Mt, TA, Cn, ⟨sL, sM, sW, sD, sX, sQ⟩, hV, hw, hP, rW, rD, rT, rA, rB, rC, rL, rP⟩ := hR
  obtain ⟨c6, c1, c2, c3, c4⟩ := rC
  by_cases hc : 0 ≤ a0 ∧ a0 < nI Cn
  · obtain ⟨c, hcc, rfl⟩ := nI_r (by omega) hc
    obtain ⟨b1, b2, b3, b4, b5⟩ := c3 c hcc
    rcases b5 with ⟨e1, e2, e3⟩ | ⟨t, ht, e1, e2, e3, e4⟩
    · exact pr_of (c_told_2 c a1 a2 sX c1 c6 hcc b2 e1) (by decide) (m_told_1 (nI c) a1 a2 (m_nodeOf_2 c a1 sQ c2 c6 hcc e2)) (by decide) hR0
    · obtain ⟨t1, t2, t3, t4, t5, t6⟩ := rT.2.2.2 t ht
      have hMt := rT.1
      have hN30 : N t ≤ 30 := t3.1.2
      have hnd := m_nodeOf (l := l) c a1 sQ c2 c6 hcc e2 (show t < 9 by omega) t5 hN30
      by_cases hm : 0 ≤ a1 ∧ a1 < nI (N t)
      · obtain ⟨m, hmN, rfl⟩ := nI_r (by omega) hm
        rw [show am_bi (0 ≤ nI m ∧ nI m < nI (N t)) = 1 from if_pos hm] at hnd
        have hcl := c_told (l := l) c m a2 sX c1 c6 hcc b2 ⟨b1, e1, t1⟩ t4 hN30 hmN
        have hml := m_told (l := l) c m a2 sQ (show c < 6 by omega) e2 (show t < 9 by omega) (show m < 30 by omega) hnd
        obtain ⟨u1, u2⟩ := t6 m (by omega)
        rw [told_eq (T := T t) u1.1 (u2 hmN).1 (e4 m hmN).1 (e4 m hmN).2] at hcl
        exact pr_of hcl (by decide) hml (by decide) hR0
      · rw [show am_bi (0 ≤ a1 ∧ a1 < nI (N t)) = 0 from if_neg hm] at hnd
        exact pr_of (c_told_3 c a1 a2 sX c1 c6 hcc b2 e1 (by rw [t4]; exact hm)) (by decide) (m_told_1 (nI c) a1 a2 hnd) (by decide) hR0
  · exact pr_of (c_told_1 a0 a1 a2 sX (by rw [c1]; exact hc)) (by decide) (m_told_1 a0 a1 a2 (m_nodeOf_1 a0 a1 (by rw [c2, le_p (by omega)]; exact hc))) (by decide) hR0
theorem p_Plan (a0 : Int32) (a1 : Int32) (a2 : Int32) : am_prI l RI 90 141 [.inl a0, .inl a1, .inl a2] := by
  intro n H hn hR
  have hR0 := RI_s n H hR
  obtain ⟨D, T, N, K, Mt, TA, Cn, ⟨sL, sM, sW, sD, sX, sQ⟩, hV, hw, hP, rW, rD, rT, rA, rB, rC, rL, rP⟩ := hR
  obtain ⟨c6, c1, c2, c3, c4⟩ := rC
  by_cases hc : 0 ≤ a0 ∧ a0 < nI Cn
  · obtain ⟨c, hcc, rfl⟩ := nI_r (by omega) hc
    obtain ⟨b1, b2, b3, b4, b5⟩ := c3 c hcc
    rcases b5 with ⟨e1, e2, e3⟩ | ⟨t, ht, e1, e2, e3, e4⟩
    · exact pr_of (c_plan_2 c a1 a2 sX c1 c6 hcc b2 e1) (by decide) (m_plan_1 (nI c) a1 a2 (m_nodeOf_2 c a1 sQ c2 c6 hcc e2)) (by decide) hR0
    · obtain ⟨t1, t2, t3, t4, t5, t6⟩ := rT.2.2.2 t ht
      have hMt := rT.1
      have hN30 : N t ≤ 30 := t3.1.2
      have hnd := m_nodeOf (l := l) c a1 sQ c2 c6 hcc e2 (show t < 9 by omega) t5 hN30
      by_cases hm : 0 ≤ a1 ∧ a1 < nI (N t)
      · obtain ⟨m, hmN, rfl⟩ := nI_r (by omega) hm
        rw [show am_bi (0 ≤ nI m ∧ nI m < nI (N t)) = 1 from if_pos hm] at hnd
        have hm30 : m < 30 := by omega
        have hcl := c_plan (l := l) c m a2 sX c1 c6 hcc b2 ⟨b1, e1, t1⟩ t4 hN30 hmN (b4 m hm30)
        obtain ⟨u1, u2⟩ := t6 m (by omega)
        rw [u1.1] at hcl
        by_cases h9 : T t 602 m = 9
        · rw [if_pos h9] at hcl
          unfold sp_planned at hcl
          obtain ⟨v1, v2⟩ := (e4 m hmN).2.2.2.1 h9
          rcases v2 with ⟨v2, v3⟩ | ⟨L, p, g, P, ⟨q1, q12, -⟩, q2, q3, q4, q5, q6, q7, -⟩
          · rw [v2] at v1 hcl
            rw [if_neg (by intro q; exact absurd q.2 (Int32.not_lt.mpr q.1))] at hcl
            exact pr_of hcl (by decide) (m_plan_3 c m 0 a2 sQ (show c < 6 by omega) e2 (show t < 9 by omega) hm30 ((u2 hmN).1.trans h9) v1.symm (by omega) (by intro q; exact absurd q.2 (Int32.not_lt.mpr q.1)) hnd) (by decide) hR0
          · rw [q2] at v1 hcl
            by_cases hi : 0 ≤ a2 ∧ a2 < nI L
            · obtain ⟨i, hiL, rfl⟩ := nI_r (by omega) hi
              rw [if_pos hi, show (12 : Int32) = nI 12 from rfl, pk_mul, nI_add, nI_clamp (show m * 12 + i < 2 ^ 31 by omega), (q7 i hiL).2.1, ← (q7 i hiL).2.2] at hcl
              exact pr_of hcl (by decide) (m_plan_4 c m L i sQ (show c < 6 by omega) e2 (show t < 9 by omega) hm30 ((u2 hmN).1.trans h9) v1.symm q12 hiL hnd) (by decide) hR0
            · rw [if_neg hi] at hcl
              exact pr_of hcl (by decide) (m_plan_3 c m L a2 sQ (show c < 6 by omega) e2 (show t < 9 by omega) hm30 ((u2 hmN).1.trans h9) v1.symm q12 hi hnd) (by decide) hR0
        · rw [if_neg h9] at hcl
          exact pr_of hcl (by decide) (m_plan_2 c m a2 sQ (show c < 6 by omega) e2 (show t < 9 by omega) hm30 (by rw [(u2 hmN).1]; exact h9) hnd) (by decide) hR0
      · rw [show am_bi (0 ≤ a1 ∧ a1 < nI (N t)) = 0 from if_neg hm] at hnd
        exact pr_of (c_plan_3 c a1 a2 sX c1 c6 hcc b2 e1 (by rw [t4]; exact hm)) (by decide) (m_plan_1 (nI c) a1 a2 hnd) (by decide) hR0
  · exact pr_of (c_plan_1 a0 a1 a2 sX (by rw [c1]; exact hc)) (by decide) (m_plan_1 a0 a1 a2 (m_nodeOf_1 a0 a1 (by rw [c2, le_p (by omega)]; exact hc))) (by decide) hR0
theorem p_Part (a0 : Int32) (a1 : Int32) (a2 : Int32) : am_prI l RI 93 144 [.inl a0, .inl a1, .inl a2] := by
  intro n H hn hR
  have hR0 := RI_s n H hR
  obtain ⟨D, T, N, K, Mt, TA, Cn, ⟨sL, sM, sW, sD, sX, sQ⟩, hV, hw, hP, rW, rD, rT, rA, rB, rC, rL, rP⟩ := hR
  have hMt := rT.1
  by_cases hc : 0 ≤ a0 ∧ a0 < nI Mt
  · obtain ⟨t, ht, rfl⟩ := nI_r (by omega) hc
    obtain ⟨t1, t2, t3, t4, t5, t6⟩ := rT.2.2.2 t ht
    have hN30 : N t ≤ 30 := t3.1.2
    by_cases hm : 0 ≤ a1 ∧ a1 < nI (N t)
    · obtain ⟨m, hmN, rfl⟩ := nI_r (by omega) hm
      have hcl := c_part (l := l) t m a2 sX rT.2.1 hMt ht t2 t1 t4 hN30 hmN
      obtain ⟨⟨u1, u2, u3, u4, u5, u6⟩, u⟩ := t6 m (by omega)
      obtain ⟨w1, w2, w3, w4, w5, w6⟩ := u hmN
      have e : sp_part H t m a2 = mp_part H t m a2 := by
        unfold sp_part mp_part
        rw [u1, u2, u3, u4, u5, u6, w1, w2, w3, w4, w5, w6]
      rw [e] at hcl
      exact pr_of hcl (by decide) (m_part t m a2 sQ rT.2.2.1 hMt ht t5 hN30 hmN) (by decide) hR0
    · exact pr_of (c_part_2 t a1 a2 sX rT.2.1 hMt ht t2 (by rw [t4]; exact hm)) (by decide) (m_part_2 t a1 a2 sQ rT.2.2.1 hMt ht t5 hN30 hm) (by decide) hR0
  · exact pr_of (c_part_1 a0 a1 a2 sX (by rw [rT.2.1]; exact hc)) (by decide) (m_part_1 a0 a1 a2 rT.2.2.1 hMt hc) (by decide) hR0
theorem p_Asked (a0 : Int32) (a1 : Int32) : am_prI l RI 88 140 [.inl a0, .inl a1] := by
  intro n H hn hR
  have hR0 := RI_s n H hR
  obtain ⟨D, T, N, K, Mt, TA, Cn, ⟨sL, sM, sW, sD, sX, sQ⟩, hV, hw, hP, rW, rD, rT, rA, rB, rC, rL, rP⟩ := hR
  obtain ⟨a, ha, l1, l2, l3⟩ := rL
  have hk : sp_kept H = nI (if a < 40 then a else 40) := by
    unfold sp_kept
    rw [l2]
    by_cases h : a < 40
    · rw [if_pos h, if_pos (show nI a < 40 from nI_lt (b := 40) h (by decide))]
    · rw [if_neg h, if_neg (show ¬ nI a < 40 from nI_nlt (b := 40) (by omega) (by omega))]
      rfl
  have hk2 : (if am_gI H 0 0 0 < 40 then am_gI H 0 0 0 else 40) = nI (if a < 40 then a else 40) := by
    rw [← hk, l1]
    unfold sp_kept
    rw [l2]
  have hb : (if a < 40 then a else 40) ≤ 40 := by split <;> omega
  generalize (if a < 40 then a else 40) = b at hk hk2 hb
  by_cases hi : 0 ≤ a0 ∧ a0 < nI b
  · obtain ⟨i, hib, rfl⟩ := nI_r (by omega) hi
    have hcl := c_asked_3 (l := l) (nI i) a1 sX sM sL (Int32.not_lt.mpr hi.1) (by rw [hk2]; exact hi.2) (vp_in_nI (by omega) (by decide))
    have hml := m_asked_2 (l := l) (nI i) a1 sQ (vp_in_nI (by omega) (by decide)) (by rw [hk, le_p (by omega)]; exact hi)
    rw [nI_clamp (show i < 2 ^ 31 by omega)] at hcl hml
    rw [(l3 i (by omega)).1, (l3 i (by omega)).2] at hcl
    exact pr_of hcl (by decide) hml (by decide) hR0
  · have hml := m_asked_1 (l := l) (H := H) a0 a1 (by rw [hk, le_p (by omega)]; exact hi)
    by_cases h0 : a0 < 0
    · exact pr_of (c_asked_1 a0 a1 sX sM h0) (by decide) hml (by decide) hR0
    · exact pr_of (c_asked_2 a0 a1 sX sM sL h0 (by rw [hk2]; exact fun q => hi ⟨Int32.not_lt.mp h0, q⟩)) (by decide) hml (by decide) hR0
end PR3
