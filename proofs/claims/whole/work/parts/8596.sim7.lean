/-! ===== a tick on both sides: a node waits for its parts ===== -/
section SI7
variable {l : Launch} {C0 M0 C M C' M' H' : am_H} {D : Nat → Nat → Int32} {Ts : Nat → Nat → Nat → Int32} {Ns : Nat → Nat} {K Mt j t n k w i c e A S p : Nat} {g g' : Prop} {x dn un v v' : Int32}
/-- node n waits for its part i -/
def MI (C0 M0 C M : am_H) (D : Nat → Nat → Int32) (Ts : Nat → Nat → Nat → Int32) (Ns : Nat → Nat) (K Mt j t n w i : Nat) (dn un : Int32) (g : Prop) : Prop := E0 C0 M0 C M D Ts Ns K Mt j t n w g ∧ am_gI M 8 0 43 = nI (w + 1) ∧ am_gI M 944 0 w = nI n ∧ am_gI M 945 0 w = nI i ∧ am_gI M 946 0 w = nI (tc (Ts t) n i) ∧ am_gI M 947 0 w = dn ∧ am_gI M 948 0 w = un
/-- only what the loop keeps for itself changes -/
def LF (M M' : am_H) (w : Nat) : Prop := (∀ a b i, a ≠ 8 → ¬ (944 ≤ a ∧ a ≤ 948) → am_gI M' a b i = am_gI M a b i) ∧ (∀ b i, i ≠ 43 → i ≠ 50 → i ≠ 51 → am_gI M' 8 b i = am_gI M 8 b i) ∧ (∀ a i, 944 ≤ a → a ≤ 948 → i < w → am_gI M' a 0 i = am_gI M a 0 i) ∧ (∀ a b i, am_gL M' a b i = am_gL M a b i) ∧ (∀ a b i, am_gR M' a b i = am_gR M a b i) ∧ am_lv M' = am_lv M
theorem LF_r : LF M M w := ⟨fun _ _ _ _ _ => rfl, fun _ _ _ _ _ => rfl, fun _ _ _ _ _ => rfl, fun _ _ _ => rfl, fun _ _ _ => rfl, rfl⟩
theorem LF_x {a : Nat} (h : LF M M' w) (h2 : (a = 8 ∧ (i = 43 ∨ i = 50 ∨ i = 51)) ∨ (944 ≤ a ∧ a ≤ 948 ∧ w ≤ i)) : LF M (am_sI M' a 0 i v) w := by
  refine ⟨fun y b z q1 q2 => ?_, fun b z q1 q2 q3 => ?_, fun y z q1 q2 q3 => ?_, h.2.2.2.1, h.2.2.2.2.1, h.2.2.2.2.2⟩
  · rw [am_gI_sI, if_neg (fun q => by omega)]; exact h.1 y b z q1 q2
  · rw [am_gI_sI, if_neg (fun q => by omega)]; exact h.2.1 b z q1 q2 q3
  · rw [am_gI_sI, if_neg (fun q => by omega)]; exact h.2.2.1 y z q1 q2 q3
theorem LF_MF (h : LF M M' w) : MF M M' j := ⟨fun a b i q0 q1 q2 q3 q4 => h.1 a b i q0 q4, fun b i q => h.2.1 b i (by omega) (by omega) (by omega), fun i _ => h.1 927 0 i (by decide) (by decide), fun a i q0 q1 q2 q3 => h.1 a 0 i (by omega) (by omega), fun i _ => h.1 934 0 i (by decide) (by decide), fun a b i _ => h.2.2.2.1 a b i, h.2.2.2.2.1, h.2.2.2.2.2⟩
theorem LF_FM (h : LF M M' w) : FM M M' j k := ⟨fun a q1 q2 q3 => h.1 a 0 _ (by omega) (by omega), fun i hi => h.1 934 0 _ (by decide) (by decide), h.1 942 0 k (by decide) (by decide)⟩
theorem LF_GS (hl : LF M M' w) (h : GS C M D Ts Ns K Mt j t) : GS C M' D Ts Ns K Mt j t :=
  GS_of CF_r (LF_MF hl) h (R_W_cg h.1 rfl (hl.2.1 0 0 (by decide) (by decide) (by decide)) (fun _ => rfl) (fun _ => rfl) (fun _ => rfl) (fun i => hl.1 901 0 i (by decide) (by decide)) (fun i => hl.2.2.2.1 902 0 i) (fun i => hl.1 903 0 i (by decide) (by decide))) (fun i hi => by rw [hl.1 927 0 _ (by decide) (by decide)]; exact h.2.2.1 i hi) ⟨by rw [hl.2.1 0 39 (by decide) (by decide) (by decide)]; exact h.2.2.2.1.1, fun i hi => by rw [hl.1 940 0 i (by decide) (by decide), hl.1 941 0 i (by decide) (by decide)]; exact h.2.2.2.1.2 i hi⟩ (RP_cg (fun k i hk => hl.1 k 0 i (by omega) (by omega)) h.2.2.2.2.1)
theorem LF_E0 (hl : LF M M' w) (hw : ∃ S, wf_P C S) (ht1 : 1 ≤ tn (Ts t) n) (h : E0 C0 M0 C M D Ts Ns K Mt j t n w g) : E0 C0 M0 C M' D Ts Ns K Mt j t n w g :=
  E0_op hw h (LF_GS hl h.1) CF_r (LF_MF hl) (fun k _ => ⟨FC_r, LF_FM hl⟩) hl.2.2.1 (NM_cn FC_r (LF_FM hl) id h.2.2.2.2.2.2) ht1
theorem wt_LF {T : Nat → Nat → Int32} : LF M (am_sI (mq_wt M T w n p) 8 0 51 v) w := by
  unfold mq_wt
  exact LF_x (LF_x (LF_x (LF_x (LF_x (LF_x (LF_x LF_r (by omega)) (by omega)) (by omega)) (by omega)) (by omega)) (by omega)) (by omega)
theorem wait_rel (hw : ∃ S, wf_P C S) (ht1 : 1 ≤ tn (Ts t) n) (h : E0 C0 M0 C M D Ts Ns K Mt j t n w g) : MI C0 M0 C (am_sI (mq_wt M (Ts t) w n p) 8 0 51 v) D Ts Ns K Mt j t n w p 0 0 g := by
  refine ⟨LF_E0 wt_LF hw ht1 h, ?_, ?_, ?_, ?_, ?_, ?_⟩
  all_goals
    unfold mq_wt
    simp (decide := true) only [am_gI_sI, false_and, and_false, true_and, and_self, ↓reduceIte]
/-- a part has answered -/
theorem child_rel (hw : ∃ S, wf_P C S) (h : MI C0 M0 C M D Ts Ns K Mt j t n w i dn un g) (hs : SP C M C' M' D Ts Ns K Mt j t c (w + 1) x) (hc : n < c) (hce : c + tn (Ts t) c ≤ n + tn (Ts t) n) (h30 : n + tn (Ts t) n ≤ 30) (hc1 : 1 ≤ tn (Ts t) c) : MI C0 M0 C' M' D Ts Ns K Mt j t n w i dn un g := by
  obtain ⟨⟨q1, q2, q3, q4, q5, q6, q7⟩, r1, r2, r3, r4, r5, r6⟩ := h
  obtain ⟨s1, s2, s3, s4, s5, s6, s7, s8, s9, s10⟩ := hs
  obtain ⟨f1, f2⟩ := s4 n (by omega) (by omega)
  refine ⟨⟨s1, CF_t hw q2 s2, MF_t q3 s3, fun k hk hk2 => ?_, fun a i z1 z2 z3 => (s5 a i z1 z2 (by omega)).trans (q5 a i z1 z2 z3), fun k hk hk2 => ?_, NM_cn f1 f2 id q7⟩, s10, ?_, ?_, ?_, ?_, ?_⟩
  · obtain ⟨f3, f4⟩ := q4 k hk hk2
    obtain ⟨f5, f6⟩ := s4 k hk (by omega)
    exact ⟨FC_t f3 f5, FM_t f4 f6⟩
  · by_cases hin : c ≤ k ∧ k < c + tn (Ts t) c
    · exact s6 k hin.1 hin.2
    · obtain ⟨f5, f6⟩ := s4 k (by omega) (by omega)
      exact NX_cn f5 f6 (q6 k hk hk2)
  · rw [s5 944 w (by decide) (by decide) (by omega)]; exact r2
  · rw [s5 945 w (by decide) (by decide) (by omega)]; exact r3
  · rw [s5 946 w (by decide) (by decide) (by omega)]; exact r4
  · rw [s5 947 w (by decide) (by decide) (by omega)]; exact r5
  · rw [s5 948 w (by decide) (by decide) (by omega)]; exact r6
theorem cb_LF : LF M (mq_cb M w dn un x) w := by
  unfold mq_cb
  exact LF_x (LF_x LF_r (by omega)) (by omega)
theorem WS_of (hF : FT Ts Ns K Mt j t) (h : MI C0 M0 C M D Ts Ns K Mt j t n w i dn un g) (hn : n < Ns t) (hw31 : w < 31) (hc : tc (Ts t) n i < Ns t) (hi : i < 30) (hx : am_gI M 8 0 50 = x) : WS M j t w n i (tc (Ts t) n i) dn un x := by
  obtain ⟨f1, f2, f3, f4, f5, f6⟩ := hF
  have := f3 t f1
  obtain ⟨h0, h1, h2, h3, h4, h5, h6⟩ := h
  obtain ⟨mQ, m49, m26, m17, mT⟩ := h0.1.2.2.2.2.2
  exact ⟨⟨mQ, f4, m49, m26, by omega⟩, h1, hw31, by omega, h2, h3, h4, h5, h6, hx, by omega, hi⟩
theorem pv_e (h : GS C M D Ts Ns K Mt j t) (hn : n < Ns t) : mp_pv M t n = if Ts t 602 n = 2 ∨ Ts t 602 n = 3 ∨ Ts t 602 n = 4 ∨ Ts t 602 n = 7 then Ts t 603 n else if Ts t 602 n = 5 ∨ Ts t 602 n = 6 ∨ Ts t 602 n = 8 then 1 else 0 := by
  obtain ⟨t2, t3, -⟩ := h.2.2.2.2.2.2.2.2.2 n hn
  unfold mp_pv
  rw [t2, t3]
theorem pv_tp (h : GS C M D Ts Ns K Mt j t) (hn : n < Ns t) (hT : wf_T (Ts t) (Ns t) K) (hk : Ts t 602 n = 2 ∨ Ts t 602 n = 3 ∨ Ts t 602 n = 4 ∨ Ts t 602 n = 7) : mp_pv M t n = nI (tp (Ts t) n) ∧ tp (Ts t) n ≤ 6 ∧ 1 ≤ tp (Ts t) n := by
  obtain ⟨a, a1, a2, a3⟩ := (hT.2.2.2.2 n hn).2.2.2.2.2.2.2.1 hk
  rw [pv_e h hn, if_pos hk]
  unfold tp
  rw [if_pos hk, a3, nI_clamp (show a < 2 ^ 31 by omega)]
  exact ⟨rfl, a2, a1⟩
/-- it goes on to its next part -/
theorem go_step {sc : am_SC} {dd k : Nat} {Q : Option am_V → am_H → Prop} (hF : FT Ts Ns K Mt j t) (hwp : ∃ S, wf_P C S) (hdd : 6 ≤ dd) (hn : n < Ns t) (hw31 : w < 31) (h : MI C0 M0 C M D Ts Ns K Mt j t n w i dn un g) (h50 : am_gI M 8 0 50 = x) (h51 : am_gI M 8 0 51 = -4) (hx : x = 1 ∨ x = 2 ∨ x = 3) (hk : Ts t 602 n = nI k) (hgo : k = 4 ∨ k = 3 ∧ x = 2 ∨ (k = 2 ∨ k = 7) ∧ x = 1) (hi : i + 1 < tp (Ts t) n)
    (hq : ∀ M', MI C0 M0 C M' D Ts Ns K Mt j t n w (i + 1) (dn + if x = 1 then 1 else 0) (un + if x = 3 then 1 else 0) g → am_gI M' 8 0 51 = nI (tc (Ts t) n (i + 1)) → am_FQ l sc 115 dd 57 [some (.inr (.inr (some (8, 0)))), none, none] [] M' Q) : am_FQ l sc 115 dd 57 [some (.inr (.inr (some (8, 0)))), none, none] [] M Q := by
  have hF' := hF
  obtain ⟨f1, f2, f3, f4, f5, f6⟩ := hF
  have hN30 := f3 t f1
  have hw := f5.2.2.2.2 n hn
  have ht1 := hw.1.1
  have hk4 : k = 2 ∨ k = 3 ∨ k = 4 ∨ k = 7 := by rcases hgo with q | ⟨q, -⟩ | ⟨q | q, -⟩ <;> omega
  have hkT : Ts t 602 n = 2 ∨ Ts t 602 n = 3 ∨ Ts t 602 n = 4 ∨ Ts t 602 n = 7 := by
    rw [hk]
    rcases hk4 with rfl | rfl | rfl | rfl
    · exact Or.inl rfl
    · exact Or.inr (Or.inl rfl)
    · exact Or.inr (Or.inr (Or.inl rfl))
    · exact Or.inr (Or.inr (Or.inr rfl))
  obtain ⟨hpv, hp6, -⟩ := pv_tp h.1.1 hn f5 hkT
  obtain ⟨hcN, -⟩ := hw.2.2.1 i (by omega)
  have hWS := WS_of hF' h hn hw31 hcN (by omega) h50
  obtain ⟨mQ, m49, m26, m17, mT⟩ := h.1.1.2.2.2.2.2
  have t2 := (mT n hn).1
  have t7 := (mT (tc (Ts t) n i) hcN).2.2.2.2.2
  have hs : am_gI M 923 0 (30 * t + tc (Ts t) n i) = nI (tn (Ts t) (tc (Ts t) n i)) := t7.trans (f5.2.2.2.2 _ hcN).1.2.1
  have hs2 : am_gI (mq_cb M w dn un x) 923 0 (30 * t + tc (Ts t) n i) = nI (tn (Ts t) (tc (Ts t) n i)) := (gI_cb (by decide) (by decide)).trans hs
  have hL : (0 : Int32) = am_bi (nI (i + 1) = mp_pv M t n) := by
    rw [hpv]
    exact (if_neg (fun q => by rw [nI_eq (by omega) (by omega)] at q; omega)).symm
  have e46 : am_gI (mq_cb M w dn un x) 946 0 w = nI (tc (Ts t) n i) := (gI_cb (by decide) (by decide)).trans h.2.2.2.2.1
  have hax : am_AX l 130 1 [.inr (.inr (some (8, 0)))] M none (am_sI (mq_pass (mq_cb M w dn un x) w (nI (tn (Ts t) (tc (Ts t) n i)))) 8 0 51 (nI (tc (Ts t) n (i + 1)))) := by
    refine cb_A hWS hx hL ?_
    refine cb_B0 (g := 1) (k := k) (show sh_Q (mq_cb M w dn un x) from mQ) (by omega) (by omega) ((gI_cb (by decide) (by decide)).trans (t2.trans hk)) hk4 hx (by rw [if_pos hgo]) ?_
    refine cb_C1 (Nat.le_refl 1) (show sh_Q (mq_cb M w dn un x) from mQ) f4 ((gI_cb (by decide) (by decide)).trans m49) ((gI_cb (by decide) (by decide)).trans m26) (by omega) ((gI_cb (by decide) (by decide)).trans h.2.1) hw31 e46 (by omega) ?_
    rw [hs2, nI_add]
    exact ⟨rfl, rfl⟩
  refine tk_c hw31 h51 h.2.1 hax hdd (hq _ ?_ ?_)
  · have hlf : LF M (am_sI (mq_pass (mq_cb M w dn un x) w (nI (tn (Ts t) (tc (Ts t) n i)))) 8 0 51 (nI (tc (Ts t) n (i + 1)))) w := by
      unfold mq_pass
      exact LF_x (LF_x (LF_x cb_LF (by omega)) (by omega)) (by omega)
    refine ⟨LF_E0 hlf hwp ht1 h.1, ?_, ?_, ?_, ?_, ?_, ?_⟩
    · unfold mq_pass
      rw [am_gI_sI, if_neg (fun q => by omega), am_gI_sI, if_neg (fun q => by omega), am_gI_sI, if_neg (fun q => by omega), gI_cb (by decide) (by decide)]
      exact h.2.1
    · unfold mq_pass
      rw [am_gI_sI, if_neg (fun q => by omega), am_gI_sI, if_neg (fun q => by omega), am_gI_sI, if_neg (fun q => by omega), gI_cb (by decide) (by decide)]
      exact h.2.2.1
    · unfold mq_pass
      rw [am_gI_sI, if_neg (fun q => by omega), am_gI_sI, if_neg (fun q => by omega), am_gI_sI, if_pos ⟨rfl, rfl, rfl⟩, gI_cb (by decide) (by decide), h.2.2.2.1, nI_1]
    · unfold mq_pass
      rw [am_gI_sI, if_neg (fun q => by omega), am_gI_sI, if_pos ⟨rfl, rfl, rfl⟩, e46, nI_add]
      rfl
    · unfold mq_pass mq_cb
      rw [am_gI_sI, if_neg (fun q => by omega), am_gI_sI, if_neg (fun q => by omega), am_gI_sI, if_neg (fun q => by omega), am_gI_sI, if_neg (fun q => by omega), am_gI_sI, if_pos ⟨rfl, rfl, rfl⟩]
    · unfold mq_pass mq_cb
      rw [am_gI_sI, if_neg (fun q => by omega), am_gI_sI, if_neg (fun q => by omega), am_gI_sI, if_neg (fun q => by omega), am_gI_sI, if_pos ⟨rfl, rfl, rfl⟩]
  · rw [am_gI_sI, if_pos ⟨rfl, rfl, rfl⟩]
/-- it goes on no more -/
theorem cb_stop {k : Nat} (hW : WS M j t w n i c dn un x) (hx : x = 1 ∨ x = 2 ∨ x = 3) (hk : am_gI M 918 0 (30 * t + n) = nI k) (hs : nI (i + 1) = mp_pv M t n ∨ ((k = 2 ∨ k = 3 ∨ k = 4 ∨ k = 7) ∧ ¬ (k = 4 ∨ k = 3 ∧ x = 2 ∨ (k = 2 ∨ k = 7) ∧ x = 1))) (hq : am_FQ l (0, fun _ => 0) 130 1 188 [some (.inr (.inr (some (8, 0)))), some (.inl (nI w)), some (.inl (nI n)), some (.inl (nI (30 * t + n))), some (.inl (nI (30 * j + n))), some (.inl x), none, none, some (.inl 0)] [] (mq_cb M w dn un x) (fun r' H'' => r' = none ∧ H'' = H')) : am_AX l 130 1 [.inr (.inr (some (8, 0)))] M none H' := by
  have hW' := hW
  obtain ⟨⟨hQ, hj, h49, h26, ht8⟩, h43, hw31, hn, -⟩ := hW
  by_cases hl : nI (i + 1) = mp_pv M t n
  · exact cb_A hW' hx (L := 1) (if_pos hl).symm (cb_B1 hq)
  · obtain ⟨hk4, hng⟩ := hs.resolve_left hl
    exact cb_A hW' hx (L := 0) (if_neg hl).symm (cb_B0 (g := 0) (k := k) (show sh_Q (mq_cb M w dn un x) from hQ) hn ht8 ((gI_cb (by decide) (by decide)).trans hk) hk4 hx (by rw [if_neg hng]) hq)
/-- what a MEMO or an AGAIN counts is set on both sides -/
theorem set_rel (hw : ∃ S, wf_P C S) (hn : n < 30) (ht1 : 1 ≤ tn (Ts t) n) (hk : Ts t 602 n = 6 ∨ Ts t 602 n = 7) (h : E0 C0 M0 C M D Ts Ns K Mt j t n w g) (hg : g' → ∃ p : Nat, v = nI p ∧ v' = nI p ∧ p < (Ts t 603 n).toNatClampNeg) : E0 C0 M0 (am_sI C 204 j n v) (am_sI M 932 0 (30 * j + n) v') D Ts Ns K Mt j t n w g' := by
  have hC : CF C (am_sI C 204 j n v) j := CF_x CF_r (by omega)
  have hM : MF M (am_sI M 932 0 (30 * j + n) v') j := MF_x MF_r (by omega)
  have h1 := h.1
  have n0 : ¬ Ts t 602 n = 0 := by rcases hk with q | q <;> rw [q] <;> decide
  have n9 : ¬ Ts t 602 n = 9 := by rcases hk with q | q <;> rw [q] <;> decide
  refine E0_op hw h (GS_of hC hM h1 (R_W_cg h1.1 rfl rfl (fun _ => rfl) (fun _ => rfl) (fun _ => rfl) (fun _ => rfl) (fun _ => rfl) (fun _ => rfl)) h1.2.2.1 h1.2.2.2.1 h1.2.2.2.2.1) hC hM (fun k hk => ⟨⟨fun a q1 q2 q3 => ?_, fun i hi => ?_⟩, ⟨fun a q1 q2 q3 => ?_, fun i hi => ?_, ?_⟩⟩) (fun a i q1 q2 _ => ?_) ?_ ht1
  · rw [am_gI_sI, if_neg (fun q => by omega)]
  · rw [am_gI_sI, if_neg (fun q => by omega)]
  · rw [am_gI_sI, if_neg (fun q => by omega)]
  · rw [am_gI_sI, if_neg (fun q => by omega)]
  · rw [am_gI_sI, if_neg (fun q => by omega)]
  · rw [am_gI_sI, if_neg (fun q => by omega)]
  · obtain ⟨⟨a1, a2, a3, a4, a5⟩, b2, b3, b4⟩ := h.2.2.2.2.2.2
    refine ⟨⟨?_, Or.inl ?_, fun z => absurd z n9, fun _ z => ?_, fun z1 z2 _ => absurd hk (fun q => q.elim z1 z2)⟩, ?_, ?_, ?_⟩
    · rw [am_gI_sI, if_neg (fun q => by omega), am_gI_sI, if_neg (fun q => by omega)]; exact a1
    · rw [am_gI_sI, if_neg (fun q => by omega), am_gI_sI, if_neg (fun q => by omega)]
      rcases a2 with q | ⟨-, -, -, q | ⟨q, -⟩⟩
      · exact q
      · exact absurd q n0
      · exact absurd q n9
    · obtain ⟨p, p1, p2, p3⟩ := hg z
      exact ⟨p, by rw [am_gI_sI, if_pos ⟨rfl, rfl, rfl⟩, p1], by rw [am_gI_sI, if_pos ⟨rfl, rfl, rfl⟩, p2], p3⟩
    · rw [am_gI_sI, if_neg (fun q => by omega), am_gI_sI, if_neg (fun q => by omega)]; exact b2
    · rw [am_gI_sI, if_neg (fun q => by omega)]; exact b3
    · rw [am_gI_sI, if_neg (fun q => by omega)]; exact b4
theorem set_rel2 (hw : ∃ S, wf_P C S) (hn : n < 30) (ht1 : 1 ≤ tn (Ts t) n) (hk : Ts t 602 n = 6 ∨ Ts t 602 n = 7) (h : E0 C0 M0 C M D Ts Ns K Mt j t n w g) : E0 C0 M0 C (am_sI M 932 0 (30 * j + n) v') D Ts Ns K Mt j t n w False := by
  have h2 := set_rel (v := am_gI C 204 j n) (v' := v') (g' := False) hw hn ht1 hk h (fun z => z.elim)
  have e : am_sI C 204 j n (am_gI C 204 j n) = C := by
    refine am_Heq (fun a b c => ?_) (fun _ _ _ => rfl) (fun _ _ _ => rfl) rfl
    rw [am_gI_sI]
    split
    · rename_i q
      obtain ⟨rfl, rfl, rfl⟩ := q
      rfl
    · rfl
  rw [e] at h2
  exact h2
theorem pop_rel (hw : ∃ S, wf_P C S) (ht1 : 1 ≤ tn (Ts t) n) (h : E0 C0 M0 C M D Ts Ns K Mt j t n w g) : E0 C0 M0 C (am_sI M 8 0 43 (nI w)) D Ts Ns K Mt j t n w g ∧ am_gI (am_sI M 8 0 43 (nI w)) 8 0 43 = nI w :=
  ⟨LF_E0 (LF_x LF_r (by omega)) hw ht1 h, by rw [am_gI_sI, if_pos ⟨rfl, rfl, rfl⟩]⟩
end SI7
