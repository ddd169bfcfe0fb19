/-! ===== a tick on both sides: nodes with parts ===== -/
section SI8
variable {l : Launch} {C0 M0 C M C' M' H' Me : am_H} {D : Nat → Nat → Int32} {Ts : Nat → Nat → Nat → Int32} {Ns : Nat → Nat} {K Mt j t n k w i c e A S p dg dd : Nat} {g g' : Prop} {x y dn un v v' : Int32} {g0 : am_G} {sc : am_SC} {Q : Option am_V → am_H → Prop}
theorem child_step (hF : FT Ts Ns K Mt j t) (hn : n < Ns t) (hdd : 6 ≤ dd) (hwn : w ≤ n) (IH : ∀ c, n < c → c < Ns t → SIM l g0 D Ts Ns K Mt j t c) (hg0 : ∀ c, n < c → c < Ns t → am_gOk l j t (Ns t) K (Ts t) g0 dg c) (hC : CI C j t (Ns t) K (Ts t) A S) (hA : A + (n + tn (Ts t) n - tc (Ts t) n i) ≤ 1000) (hSb : S + (n + tn (Ts t) n - tc (Ts t) n i) ≤ 1073741824) (hm : MI C0 M0 C M D Ts Ns K Mt j t n w i dn un True) (hfr : ∀ k, tc (Ts t) n i ≤ k → k < n + tn (Ts t) n → am_gI C 208 j k = 0) (h51 : am_gI M 8 0 51 = nI (tc (Ts t) n i)) (hi : i < tp (Ts t) n)
    (hq : ∀ M', MI C0 M0 (g0 C (tc (Ts t) n i)).2 M' D Ts Ns K Mt j t n w i dn un True → (∀ k, tc (Ts t) n (i + 1) ≤ k → k < n + tn (Ts t) n → am_gI (g0 C (tc (Ts t) n i)).2 208 j k = 0) → (∃ A' S', A' + (n + tn (Ts t) n - tc (Ts t) n (i + 1)) ≤ 1000 ∧ S' + (n + tn (Ts t) n - tc (Ts t) n (i + 1)) ≤ 1073741824 ∧ CI (g0 C (tc (Ts t) n i)).2 j t (Ns t) K (Ts t) A' S') → am_gI M' 8 0 50 = (g0 C (tc (Ts t) n i)).1 → am_gI M' 8 0 51 = -4 → ((g0 C (tc (Ts t) n i)).1 = 1 ∨ (g0 C (tc (Ts t) n i)).1 = 2 ∨ (g0 C (tc (Ts t) n i)).1 = 3) → am_FQ l sc 115 dd 57 [some (.inr (.inr (some (8, 0)))), none, none] [] M' Q) : am_FQ l sc 115 dd 57 [some (.inr (.inr (some (8, 0)))), none, none] [] M Q := by
  obtain ⟨f1, f2, f3, f4, f5, f6⟩ := hF
  have hN30 := f3 t f1
  have hw := f5.2.2.2.2 n hn
  have hwb := hw.1.2.2
  obtain ⟨hcN, -⟩ := hw.2.2.1 i hi
  have hgt : n + 1 ≤ tc (Ts t) n i := tc_gt i
  have hwc := f5.2.2.2.2 _ hcN
  have hc1 := hwc.1.1
  have hnext : tc (Ts t) n i + tn (Ts t) (tc (Ts t) n i) = tc (Ts t) n (i + 1) := rfl
  have hle : tc (Ts t) n (i + 1) ≤ n + tn (Ts t) n := by
    have h := tc_mono (T := Ts t) (n := n) (tp (Ts t) n - (i + 1)) (i + 1)
    rw [show i + 1 + (tp (Ts t) n - (i + 1)) = tp (Ts t) n by omega, hw.2.1] at h
    exact h
  refine IH (tc (Ts t) n i) (by omega) hcN C M A S (w + 1) sc dd Q hdd hC (by omega) (by omega) hm.1.1 (fun k hk hk2 => ⟨hm.1.2.2.2.2.2.1 k (by omega) (by omega), hfr k hk (by omega)⟩) h51 hm.2.1 (by omega) (fun M' hs => ?_)
  obtain ⟨-, hC2⟩ := hg0 (tc (Ts t) n i) (by omega) hcN C A S 0 hC hcN (Nat.zero_le _) (by omega) (by omega)
  refine hq M' (child_rel (wP_CI hC) hm hs (by omega) (by omega) (by omega) hc1) (fun k hk hk2 => ?_) ⟨_, _, ?_, ?_, hC2⟩ hs.2.2.2.2.2.2.2.1 hs.2.2.2.2.2.2.2.2.1 hs.2.2.2.2.2.2.1
  · rw [(hs.2.2.2.1 k (by omega) (by omega)).1.1 208 (by decide) (by decide) (by decide)]
    exact hfr k (by omega) hk2
  · omega
  · omega
/-- the last part has answered: the node answers -/
theorem end_step (hF : FT Ts Ns K Mt j t) (hn : n < Ns t) (hw31 : w < 31) (hdd : 6 ≤ dd) (hwp : ∃ S, wf_P C S) (hC : CI C j t (Ns t) K (Ts t) A S) (hA : A ≤ 1000) (h43 : am_gI M 8 0 43 = nI (w + 1)) (h51 : am_gI M 8 0 51 = -4) (hE : E0 C0 M0 C Me D Ts Ns K Mt j t n w g) (hax : ∀ H', am_AX l 120 0 [.inr (.inr (some (8, 0))), .inl (nI n), .inl y] (am_sI Me 8 0 43 (nI w)) none H' → am_AX l 130 1 [.inr (.inr (some (8, 0)))] M none H') (hg : y = 3 → g) (hy : y = 1 ∨ y = 2 ∨ y = 3) (hq : ∀ M', SP C0 M0 (sp_note C j n y) M' D Ts Ns K Mt j t n w y → am_FQ l sc 115 dd 57 [some (.inr (.inr (some (8, 0)))), none, none] [] M' Q) : am_FQ l sc 115 dd 57 [some (.inr (.inr (some (8, 0)))), none, none] [] M Q := by
  obtain ⟨f1, f2, f3, f4, f5, f6⟩ := hF
  have hN30 := f3 t f1
  have ht1 := (f5.2.2.2.2 n hn).1.1
  obtain ⟨e1, e2⟩ := pop_rel hwp ht1 hE
  obtain ⟨a, a1, a2⟩ := log_CI e1.1 hC hA
  have han := m_answers (l := l) (x := y) e1.1.2.2.2.2.2.1 f4 e1.1.2.2.2.2.2.2.1 (show n < 30 by omega) a2 a1
  exact tk_c hw31 h51 h43 (hax _ han) hdd (hq _ (SP_end hwp e1 e2 (by omega) ht1 hg hy))
theorem turn_stop {kk : Nat} {mem : Bool} {go : Int32} (hF : FT Ts Ns K Mt j t) (hn : n < Ns t) (hw31 : w < 31) (hdd : 6 ≤ dd) (hk : Ts t 602 n = nI kk) (hkk : kk = 2 ∧ mem = false ∧ go = 1 ∨ kk = 3 ∧ mem = false ∧ go = 2 ∨ kk = 7 ∧ mem = true ∧ go = 1) (hC : CI C j t (Ns t) K (Ts t) A S) (hA : A ≤ 1000) (hm : MI C0 M0 C M D Ts Ns K Mt j t n w i dn un True) (hi : i < tp (Ts t) n) (h50 : am_gI M 8 0 50 = x) (h51 : am_gI M 8 0 51 = -4) (hx : x = 1 ∨ x = 2 ∨ x = 3) (hst : i + 1 = tp (Ts t) n ∨ ¬ x = go)
    (hq : ∀ M', SP C0 M0 (sp_note (if mem = true ∧ x = 3 then (3, am_sI C 204 j n (nI i)) else (x, C)).2 j n (if mem = true ∧ x = 3 then (3, am_sI C 204 j n (nI i)) else (x, C)).1) M' D Ts Ns K Mt j t n w (if mem = true ∧ x = 3 then (3, am_sI C 204 j n (nI i)) else (x, C)).1 → am_FQ l sc 115 dd 57 [some (.inr (.inr (some (8, 0)))), none, none] [] M' Q) : am_FQ l sc 115 dd 57 [some (.inr (.inr (some (8, 0)))), none, none] [] M Q := by
  have hF' := hF
  obtain ⟨f1, f2, f3, f4, f5, f6⟩ := hF
  have hN30 := f3 t f1
  have hw := f5.2.2.2.2 n hn
  have ht1 := hw.1.1
  obtain ⟨hcN, -⟩ := hw.2.2.1 i hi
  have hkT : Ts t 602 n = 2 ∨ Ts t 602 n = 3 ∨ Ts t 602 n = 4 ∨ Ts t 602 n = 7 := by
    rw [hk]
    rcases hkk with ⟨rfl, -⟩ | ⟨rfl, -⟩ | ⟨rfl, -⟩
    · exact Or.inl rfl
    · exact Or.inr (Or.inl rfl)
    · exact Or.inr (Or.inr (Or.inr rfl))
  obtain ⟨hpv, hp6, -⟩ := pv_tp hm.1.1 hn f5 hkT
  have hWS := WS_of hF' hm hn hw31 hcN (by omega) h50
  obtain ⟨mQ, m49, m26, m17, mT⟩ := hm.1.1.2.2.2.2.2
  have t2 := (mT n hn).1
  have t2c : am_gI (mq_cb M w dn un x) 918 0 (30 * t + n) = nI kk := (gI_cb (by decide) (by decide)).trans (t2.trans hk)
  have h43c : am_gI (mq_cb M w dn un x) 8 0 43 = nI (w + 1) := (gI_cb (by decide) (by decide)).trans hm.2.1
  have hs : nI (i + 1) = mp_pv M t n ∨ ((kk = 2 ∨ kk = 3 ∨ kk = 4 ∨ kk = 7) ∧ ¬ (kk = 4 ∨ kk = 3 ∧ x = 2 ∨ (kk = 2 ∨ kk = 7) ∧ x = 1)) := by
    rcases hst with q | q
    · left; rw [hpv, q]
    · right
      rcases hkk with ⟨rfl, -, rfl⟩ | ⟨rfl, -, rfl⟩ | ⟨rfl, -, rfl⟩
      · exact ⟨by omega, fun z => by rcases z with z | ⟨z, -⟩ | ⟨-, z⟩ <;> first | omega | exact q z⟩
      · exact ⟨by omega, fun z => by rcases z with z | ⟨-, z⟩ | ⟨z | z, -⟩ <;> first | omega | exact q z⟩
      · exact ⟨by omega, fun z => by rcases z with z | ⟨z, -⟩ | ⟨-, z⟩ <;> first | omega | exact q z⟩
  have hE : E0 C0 M0 C (mq_cb M w dn un x) D Ts Ns K Mt j t n w True := LF_E0 cb_LF (wP_CI hC) ht1 hm.1
  have x3 : (kk = 2 ∨ kk = 3) ∧ mem = false ∨ kk = 7 ∧ mem = true := by
    rcases hkk with ⟨q1, q2, -⟩ | ⟨q1, q2, -⟩ | ⟨q1, q2, -⟩
    · exact Or.inl ⟨Or.inl q1, q2⟩
    · exact Or.inl ⟨Or.inr q1, q2⟩
    · exact Or.inr ⟨q1, q2⟩
  rcases x3 with ⟨q1, rfl⟩ | ⟨rfl, rfl⟩
  · rw [if_neg (fun z => by cases z.1)] at hq
    refine end_step hF' hn hw31 hdd (wP_CI hC) hC hA hm.2.1 h51 hE (fun H' han => ?_) (fun _ => trivial) hx hq
    exact cb_stop hWS hx (t2.trans hk) hs (cb_C_x (k := kk) (show sh_Q (mq_cb M w dn un x) from mQ) (by omega) (by omega) t2c (by omega) (cb_D (Nat.le_refl 1) h43c han ⟨rfl, rfl⟩))
  · have e45 : am_gI (mq_cb M w dn un x) 945 0 w = nI i := (gI_cb (by decide) (by decide)).trans hm.2.2.2.1
    have hk67 : Ts t 602 n = 6 ∨ Ts t 602 n = 7 := Or.inr hk
    have h43m : ∀ v, am_gI (am_sI (mq_cb M w dn un x) 932 0 (30 * j + n) v) 8 0 43 = nI (w + 1) := fun v => by
      rw [am_gI_sI, if_neg (fun q => by omega)]
      exact h43c
    have haxm : ∀ H', am_AX l 120 0 [.inr (.inr (some (8, 0))), .inl (nI n), .inl x] (am_sI (am_sI (mq_cb M w dn un x) 932 0 (30 * j + n) (nI i)) 8 0 43 (nI w)) none H' → am_AX l 130 1 [.inr (.inr (some (8, 0)))] M none H' := fun H' han => cb_stop hWS hx (t2.trans hk) hs (cb_C_m (show sh_Q (mq_cb M w dn un x) from mQ) (by omega) f4 (by omega) t2c hw31 e45 (cb_D (Nat.le_refl 1) (h43m _) han ⟨rfl, rfl⟩))
    by_cases hx3 : x = 3
    · subst hx3
      rw [if_pos ⟨rfl, rfl⟩] at hq
      have hE2 := set_rel (v := nI i) (v' := nI i) (g' := True) (wP_CI hC) (show n < 30 by omega) ht1 hk67 hE (fun _ => ⟨i, rfl, rfl, by
        have : tp (Ts t) n = (Ts t 603 n).toNatClampNeg := by
          unfold tp
          rw [if_pos hkT]
        omega⟩)
      have hC2 : CI (am_sI C 204 j n (nI i)) j t (Ns t) K (Ts t) A S := CI_sI (by decide) hC
      exact end_step hF' hn hw31 hdd (wP_CI hC2) hC2 hA hm.2.1 h51 hE2 haxm (fun _ => trivial) hx hq
    · rw [if_neg (fun z => hx3 z.2)] at hq
      have hE2 := set_rel2 (v' := nI i) (wP_CI hC) (show n < 30 by omega) ht1 hk67 hE
      exact end_step hF' hn hw31 hdd (wP_CI hC) hC hA hm.2.1 h51 hE2 haxm (fun z => hx3 z) hx hq
theorem turn_loop {kk p0 : Nat} {mem : Bool} {go first : Int32} (hF : FT Ts Ns K Mt j t) (hn : n < Ns t) (hw31 : w < 31) (hwn : w ≤ n) (hdd : 6 ≤ dd) (hk : Ts t 602 n = nI kk) (hkk : kk = 2 ∧ mem = false ∧ go = 1 ∨ kk = 3 ∧ mem = false ∧ go = 2 ∨ kk = 7 ∧ mem = true ∧ go = 1) (IH : ∀ c, n < c → c < Ns t → SIM l g0 D Ts Ns K Mt j t c) (hg0 : ∀ c, n < c → c < Ns t → am_gOk l j t (Ns t) K (Ts t) g0 dg c) (hf : ∀ i, p0 ≤ i → i < 30 → ¬ nI i < first) :
    ∀ m i (C M : am_H) (A S : Nat) (dn un : Int32), p0 ≤ i → i + (m + 1) = tp (Ts t) n → CI C j t (Ns t) K (Ts t) A S → A + (n + tn (Ts t) n - tc (Ts t) n i) ≤ 1000 → S + (n + tn (Ts t) n - tc (Ts t) n i) ≤ 1073741824 → MI C0 M0 C M D Ts Ns K Mt j t n w i dn un True → (∀ k, tc (Ts t) n i ≤ k → k < n + tn (Ts t) n → am_gI C 208 j k = 0) → am_gI M 8 0 51 = nI (tc (Ts t) n i) → (∀ M', SP C0 M0 (sp_note (sp_tL g0 (Ts t) j n mem first go (m + 1) i go C).2 j n (sp_tL g0 (Ts t) j n mem first go (m + 1) i go C).1) M' D Ts Ns K Mt j t n w (sp_tL g0 (Ts t) j n mem first go (m + 1) i go C).1 → am_FQ l sc 115 dd 57 [some (.inr (.inr (some (8, 0)))), none, none] [] M' Q) → am_FQ l sc 115 dd 57 [some (.inr (.inr (some (8, 0)))), none, none] [] M Q := by
  have hkT : Ts t 602 n = 2 ∨ Ts t 602 n = 3 ∨ Ts t 602 n = 4 ∨ Ts t 602 n = 7 := by
    rw [hk]
    rcases hkk with ⟨rfl, -⟩ | ⟨rfl, -⟩ | ⟨rfl, -⟩
    · exact Or.inl rfl
    · exact Or.inr (Or.inl rfl)
    · exact Or.inr (Or.inr (Or.inr rfl))
  intro m
  induction m with
  | zero =>
    intro i C M A S dn un hp0 hi hC hA hSb hm hfr h51 hq
    obtain ⟨-, hp6, -⟩ := pv_tp hm.1.1 hn hF.2.2.2.2.1 hkT
    refine child_step hF hn hdd hwn IH hg0 hC hA hSb hm hfr h51 (by omega) (fun M' hm' hfr' hC' h50' h51' hx' => ?_)
    obtain ⟨A', S', hA', -, hC'⟩ := hC'
    refine turn_stop hF hn hw31 hdd hk hkk hC' (by omega) hm' (by omega) h50' h51' hx' (Or.inl (by omega)) ?_
    have e : sp_tL g0 (Ts t) j n mem first go (0 + 1) i go C = if mem = true ∧ (g0 C (tc (Ts t) n i)).1 = 3 then (3, am_sI (g0 C (tc (Ts t) n i)).2 204 j n (nI i)) else ((g0 C (tc (Ts t) n i)).1, (g0 C (tc (Ts t) n i)).2) := by
      show (if go = go then (if nI i < first then _ else if mem = true ∧ (g0 C (tc (Ts t) n i)).1 = 3 then (3, am_sI (g0 C (tc (Ts t) n i)).2 204 j n (nI i)) else ((g0 C (tc (Ts t) n i)).1, (g0 C (tc (Ts t) n i)).2)) else _) = _
      rw [if_pos rfl, if_neg (hf i hp0 (by omega))]
    rw [e] at hq
    exact hq
  | succ m ih =>
    intro i C M A S dn un hp0 hi hC hA hSb hm hfr h51 hq
    obtain ⟨-, hp6, -⟩ := pv_tp hm.1.1 hn hF.2.2.2.2.1 hkT
    have e : sp_tL g0 (Ts t) j n mem first go (m + 1 + 1) i go C = if mem = true ∧ (g0 C (tc (Ts t) n i)).1 = 3 then sp_tL g0 (Ts t) j n mem first go (m + 1) (i + 1) 3 (am_sI (g0 C (tc (Ts t) n i)).2 204 j n (nI i)) else sp_tL g0 (Ts t) j n mem first go (m + 1) (i + 1) (g0 C (tc (Ts t) n i)).1 (g0 C (tc (Ts t) n i)).2 := by
      show (if go = go then (if nI i < first then _ else if mem = true ∧ (g0 C (tc (Ts t) n i)).1 = 3 then sp_tL g0 (Ts t) j n mem first go (m + 1) (i + 1) 3 (am_sI (g0 C (tc (Ts t) n i)).2 204 j n (nI i)) else sp_tL g0 (Ts t) j n mem first go (m + 1) (i + 1) (g0 C (tc (Ts t) n i)).1 (g0 C (tc (Ts t) n i)).2) else _) = _
      rw [if_pos rfl, if_neg (hf i hp0 (by omega))]
    rw [e] at hq
    have g3 : ¬ (3 : Int32) = go := by rcases hkk with ⟨-, -, rfl⟩ | ⟨-, -, rfl⟩ | ⟨-, -, rfl⟩ <;> decide
    refine child_step hF hn hdd hwn IH hg0 hC hA hSb hm hfr h51 (by omega) (fun M' hm' hfr' hC' h50' h51' hx' => ?_)
    obtain ⟨A', S', hA', hS', hC'⟩ := hC'
    generalize g0 C (tc (Ts t) n i) = y at *
    by_cases hgo : y.1 = go
    · rw [if_neg (fun z => g3 (z.2.symm.trans hgo)), hgo] at hq
      have hstep : kk = 4 ∨ kk = 3 ∧ y.1 = 2 ∨ (kk = 2 ∨ kk = 7) ∧ y.1 = 1 := by
        rw [hgo]
        rcases hkk with ⟨q, -, rfl⟩ | ⟨q, -, rfl⟩ | ⟨q, -, rfl⟩
        · exact Or.inr (Or.inr ⟨Or.inl q, rfl⟩)
        · exact Or.inr (Or.inl ⟨q, rfl⟩)
        · exact Or.inr (Or.inr ⟨Or.inr q, rfl⟩)
      exact go_step hF (wP_CI hC') hdd hn hw31 hm' h50' h51' hx' hk hstep (by omega) (fun M2 hm2 h512 => ih (i + 1) y.2 M2 A' S' _ _ (by omega) (by omega) hC' hA' hS' hm2 hfr' h512 hq)
    · refine turn_stop hF hn hw31 hdd hk hkk hC' (by omega) hm' (by omega) h50' h51' hx' (Or.inr hgo) ?_
      have e2 : (if mem = true ∧ y.1 = 3 then sp_tL g0 (Ts t) j n mem first go (m + 1) (i + 1) 3 (am_sI y.2 204 j n (nI i)) else sp_tL g0 (Ts t) j n mem first go (m + 1) (i + 1) y.1 y.2) = if mem = true ∧ y.1 = 3 then (3, am_sI y.2 204 j n (nI i)) else (y.1, y.2) := by
        have z1 : sp_tL g0 (Ts t) j n mem first go (m + 1) (i + 1) 3 (am_sI y.2 204 j n (nI i)) = (3, am_sI y.2 204 j n (nI i)) := by
          show (if (3 : Int32) = go then _ else (3, am_sI y.2 204 j n (nI i))) = _
          rw [if_neg g3]
        have z2 : sp_tL g0 (Ts t) j n mem first go (m + 1) (i + 1) y.1 y.2 = (y.1, y.2) := by
          show (if y.1 = go then _ else (y.1, y.2)) = _
          rw [if_neg hgo]
        rw [z1, z2]
      rw [e2] at hq
      exact hq
end SI8
