/-! ===== a tick on both sides: every node ===== -/
section SI9
variable {l : Launch} {C0 M0 C M C' M' H' Me : am_H} {D : Nat → Nat → Int32} {Ts : Nat → Nat → Nat → Int32} {Ns : Nat → Nat} {K Mt j t n k w i c e A S p dg dd : Nat} {g g' : Prop} {x y dn un v v' : Int32} {g0 : am_G} {sc : am_SC} {Q : Option am_V → am_H → Prop}
theorem tL_skip {T : Nat → Nat → Int32} {mem : Bool} {go : Int32} {p0 : Nat} (hp : p0 < 30) : ∀ d i m, i + d = p0 → sp_tL g0 T j n mem (nI p0) go (d + m) i go C = sp_tL g0 T j n mem (nI p0) go m p0 go C := by
  intro d
  induction d with
  | zero =>
    intro i m h
    have : i = p0 := by omega
    subst this
    rw [Nat.zero_add]
  | succ d ih =>
    intro i m h
    rw [show d + 1 + m = (d + m) + 1 by omega]
    show (if go = go then (if nI i < nI p0 then sp_tL g0 T j n mem (nI p0) go (d + m) (i + 1) go C else _) else _) = _
    rw [if_pos rfl, if_pos ((nI_ltI (by omega) (by omega)).mpr (show i < p0 by omega))]
    exact ih (i + 1) m (by omega)
/-- a node begins to wait for its part p -/
theorem begin_wait (hF : FT Ts Ns K Mt j t) (hn : n < Ns t) (hwn : w ≤ n) (hdd : 6 ≤ dd) (hC : CI C j t (Ns t) K (Ts t) A S) (hE : E0 C M C0 (mq_bg M j n) D Ts Ns K Mt j t n w g) (hV : ∃ S, wf_P C0 S) (h43 : am_gI M 8 0 43 = nI w) (h51 : am_gI M 8 0 51 = nI n) (hp : p < tp (Ts t) n) (hb : ∀ H', am_AX l 128 1 [.inr (.inr (some (8, 0))), .inl (nI n), .inl (nI p)] (mq_bg M j n) none H' → am_AX l 116 5 [.inr (.inr (some (8, 0))), .inl (nI n)] M none H') (hq : ∀ M', MI C M C0 M' D Ts Ns K Mt j t n w p 0 0 g → am_gI M' 8 0 51 = nI (tc (Ts t) n p) → am_FQ l sc 115 dd 57 [some (.inr (.inr (some (8, 0)))), none, none] [] M' Q) : am_FQ l sc 115 dd 57 [some (.inr (.inr (some (8, 0)))), none, none] [] M Q := by
  obtain ⟨f1, f2, f3, f4, f5, f6⟩ := hF
  have hN30 := f3 t f1
  have hw := f5.2.2.2.2 n hn
  have ht1 := hw.1.1
  have htp := tp_le f5 hn
  have hwb := hw.1.2.2
  obtain ⟨mQ, m49, m26, m17, mT⟩ := hE.1.2.2.2.2.2
  have hwt := m_waitsFor (l := l) (H := mq_bg M j n) (T := Ts t) (w := w) (n := n) (p := p) mQ f4 m49 m26 (by omega) (by rw [bg_43]; exact h43) (by omega) (by omega) (by omega) (fun i hi => by
    obtain ⟨hcN, -⟩ := hw.2.2.1 i (by omega)
    exact ⟨by omega, ((mT _ hcN).2.2.2.2.2).trans (f5.2.2.2.2 _ hcN).1.2.1⟩)
  refine tk_b (by omega) h51 (hb _ hwt) hdd (hq _ (wait_rel hV ht1 hE) ?_)
  rw [am_gI_sI, if_pos ⟨rfl, rfl, rfl⟩]
theorem tc_e (hT : wf_T (Ts t) (Ns t) K) (hn : n < Ns t) : ∀ p, p ≤ tp (Ts t) n → n + 1 ≤ tc (Ts t) n p ∧ tc (Ts t) n p ≤ n + tn (Ts t) n := by
  intro p hp
  have hw := hT.2.2.2.2 n hn
  have h := tc_mono (T := Ts t) (n := n) (tp (Ts t) n - p) p
  rw [show p + (tp (Ts t) n - p) = tp (Ts t) n by omega, hw.2.1] at h
  exact ⟨tc_gt p, h⟩
set_option maxHeartbeats 1000000 in
theorem sim_turn {pl : am_G} {kk : Nat} (hF : FT Ts Ns K Mt j t) (hn : n < Ns t) (hk : Ts t 602 n = nI kk) (hkk : kk = 2 ∨ kk = 3 ∨ kk = 7) (IH : ∀ c, n < c → c < Ns t → SIM l g0 D Ts Ns K Mt j t c) (hg0 : ∀ c, n < c → c < Ns t → am_gOk l j t (Ns t) K (Ts t) g0 dg c) : SIM l (fun H n => ((sp_ans pl g0 (Ts t) H j t n).1, sp_note (sp_ans pl g0 (Ts t) H j t n).2 j n (sp_ans pl g0 (Ts t) H j t n).1)) D Ts Ns K Mt j t n := by
  intro C M A S w sc dd Q hdd hC hA hSb hS hX h51 h43 hwn hQ
  dsimp only at hQ
  have hF' := hF
  obtain ⟨f1, f2, f3, f4, f5, f6⟩ := hF
  have hN30 := f3 t f1
  have hw := f5.2.2.2.2 n hn
  have ht1 := hw.1.1
  have hn30 : n < 30 := by omega
  have e0 := bg_rel (w := w) hS hn30 ht1 hX
  have hB := BH_of hS hF' hn
  have t2' := (hS.2.2.2.2.2.2.2.2.2 n hn).1
  have hkT : Ts t 602 n = 2 ∨ Ts t 602 n = 3 ∨ Ts t 602 n = 4 ∨ Ts t 602 n = 7 := by
    rw [hk]
    rcases hkk with rfl | rfl | rfl
    · exact Or.inl rfl
    · exact Or.inr (Or.inl rfl)
    · exact Or.inr (Or.inr (Or.inr rfl))
  obtain ⟨-, hp6, hp1⟩ := pv_tp hS hn f5 hkT
  have key : ∀ (p : Nat) (mem : Bool) (go first : Int32), p < tp (Ts t) n → (kk = 2 ∧ mem = false ∧ go = 1 ∨ kk = 3 ∧ mem = false ∧ go = 2 ∨ kk = 7 ∧ mem = true ∧ go = 1) → (∀ i, p ≤ i → i < 30 → ¬ nI i < first) → (∀ H', am_AX l 128 1 [.inr (.inr (some (8, 0))), .inl (nI n), .inl (nI p)] (mq_bg M j n) none H' → am_AX l 116 5 [.inr (.inr (some (8, 0))), .inl (nI n)] M none H') → sp_ans pl g0 (Ts t) C j t n = sp_tL g0 (Ts t) j n mem first go (tp (Ts t) n - p - 1 + 1) p go C → am_FQ l sc 115 dd 57 [some (.inr (.inr (some (8, 0)))), none, none] [] M Q := by
    intro p mem go first hp hm hf hb hx
    obtain ⟨z1, z2⟩ := tc_e f5 hn p (by omega)
    refine begin_wait hF' hn hwn hdd hC e0 (wP_CI hC) h43 h51 hp hb (fun M' hm' h51' => ?_)
    rw [hx] at hQ
    exact turn_loop hF' hn (by omega) hwn hdd hk hm IH hg0 hf (tp (Ts t) n - p - 1) p C M' A S 0 0 (Nat.le_refl p) (by omega) hC (by omega) (by omega) hm' (fun k q1 q2 => (hX k (by omega) q2).2) h51' hQ
  rcases hkk with rfl | rfl | rfl
  · refine key 0 false 1 0 (by omega) (Or.inl ⟨rfl, rfl, rfl⟩) (fun i _ hi => nI_pos (by omega)) (fun H' hwt => bg_wait (k := 2) hB (t2'.trans hk) (by omega) hwt) ?_
    unfold sp_ans sp_turn
    rw [hk, show tp (Ts t) n - 0 - 1 + 1 = tp (Ts t) n by omega]
    rfl
  · refine key 0 false 2 0 (by omega) (Or.inr (Or.inl ⟨rfl, rfl, rfl⟩)) (fun i _ hi => nI_pos (by omega)) (fun H' hwt => bg_wait (k := 3) hB (t2'.trans hk) (by omega) hwt) ?_
    unfold sp_ans sp_turn
    rw [hk, show tp (Ts t) n - 0 - 1 + 1 = tp (Ts t) n by omega]
    rfl
  · obtain ⟨p, p1, p2, p3⟩ := (hX n (Nat.le_refl n) (by omega)).1.1.2.2.2.1 (Or.inr hk) (Or.inl (hX n (Nat.le_refl n) (by omega)).2)
    have hpt : p < tp (Ts t) n := by
      unfold tp
      rw [if_pos hkT]
      exact p3
    refine key p true 1 (nI p) hpt (Or.inr (Or.inr ⟨rfl, rfl, rfl⟩)) (fun i hi hi2 => nI_nlt hi (by omega)) (fun H' hwt => bg_memo hB (t2'.trans hk) p2 hwt) ?_
    have hsk := tL_skip (g0 := g0) (j := j) (n := n) (C := C) (T := Ts t) (mem := true) (go := 1) (p0 := p) (by omega) p 0 (tp (Ts t) n - p) (Nat.zero_add p)
    rw [show p + (tp (Ts t) n - p) = tp (Ts t) n by omega] at hsk
    rw [show tp (Ts t) n - p - 1 + 1 = tp (Ts t) n - p by omega, ← hsk]
    unfold sp_ans sp_turn
    rw [hk, p1]
    rfl
theorem bA_v {b dn un : Int32} : sp_bA b dn un = 1 ∨ sp_bA b dn un = 2 ∨ sp_bA b dn un = 3 := by
  unfold sp_bA
  split
  · exact Or.inl rfl
  · split
    · exact Or.inr (Or.inl rfl)
    · exact Or.inr (Or.inr rfl)
theorem bes_loop (hF : FT Ts Ns K Mt j t) (hn : n < Ns t) (hw31 : w < 31) (hwn : w ≤ n) (hdd : 6 ≤ dd) (hk : Ts t 602 n = 4) (IH : ∀ c, n < c → c < Ns t → SIM l g0 D Ts Ns K Mt j t c) (hg0 : ∀ c, n < c → c < Ns t → am_gOk l j t (Ns t) K (Ts t) g0 dg c) :
    ∀ m i (C M : am_H) (A S : Nat) (dn un : Int32), i + (m + 1) = tp (Ts t) n → CI C j t (Ns t) K (Ts t) A S → A + (n + tn (Ts t) n - tc (Ts t) n i) ≤ 1000 → S + (n + tn (Ts t) n - tc (Ts t) n i) ≤ 1073741824 → MI C0 M0 C M D Ts Ns K Mt j t n w i dn un True → (∀ k, tc (Ts t) n i ≤ k → k < n + tn (Ts t) n → am_gI C 208 j k = 0) → am_gI M 8 0 51 = nI (tc (Ts t) n i) → (∀ M', SP C0 M0 (sp_note (sp_bL g0 (Ts t) n (m + 1) i dn un C).2.2 j n (sp_bA (Ts t 604 n) (sp_bL g0 (Ts t) n (m + 1) i dn un C).1 (sp_bL g0 (Ts t) n (m + 1) i dn un C).2.1)) M' D Ts Ns K Mt j t n w (sp_bA (Ts t 604 n) (sp_bL g0 (Ts t) n (m + 1) i dn un C).1 (sp_bL g0 (Ts t) n (m + 1) i dn un C).2.1) → am_FQ l sc 115 dd 57 [some (.inr (.inr (some (8, 0)))), none, none] [] M' Q) → am_FQ l sc 115 dd 57 [some (.inr (.inr (some (8, 0)))), none, none] [] M Q := by
  have hF' := hF
  obtain ⟨f1, f2, f3, f4, f5, f6⟩ := hF
  have hN30 := f3 t f1
  have hw := f5.2.2.2.2 n hn
  have ht1 := hw.1.1
  have hkT : Ts t 602 n = 2 ∨ Ts t 602 n = 3 ∨ Ts t 602 n = 4 ∨ Ts t 602 n = 7 := Or.inr (Or.inr (Or.inl hk))
  intro m
  induction m with
  | zero =>
    intro i C M A S dn un hi hC hA hSb hm hfr h51 hq
    refine child_step hF' hn hdd hwn IH hg0 hC hA hSb hm hfr h51 (by omega) (fun M' hm' hfr' hC' h50' h51' hx' => ?_)
    obtain ⟨A', S', hA', -, hC'⟩ := hC'
    have hq : ∀ M', SP C0 M0 (sp_note (g0 C (tc (Ts t) n i)).2 j n (sp_bA (Ts t 604 n) (dn + if (g0 C (tc (Ts t) n i)).1 = 1 then 1 else 0) (un + if (g0 C (tc (Ts t) n i)).1 = 3 then 1 else 0))) M' D Ts Ns K Mt j t n w (sp_bA (Ts t 604 n) (dn + if (g0 C (tc (Ts t) n i)).1 = 1 then 1 else 0) (un + if (g0 C (tc (Ts t) n i)).1 = 3 then 1 else 0)) → am_FQ l sc 115 dd 57 [some (.inr (.inr (some (8, 0)))), none, none] [] M' Q := hq
    generalize g0 C (tc (Ts t) n i) = y at *
    obtain ⟨hcN, -⟩ := hw.2.2.1 i (by omega)
    obtain ⟨hpv, hp6, -⟩ := pv_tp hm'.1.1 hn f5 hkT
    have hWS := WS_of hF' hm' hn hw31 hcN (by omega) h50'
    obtain ⟨mQ, m49, m26, m17, mT⟩ := hm'.1.1.2.2.2.2.2
    obtain ⟨t2, -, t4, -⟩ := mT n hn
    have t2c : am_gI (mq_cb M' w dn un y.1) 918 0 (30 * t + n) = 4 := (gI_cb (by decide) (by decide)).trans (t2.trans hk)
    have h43c : am_gI (mq_cb M' w dn un y.1) 8 0 43 = nI (w + 1) := (gI_cb (by decide) (by decide)).trans hm'.2.1
    have hE : E0 C0 M0 y.2 (mq_cb M' w dn un y.1) D Ts Ns K Mt j t n w True := LF_E0 cb_LF (wP_CI hC') ht1 hm'.1
    have e47 : am_gI (mq_cb M' w dn un y.1) 947 0 w = dn + if y.1 = 1 then 1 else 0 := by
      unfold mq_cb
      rw [am_gI_sI, if_neg (fun q => by omega), am_gI_sI, if_pos ⟨rfl, rfl, rfl⟩]
    have e48 : am_gI (mq_cb M' w dn un y.1) 948 0 w = un + if y.1 = 3 then 1 else 0 := by
      unfold mq_cb
      rw [am_gI_sI, if_pos ⟨rfl, rfl, rfl⟩]
    refine end_step hF' hn hw31 hdd (wP_CI hC') hC' (by omega) hm'.2.1 h51' hE (fun H' han => ?_) (fun _ => trivial) bA_v hq
    exact cb_stop hWS hx' (k := 4) (t2.trans hk) (Or.inl (by rw [hpv, hi])) (cb_C_b (show sh_Q (mq_cb M' w dn un y.1) from mQ) (by omega) (by omega) t2c hw31 ((gI_cb (by decide) (by decide)).trans t4) e47 e48 (cb_D (Nat.le_refl 1) h43c han ⟨rfl, rfl⟩))
  | succ m ih =>
    intro i C M A S dn un hi hC hA hSb hm hfr h51 hq
    refine child_step hF' hn hdd hwn IH hg0 hC hA hSb hm hfr h51 (by omega) (fun M' hm' hfr' hC' h50' h51' hx' => ?_)
    obtain ⟨A', S', hA', hS', hC'⟩ := hC'
    exact go_step hF' (wP_CI hC') hdd hn hw31 hm' h50' h51' hx' (k := 4) hk (Or.inl rfl) (by omega) (fun M2 hm2 h512 => ih (i + 1) _ M2 A' S' _ _ (by omega) hC' hA' hS' hm2 hfr' h512 hq)
set_option maxHeartbeats 1000000 in
theorem sim_bes {pl : am_G} (hF : FT Ts Ns K Mt j t) (hn : n < Ns t) (hk : Ts t 602 n = 4) (IH : ∀ c, n < c → c < Ns t → SIM l g0 D Ts Ns K Mt j t c) (hg0 : ∀ c, n < c → c < Ns t → am_gOk l j t (Ns t) K (Ts t) g0 dg c) : SIM l (fun H n => ((sp_ans pl g0 (Ts t) H j t n).1, sp_note (sp_ans pl g0 (Ts t) H j t n).2 j n (sp_ans pl g0 (Ts t) H j t n).1)) D Ts Ns K Mt j t n := by
  intro C M A S w sc dd Q hdd hC hA hSb hS hX h51 h43 hwn hQ
  dsimp only at hQ
  have hF' := hF
  obtain ⟨f1, f2, f3, f4, f5, f6⟩ := hF
  have hN30 := f3 t f1
  have hw := f5.2.2.2.2 n hn
  have ht1 := hw.1.1
  have hn30 : n < 30 := by omega
  have e0 := bg_rel (w := w) hS hn30 ht1 hX
  have hB := BH_of hS hF' hn
  have t2' := (hS.2.2.2.2.2.2.2.2.2 n hn).1
  obtain ⟨-, hp6, hp1⟩ := pv_tp hS hn f5 (Or.inr (Or.inr (Or.inl hk)))
  obtain ⟨z1, z2⟩ := tc_e f5 hn 0 (by omega)
  refine begin_wait hF' hn hwn hdd hC e0 (wP_CI hC) h43 h51 (show 0 < tp (Ts t) n by omega) (fun H' hwt => bg_wait (k := 4) hB (t2'.trans hk) (by omega) hwt) (fun M' hm' h51' => ?_)
  have hx : sp_ans pl g0 (Ts t) C j t n = sp_bes g0 (Ts t) C n := by
    unfold sp_ans
    rw [hk]
    rfl
  rw [hx] at hQ
  unfold sp_bes at hQ
  rw [show tp (Ts t) n = tp (Ts t) n - 1 + 1 by omega] at hQ
  exact bes_loop hF' hn (by omega) hwn hdd hk IH hg0 (tp (Ts t) n - 1) 0 C M' A S 0 0 (by omega) hC (by omega) (by omega) hm' (fun k q1 q2 => (hX k (by omega) q2).2) h51' hQ
/-- a node with one part waits, and hears of it -/
theorem one_part (hF : FT Ts Ns K Mt j t) (hn : n < Ns t) (hwn : w ≤ n) (hdd : 6 ≤ dd) (hk : Ts t 602 n = 5 ∨ Ts t 602 n = 6 ∨ Ts t 602 n = 8) (IH : ∀ c, n < c → c < Ns t → SIM l g0 D Ts Ns K Mt j t c) (hg0 : ∀ c, n < c → c < Ns t → am_gOk l j t (Ns t) K (Ts t) g0 dg c) (hC : CI C j t (Ns t) K (Ts t) A S) (hA : A + tn (Ts t) n ≤ 1000) (hSb : S + tn (Ts t) n ≤ 1073741824) (hm : MI C0 M0 C M D Ts Ns K Mt j t n w 0 0 0 True) (hfr : ∀ k, n < k → k < n + tn (Ts t) n → am_gI C 208 j k = 0) (h51 : am_gI M 8 0 51 = nI (tc (Ts t) n 0))
    (hq : ∀ M', MI C0 M0 (g0 C (n + 1)).2 M' D Ts Ns K Mt j t n w 0 0 0 True → (∃ A' S', A' ≤ 1000 ∧ CI (g0 C (n + 1)).2 j t (Ns t) K (Ts t) A' S') → WS M' j t w n 0 (n + 1) 0 0 (g0 C (n + 1)).1 → nI (0 + 1) = mp_pv M' t n → am_gI M' 8 0 51 = -4 → ((g0 C (n + 1)).1 = 1 ∨ (g0 C (n + 1)).1 = 2 ∨ (g0 C (n + 1)).1 = 3) → am_FQ l sc 115 dd 57 [some (.inr (.inr (some (8, 0)))), none, none] [] M' Q) : am_FQ l sc 115 dd 57 [some (.inr (.inr (some (8, 0)))), none, none] [] M Q := by
  have hF' := hF
  obtain ⟨f1, f2, f3, f4, f5, f6⟩ := hF
  have hN30 := f3 t f1
  have hw := f5.2.2.2.2 n hn
  have hp1 := tp_one (T := Ts t) hk
  obtain ⟨hcN, hce⟩ := tc_one f5 hn hk
  have e0 : tc (Ts t) n 0 = n + 1 := rfl
  refine child_step hF' hn hdd hwn IH hg0 hC (by omega) (by omega) hm (fun k q1 q2 => hfr k (by omega) q2) h51 (by omega) (fun M' hm' hfr' hC' h50' h51' hx' => ?_)
  obtain ⟨A', S', hA', -, hC'⟩ := hC'
  refine hq M' hm' ⟨A', S', by omega, hC'⟩ (WS_of hF' hm' hn (by omega) hcN (by decide) h50') ?_ h51' hx'
  rw [pv_e hm'.1.1 hn, if_neg ?_, if_pos hk]
  · rfl
  · rcases hk with q | q | q <;> rw [q] <;> decide
set_option maxHeartbeats 1000000 in
theorem sim_guard {pl : am_G} (hF : FT Ts Ns K Mt j t) (hn : n < Ns t) (hk : Ts t 602 n = 5) (IH : ∀ c, n < c → c < Ns t → SIM l g0 D Ts Ns K Mt j t c) (hg0 : ∀ c, n < c → c < Ns t → am_gOk l j t (Ns t) K (Ts t) g0 dg c) : SIM l (fun H n => ((sp_ans pl g0 (Ts t) H j t n).1, sp_note (sp_ans pl g0 (Ts t) H j t n).2 j n (sp_ans pl g0 (Ts t) H j t n).1)) D Ts Ns K Mt j t n := by
  intro C M A S w sc dd Q hdd hC hA hSb hS hX h51 h43 hwn hQ
  dsimp only at hQ
  have hF' := hF
  obtain ⟨f1, f2, f3, f4, f5, f6⟩ := hF
  have hN30 := f3 t f1
  have hw := f5.2.2.2.2 n hn
  have ht1 := hw.1.1
  have hn30 : n < 30 := by omega
  have c3 : am_gI C 603 t n = Ts t 603 n := hC.2.1 603 n (by decide) (by decide)
  have c4 : am_gI C 604 t n = Ts t 604 n := hC.2.1 604 n (by decide) (by decide)
  have c5 : am_gI C 605 t n = Ts t 605 n := hC.2.1 605 n (by decide) (by decide)
  have hv := hw.2.2.2.2.2.1 (Or.inr hk)
  have hx : sp_ans pl g0 (Ts t) C j t n = if (sp_test C j t n).1 = 0 then (2, (sp_test C j t n).2) else g0 (sp_test C j t n).2 (n + 1) := by
    unfold sp_ans
    rw [hk]
    rfl
  have e0 := bg_rel (w := w) hS hn30 ht1 hX
  have hS1 := e0.1
  have hB := BH_of hS hF' hn
  obtain ⟨mQ, m49, m26, m17, mT⟩ := hS1.2.2.2.2.2
  obtain ⟨t2, t3, t4, t5, -⟩ := mT n hn
  have t2' := (hS.2.2.2.2.2.2.2.2.2 n hn).1
  have hNM := e0.2.2.2.2.2.2
  obtain ⟨v1, v2⟩ := test_val hS1 hC.2.2.2.2.2.1 hn c3 c4 c5 hv
  obtain ⟨a0, ha0, ea0⟩ := vp_in_of hv.2.1 (by decide)
  have h72 : 0 ≤ am_gI (mq_bg M j n) 921 0 (30 * t + n) ∧ (am_gI (mq_bg M j n) 921 0 (30 * t + n)).toInt64 ≤ am_gL (mq_bg M j n) 902 0 (am_gI (mq_bg M j n) 920 0 (30 * t + n)).toNatClampNeg - 1 → am_gI (mq_bg M j n) 901 0 (am_gI (mq_bg M j n) 920 0 (30 * t + n)).toNatClampNeg = 3 → vp_in (6 * am_gI (mq_bg M j n) 920 0 (30 * t + n) + am_gI (mq_bg M j n) 921 0 (30 * t + n)) 72 := by
    rw [t4, t5, ea0, nI_clamp (show a0 < 2 ^ 31 by omega)]
    obtain ⟨u1, u2, -⟩ := hS1.1.2.2 a0 ha0
    rw [← u1, ← u2]
    intro z1 z2
    obtain ⟨l0, l6⟩ := hC.2.2.2.2.2.1 a0 ha0 z2
    have hf := (row_c l0 l6).mp z1
    generalize Ts t 605 n = p at *
    rw [not_or, Int32.not_lt, Int64.not_le] at hf
    have hp : vp_in p 6 := by
      rw [vp_in_iff]
      simp only [Int32.le_iff_toInt_le, Int64.lt_iff_toInt_lt, Int32.toInt_toInt64, Int32.reduceToInt] at hf
      omega
    obtain ⟨b, hb, rfl⟩ := vp_in_of hp (by decide)
    rw [nI_6m, nI_add]
    exact vp_in_nI (by omega) (by decide)
  have hho := m_holds (l := l) (H := mq_bg M j n) mQ f4 m49 m26 (by omega) hn30 (by rw [t4]; exact hv.2.1) (by rw [t3]; exact hv.1) h72
  rw [← v1] at hho
  have hCI1 := CI_test (n := n) hC
  rw [hx] at hQ
  have fin : ∀ (C1 M1 : am_H), (sp_test C j t n).2 = C1 → (mq_hold (mq_bg M j n) j t n).2 = M1 → GS C1 M1 D Ts Ns K Mt j t → OP C (mq_bg M j n) C1 M1 j n → FC C C1 j n → FM (mq_bg M j n) M1 j n → am_FQ l sc 115 dd 57 [some (.inr (.inr (some (8, 0)))), none, none] [] M Q := by
    intro C1 M1 hC1 hM1 g1 hop fc fm
    rw [hC1] at hCI1 hQ
    rw [hM1] at hho
    have e1 := E0_op (wP_CI hC) e0 g1 hop.1 hop.2.1 hop.2.2.1 (fun a i q1 q2 _ => hop.2.2.2.1 a i q1 q2) (NM_cn fc fm id hNM) ht1
    have h43' : am_gI M1 8 0 43 = nI w := by rw [hop.2.2.2.2, bg_43]; exact h43
    obtain ⟨a, a1, a2⟩ := log_CI g1 hCI1 (by omega)
    by_cases hz : (sp_test C j t n).1 = 0
    · rw [if_pos hz] at hQ
      have han := m_answers (l := l) (x := 2) g1.2.2.2.2.2.1 f4 g1.2.2.2.2.2.2.1 hn30 a2 a1
      have hb := bg_guard hB (t2'.trans hk) hho (fun _ => han) (fun q => absurd hz q)
      exact tk_b hn30 h51 hb hdd (hQ _ (SP_end (wP_CI hCI1) e1 h43' hn30 ht1 (fun _ => trivial) (Or.inr (Or.inl rfl))))
    · rw [if_neg hz] at hQ
      have hT1 := g1.2.2.2.2.2
      have hwt := m_waitsFor (l := l) (H := M1) (T := Ts t) (w := w) (n := n) (p := 0) hT1.1 f4 hT1.2.1 hT1.2.2.1 (by omega) h43' (by omega) hn30 (by decide) (fun i hi => by omega)
      have hb := bg_guard hB (t2'.trans hk) hho (fun q => absurd q hz) (fun _ => hwt)
      refine tk_b hn30 h51 hb hdd ?_
      have hm := wait_rel (p := 0) (v := nI (tc (Ts t) n 0)) (wP_CI hCI1) ht1 e1
      refine one_part hF' hn hwn hdd (Or.inl hk) IH hg0 hCI1 hA hSb hm (fun k q1 q2 => ?_) (by rw [am_gI_sI, if_pos ⟨rfl, rfl, rfl⟩]) (fun M' hm' hC' hWS hpv h51' hx' => ?_)
      · rw [(hop.2.2.1 k (by omega)).1.1 208 (by decide) (by decide) (by decide)]
        exact (hX k (by omega) q2).2
      · obtain ⟨A', S', hA', hC'⟩ := hC'
        generalize g0 C1 (n + 1) = y at *
        have t22 := (hm'.1.1.2.2.2.2.2.2.2.2.2 n hn).1
        have t2c : am_gI (mq_cb M' w 0 0 y.1) 918 0 (30 * t + n) = nI 5 := (gI_cb (by decide) (by decide)).trans (t22.trans hk)
        have h43c : am_gI (mq_cb M' w 0 0 y.1) 8 0 43 = nI (w + 1) := (gI_cb (by decide) (by decide)).trans hm'.2.1
        have hE : E0 C M y.2 (mq_cb M' w 0 0 y.1) D Ts Ns K Mt j t n w True := LF_E0 cb_LF (wP_CI hC') ht1 hm'.1
        refine end_step hF' hn (by omega) hdd (wP_CI hC') hC' hA' hm'.2.1 h51' hE (fun H' han => ?_) (fun _ => trivial) hx' hQ
        exact cb_stop hWS hx' (k := 5) (t22.trans hk) (Or.inl hpv) (cb_C_x (k := 5) (show sh_Q (mq_cb M' w 0 0 y.1) from hm'.1.1.2.2.2.2.2.1) hn30 (by omega) t2c (by omega) (cb_D (Nat.le_refl 1) h43c han ⟨rfl, rfl⟩))
  rcases v2 with ⟨v2, v3⟩ | ⟨s, v2, v3⟩
  · exact fin C (mq_bg M j n) v2 v3 hS1 OP_r FC_r FM_r
  · obtain ⟨r1, r2, r3, r4⟩ := find_rel (k := n) (s := s) (n := n) hS1
    exact fin _ _ v2 v3 r1 r2 r3 r4
set_option maxHeartbeats 1000000 in
theorem sim_not {pl : am_G} (hF : FT Ts Ns K Mt j t) (hn : n < Ns t) (hk : Ts t 602 n = 8) (IH : ∀ c, n < c → c < Ns t → SIM l g0 D Ts Ns K Mt j t c) (hg0 : ∀ c, n < c → c < Ns t → am_gOk l j t (Ns t) K (Ts t) g0 dg c) : SIM l (fun H n => ((sp_ans pl g0 (Ts t) H j t n).1, sp_note (sp_ans pl g0 (Ts t) H j t n).2 j n (sp_ans pl g0 (Ts t) H j t n).1)) D Ts Ns K Mt j t n := by
  intro C M A S w sc dd Q hdd hC hA hSb hS hX h51 h43 hwn hQ
  dsimp only at hQ
  have hF' := hF
  obtain ⟨f1, f2, f3, f4, f5, f6⟩ := hF
  have hN30 := f3 t f1
  have hw := f5.2.2.2.2 n hn
  have ht1 := hw.1.1
  have hn30 : n < 30 := by omega
  have e0 := bg_rel (w := w) hS hn30 ht1 hX
  have hB := BH_of hS hF' hn
  have t2' := (hS.2.2.2.2.2.2.2.2.2 n hn).1
  have hx : sp_ans pl g0 (Ts t) C j t n = (sp_opp (g0 C (n + 1)).1, (g0 C (n + 1)).2) := by
    unfold sp_ans
    rw [hk]
    rfl
  rw [hx] at hQ
  refine begin_wait hF' hn hwn hdd hC e0 (wP_CI hC) h43 h51 (by rw [tp_one (Or.inr (Or.inr hk))]; decide) (fun H' hwt => bg_wait (k := 8) hB (t2'.trans hk) (by omega) hwt) (fun M1 hm h511 => ?_)
  refine one_part hF' hn hwn hdd (Or.inr (Or.inr hk)) IH hg0 hC hA hSb hm (fun k q1 q2 => (hX k (by omega) q2).2) h511 (fun M' hm' hC' hWS hpv h51' hx' => ?_)
  obtain ⟨A', S', hA', hC'⟩ := hC'
  generalize g0 C (n + 1) = y at *
  have t22 := (hm'.1.1.2.2.2.2.2.2.2.2.2 n hn).1
  have t2c : am_gI (mq_cb M' w 0 0 y.1) 918 0 (30 * t + n) = 8 := (gI_cb (by decide) (by decide)).trans (t22.trans hk)
  have h43c : am_gI (mq_cb M' w 0 0 y.1) 8 0 43 = nI (w + 1) := (gI_cb (by decide) (by decide)).trans hm'.2.1
  have hE : E0 C M y.2 (mq_cb M' w 0 0 y.1) D Ts Ns K Mt j t n w True := LF_E0 cb_LF (wP_CI hC') ht1 hm'.1
  refine end_step hF' hn (by omega) hdd (wP_CI hC') hC' hA' hm'.2.1 h51' hE (fun H' han => ?_) (fun _ => trivial) ?_ hQ
  · exact cb_stop hWS hx' (k := 8) (t22.trans hk) (Or.inl hpv) (cb_C_n (show sh_Q (mq_cb M' w 0 0 y.1) from hm'.1.1.2.2.2.2.2.1) hn30 (by omega) t2c hx' (cb_D (Nat.le_refl 1) h43c han ⟨rfl, rfl⟩))
  · show sp_opp y.1 = 1 ∨ sp_opp y.1 = 2 ∨ sp_opp y.1 = 3
    rcases hx' with q | q | q <;> rw [q] <;> decide
set_option maxHeartbeats 1000000 in
theorem sim_again {pl : am_G} (hF : FT Ts Ns K Mt j t) (hn : n < Ns t) (hk : Ts t 602 n = 6) (IH : ∀ c, n < c → c < Ns t → SIM l g0 D Ts Ns K Mt j t c) (hg0 : ∀ c, n < c → c < Ns t → am_gOk l j t (Ns t) K (Ts t) g0 dg c) : SIM l (fun H n => ((sp_ans pl g0 (Ts t) H j t n).1, sp_note (sp_ans pl g0 (Ts t) H j t n).2 j n (sp_ans pl g0 (Ts t) H j t n).1)) D Ts Ns K Mt j t n := by
  intro C M A S w sc dd Q hdd hC hA hSb hS hX h51 h43 hwn hQ
  dsimp only at hQ
  have hF' := hF
  obtain ⟨f1, f2, f3, f4, f5, f6⟩ := hF
  have hN30 := f3 t f1
  have hw := f5.2.2.2.2 n hn
  have ht1 := hw.1.1
  have hn30 : n < 30 := by omega
  have e0 := bg_rel (w := w) hS hn30 ht1 hX
  have hB := BH_of hS hF' hn
  have t2' := (hS.2.2.2.2.2.2.2.2.2 n hn).1
  have hx : sp_ans pl g0 (Ts t) C j t n = sp_aga g0 (Ts t) C j n := by
    unfold sp_ans
    rw [hk]
    rfl
  rw [hx] at hQ
  refine begin_wait hF' hn hwn hdd hC e0 (wP_CI hC) h43 h51 (by rw [tp_one (Or.inr (Or.inl hk))]; decide) (fun H' hwt => bg_wait (k := 6) hB (t2'.trans hk) (by omega) hwt) (fun M1 hm h511 => ?_)
  refine one_part hF' hn hwn hdd (Or.inr (Or.inl hk)) IH hg0 hC hA hSb hm (fun k q1 q2 => (hX k (by omega) q2).2) h511 (fun M' hm' hC' hWS hpv h51' hx' => ?_)
  obtain ⟨A', S', hA', hC'⟩ := hC'
  unfold sp_aga at hQ
  generalize g0 C (n + 1) = y at *
  obtain ⟨mQ, m49, m26, m17, mT⟩ := hm'.1.1.2.2.2.2.2
  obtain ⟨t22, t33, -⟩ := mT n hn
  have t2c : am_gI (mq_cb M' w 0 0 y.1) 918 0 (30 * t + n) = 6 := (gI_cb (by decide) (by decide)).trans (t22.trans hk)
  have h43c : am_gI (mq_cb M' w 0 0 y.1) 8 0 43 = nI (w + 1) := (gI_cb (by decide) (by decide)).trans hm'.2.1
  have hE : E0 C M y.2 (mq_cb M' w 0 0 y.1) D Ts Ns K Mt j t n w True := LF_E0 cb_LF (wP_CI hC') ht1 hm'.1
  obtain ⟨a, a1, a2, a3⟩ := hw.2.2.2.2.2.2.2.2.2.1 hk
  by_cases h1 : y.1 = 1
  · rw [if_pos h1] at hQ
    obtain ⟨p, p1, p2, p3⟩ := hE.2.2.2.2.2.2.1.2.2.2.1 (Or.inl hk) trivial
    rw [a3, nI_clamp (show a < 2 ^ 31 by omega)] at p3
    rw [p1, nI_1] at hQ
    have eans : (if Ts t 603 n ≤ nI (p + 1) then (1 : Int32) else 3) = if nI p + 1 = Ts t 603 n then 1 else 3 := by
      rw [a3, nI_1]
      by_cases hz : p + 1 = a
      · rw [if_pos (nI_le (by omega) (by omega)), if_pos (by rw [hz])]
      · rw [if_neg (nI_ge (by omega) (by omega)), if_neg (fun q => hz ((nI_eq (by omega) (by omega)).mp q))]
    have hE2 := set_rel (v := nI (p + 1)) (v' := nI p + 1) (g' := (if Ts t 603 n ≤ nI (p + 1) then (1 : Int32) else 3) = 3) (wP_CI hC') hn30 ht1 (Or.inl hk) hE (fun z => ⟨p + 1, rfl, nI_1 p, by
      rw [a3, nI_clamp (show a < 2 ^ 31 by omega)]
      by_cases hz : p + 1 = a
      · rw [a3, if_pos (nI_le (by omega) (by omega))] at z
        exact absurd z (by decide)
      · omega⟩)
    have hC2 : CI (am_sI y.2 204 j n (nI (p + 1))) j t (Ns t) K (Ts t) A' S' := CI_sI (by decide) hC'
    refine end_step hF' hn (by omega) hdd (wP_CI hC2) hC2 hA' hm'.2.1 h51' hE2 (fun H' han => ?_) id ?_ hQ
    · have h50 : WS M' j t w n 0 (n + 1) 0 0 1 := by rw [← h1]; exact hWS
      rw [h1] at han t2c h43c p2
      rw [eans] at han
      refine cb_stop h50 (Or.inl rfl) (k := 6) (t22.trans hk) (Or.inl hpv) (cb_C_a1 (show sh_Q (mq_cb M' w 0 0 1) from mQ) hn30 f4 (by omega) t2c ((gI_cb (by decide) (by decide)).trans t33) p2 (cb_D (Nat.le_refl 1) ?_ han ⟨rfl, rfl⟩))
      rw [am_gI_sI, if_neg (fun q => by omega)]
      exact h43c
    · split
      · exact Or.inl rfl
      · exact Or.inr (Or.inr rfl)
  · rw [if_neg h1] at hQ
    refine end_step hF' hn (by omega) hdd (wP_CI hC') hC' hA' hm'.2.1 h51' hE (fun H' han => ?_) (fun _ => trivial) hx' hQ
    exact cb_stop hWS hx' (k := 6) (t22.trans hk) (Or.inl hpv) (cb_C_a2 (show sh_Q (mq_cb M' w 0 0 y.1) from mQ) hn30 (by omega) t2c (hx'.resolve_left h1) (cb_D (Nat.le_refl 1) h43c han ⟨rfl, rfl⟩))
/-- every node, on both sides -/
theorem sim_all (hF : FT Ts Ns K Mt j t) : ∀ f n, n < Ns t → 30 ≤ f + n → SIM l (sp_ask (sp_pl l D (Ts t) K j t (Ns t)) (Ts t) j t f) D Ts Ns K Mt j t n := by
  have hF' := hF
  obtain ⟨f1, f2, f3, f4, f5, f6⟩ := hF
  have hN30 := f3 t f1
  intro f
  induction f with
  | zero => intro n hn h; omega
  | succ f ih =>
    intro n hn h
    have IH : ∀ c, n < c → c < Ns t → SIM l (sp_ask (sp_pl l D (Ts t) K j t (Ns t)) (Ts t) j t f) D Ts Ns K Mt j t c := fun c hc hcN => ih c hcN (by omega)
    have hg0 : ∀ c, n < c → c < Ns t → am_gOk l j t (Ns t) K (Ts t) (sp_ask (sp_pl l D (Ts t) K j t (Ns t)) (Ts t) j t f) (3 * f + 3) c := fun c hc hcN => c_node (pl_ok D f6 hN30) (by decide) f5 f6 f c hcN (by omega)
    obtain ⟨k, hk, hkk⟩ := (f5.2.2.2.2 n hn).2.2.2.2.1
    have hk : k = 0 ∨ k = 1 ∨ k = 2 ∨ k = 3 ∨ k = 4 ∨ k = 5 ∨ k = 6 ∨ k = 7 ∨ k = 8 ∨ k = 9 := by omega
    rcases hk with rfl | rfl | rfl | rfl | rfl | rfl | rfl | rfl | rfl | rfl
    · exact sim_doing hF' hn hkk
    · exact sim_test hF' hn hkk
    · exact sim_turn hF' hn hkk (Or.inl rfl) IH hg0
    · exact sim_turn hF' hn hkk (Or.inr (Or.inl rfl)) IH hg0
    · exact sim_bes hF' hn hkk IH hg0
    · exact sim_guard hF' hn hkk IH hg0
    · exact sim_again hF' hn hkk IH hg0
    · exact sim_turn hF' hn hkk (Or.inr (Or.inr rfl)) IH hg0
    · exact sim_not hF' hn hkk IH hg0
    · exact sim_plan hF' hn hkk
end SI9
