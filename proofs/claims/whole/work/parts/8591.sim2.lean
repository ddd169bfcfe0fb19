/-! ===== a tick on both sides: a doing ===== -/
section SI2
variable {C M C' M' : am_H} {D : Nat → Nat → Int32} {Ts : Nat → Nat → Nat → Int32} {Ns : Nat → Nat} {T : Nat → Nat → Int32} {K Mt j t n k w N d : Nat} {g : Prop}
/-- a node's doing on both sides: under way or not -/
def GX (C M : am_H) (j n : Nat) : Prop := (am_gI M 930 0 (30 * j + n) = 0 ∧ am_gI C 203 j n = 0) ∨ (am_gI M 930 0 (30 * j + n) = 1 ∧ am_gI C 203 j n = am_gI M 931 0 (30 * j + n) ∧ ∃ a, 1 ≤ a ∧ a ≤ 20 ∧ am_gI C 203 j n = nI a)
/-- of a node's rows only those of its doing change -/
def DF (C M C' M' : am_H) (j n : Nat) : Prop := (∀ a i, 201 ≤ a → a ≤ 208 → (a ≠ 203 ∨ i ≠ n) → am_gI C' a j i = am_gI C a j i) ∧ (∀ a i, 928 ≤ a → a ≤ 935 → (a ≠ 930 ∧ a ≠ 931 ∨ i ≠ 30 * j + n) → am_gI M' a 0 i = am_gI M a 0 i) ∧ (∀ i, am_gI M' 942 0 i = am_gI M 942 0 i)
theorem DF_r : DF C M C M j n := ⟨fun _ _ _ _ _ => rfl, fun _ _ _ _ _ => rfl, fun _ => rfl⟩
theorem DF_t {C'' M'' : am_H} (h : DF C M C' M' j n) (h2 : DF C' M' C'' M'' j n) : DF C M C'' M'' j n := ⟨fun a i q1 q2 q3 => (h2.1 a i q1 q2 q3).trans (h.1 a i q1 q2 q3), fun a i q1 q2 q3 => (h2.2.1 a i q1 q2 q3).trans (h.2.1 a i q1 q2 q3), fun i => (h2.2.2 i).trans (h.2.2 i)⟩
theorem OP_DF (h1 : CF C C' j) (h2 : MF M M' j) (h3 : DF C M C' M' j n) (h4 : MP M M') : OP C M C' M' j n :=
  ⟨h1, h2, fun k hk => ⟨⟨fun a q1 q2 _ => h3.1 a k q1 q2 (Or.inr hk), fun i _ => h3.1 206 _ (by decide) (by decide) (Or.inl (by decide))⟩, fun a q1 q2 _ => h3.2.1 a _ q1 q2 (Or.inr (by omega)), fun i _ => h3.2.1 934 _ (by decide) (by decide) (Or.inl (by decide)), h3.2.2 k⟩, h4⟩
theorem CF_bring {k v : Int32} (h : CF C C' j) : CF C (sp_bring C' k v) j := by
  have hL : ∀ a b i, a ≠ 702 → am_gL (sp_bring C' k v) a b i = am_gL C' a b i := by
    intro a b i ha
    unfold sp_bring
    repeat' split
    all_goals first | rfl | simp only [am_gL_sI, am_gL_sL, ha, false_and, ↓reduceIte]
  exact ⟨fun a b i q0 q1 q2 q3 q4 q5 q6 q7 => (gI_bring_ne q5).trans (h.1 a b i q0 q1 q2 q3 q4 q5 q6 q7), fun a b i q0 q1 => (hL a b i q1).trans (h.2.1 a b i q0 q1), fun a b i q0 q1 => gR_bring.trans (h.2.2.1 a b i q0 q1), fun TA Cn q0 q1 => by
    have := h.2.2.2 TA Cn q0 q1
    unfold R_V at this ⊢
    rw [lv_bring]
    exact this⟩
theorem MF_comes {k v : Int32} (h : MF M M' j) : MF M (mp_comes M' k v) j := by
  refine MF_t h ⟨fun a b i q0 q1 q2 q3 q4 => gI_comes q1, fun b i _ => gI_comes (by decide), fun i _ => gI_comes (by decide), fun a i q0 q1 q2 q3 => gI_comes (by omega), fun i _ => gI_comes (by decide), fun a b i q => gL_comes q, fun a b i => gR_comes, lv_comes⟩
theorem do1_rel (h : GS C M D Ts Ns K Mt j t) (hd : d < K) (hg : GX C M j n) (hn : n < 30) : GS (sp_ad1 C j n (nI d)) (mq_do1 M j n d) D Ts Ns K Mt j t ∧ CF C (sp_ad1 C j n (nI d)) j ∧ MF M (mq_do1 M j n d) j ∧ DF C M (sp_ad1 C j n (nI d)) (mq_do1 M j n d) j n ∧ MP M (mq_do1 M j n d) ∧ (am_gI (mq_do1 M j n d) 930 0 (30 * j + n) = 1 ∧ am_gI (sp_ad1 C j n (nI d)) 203 j n = am_gI (mq_do1 M j n d) 931 0 (30 * j + n) ∧ ∃ a, 1 ≤ a ∧ a ≤ 20 ∧ am_gI (sp_ad1 C j n (nI d)) 203 j n = nI a) := by
  have hK := h.2.1.1
  have cl : (nI d).toNatClampNeg = d := nI_clamp (by omega)
  have q1 := (h.2.1.2.2.2.1 d (by omega)).1
  obtain ⟨a, a1, a2, a3⟩ := (h.2.1.2.2.2.2.1 d hd).1
  unfold sp_ad1 mq_do1
  rw [cl]
  rcases hg with ⟨g1, g2⟩ | ⟨g1, g2, b, b1, b2, b3⟩
  · rw [if_pos g2, if_pos g1]
    have hC : CF C (am_sI C 203 j n (am_gI C 301 0 d)) j := CF_x CF_r (by omega)
    have hM : MF M (am_sI (am_sI M 930 0 (30 * j + n) 1) 931 0 (30 * j + n) (am_gI M 905 0 d)) j := MF_x (MF_x MF_r (by omega)) (by omega)
    refine ⟨GS_of hC hM h (R_W_cg h.1 rfl rfl (fun _ => rfl) (fun _ => rfl) (fun _ => rfl) (fun _ => rfl) (fun _ => rfl) (fun _ => rfl)) h.2.2.1 h.2.2.2.1 h.2.2.2.2.1, hC, hM, ⟨fun x i q1 q2 q3 => ?_, fun x i q1 q2 q3 => ?_, fun _ => rfl⟩, MP_t (MP_sI (by decide) (by omega)) (MP_sI (by decide) (by omega)), ?_, ?_, a, a1, a2, ?_⟩
    · rw [am_gI_sI, if_neg (fun q => by omega)]
    · rw [am_gI_sI, if_neg (fun q => by omega), am_gI_sI, if_neg (fun q => by omega)]
    · rw [am_gI_sI, if_neg (fun q => by omega), am_gI_sI, if_pos ⟨rfl, rfl, rfl⟩]
    · rw [am_gI_sI, if_pos ⟨rfl, rfl, rfl⟩, am_gI_sI, if_pos ⟨rfl, rfl, rfl⟩, q1]
    · rw [am_gI_sI, if_pos ⟨rfl, rfl, rfl⟩, a3]
  · have hz : ¬ am_gI C 203 j n = 0 := by
      rw [b3, show (0 : Int32) = nI 0 from rfl, nI_eq (by omega) (by decide)]
      omega
    rw [if_neg hz, if_neg (by rw [g1]; decide)]
    exact ⟨h, CF_r, MF_r, DF_r, MP_r, g1, g2, b, b1, b2, b3⟩
set_option maxHeartbeats 1000000 in
theorem do2_rel (h : GS C M D Ts Ns K Mt j t) (hd : d < K) (hn : n < 30) {a : Nat} (g1 : am_gI M 930 0 (30 * j + n) = 1) (g2 : am_gI C 203 j n = am_gI M 931 0 (30 * j + n)) (a1 : 1 ≤ a) (a2 : a ≤ 20) (a3 : am_gI C 203 j n = nI a) : (sp_ad2 C j n (nI d)).1 = (mq_do2 M D j n d (am_gI M 8 0 0)).1 ∧ ((sp_ad2 C j n (nI d)).1 = 1 ∨ (sp_ad2 C j n (nI d)).1 = 2 ∨ (sp_ad2 C j n (nI d)).1 = 3) ∧ GS (sp_ad2 C j n (nI d)).2 (mq_do2 M D j n d (am_gI M 8 0 0)).2 D Ts Ns K Mt j t ∧ CF C (sp_ad2 C j n (nI d)).2 j ∧ MF M (mq_do2 M D j n d (am_gI M 8 0 0)).2 j ∧ DF C M (sp_ad2 C j n (nI d)).2 (mq_do2 M D j n d (am_gI M 8 0 0)).2 j n ∧ MP M (mq_do2 M D j n d (am_gI M 8 0 0)).2 ∧ GX (sp_ad2 C j n (nI d)).2 (mq_do2 M D j n d (am_gI M 8 0 0)).2 j n ∧ ((sp_ad2 C j n (nI d)).1 = 1 → am_gI (sp_ad2 C j n (nI d)).2 6 0 0 = bh D d (am_gI C 6 0 0)) ∧ ((sp_ad2 C j n (nI d)).1 = 3 ∨ (am_gI (mq_do2 M D j n d (am_gI M 8 0 0)).2 930 0 (30 * j + n) = 0 ∧ am_gI (sp_ad2 C j n (nI d)).2 203 j n = 0)) := by
  have hK := h.2.1.1
  have cl : (nI d).toNatClampNeg = d := nI_clamp (by omega)
  obtain ⟨w, w1, w2⟩ := h.1.2.1
  have w3 : am_gI M 8 0 0 = nI w := h.1.1.symm.trans w2
  have hnd := nd_e (DD_RD h.2.1) (d := d) (f := w) (show d < 10 by omega)
  have hbh := bh_e (DD_RD h.2.1) (d := d) (f := w) (show d < 10 by omega)
  obtain ⟨b1, b2⟩ := bn_lt (okD_RD h.2.1) hd (show w < 256 by omega)
  have q := h.2.1.2.2.2.1 d (by omega)
  have hsub : nI a - 1 = nI (a - 1) := nI_sub1 (by omega)
  unfold sp_ad2 mq_do2
  rw [w2, w3, ← g2, a3, hsub]
  by_cases hn2 : nd D d (nI w)
  · rw [if_pos (hnd.mpr hn2), if_pos hn2]
    by_cases h0 : 0 < nI (a - 1)
    · rw [if_pos h0, if_pos h0]
      have ha : 1 ≤ a - 1 := by
        rw [show (0 : Int32) = nI 0 from rfl, nI_ltI (by decide) (by omega)] at h0
        omega
      have hC : CF C (am_sI C 203 j n (nI (a - 1))) j := CF_x CF_r (by omega)
      have hM : MF M (am_sI M 931 0 (30 * j + n) (nI (a - 1))) j := MF_x MF_r (by omega)
      refine ⟨rfl, Or.inr (Or.inr rfl), GS_of hC hM h (R_W_cg h.1 rfl rfl (fun _ => rfl) (fun _ => rfl) (fun _ => rfl) (fun _ => rfl) (fun _ => rfl) (fun _ => rfl)) h.2.2.1 h.2.2.2.1 h.2.2.2.2.1, hC, hM, ⟨fun x i q1 q2 q3 => ?_, fun x i q1 q2 q3 => ?_, fun _ => rfl⟩, MP_sI (by decide) (by omega), Or.inr ⟨?_, ?_, a - 1, ha, by omega, ?_⟩, fun z => absurd (show (3 : Int32) = 1 from z) (by decide), Or.inl rfl⟩
      · rw [am_gI_sI, if_neg (fun q => by omega)]
      · rw [am_gI_sI, if_neg (fun q => by omega)]
      · rw [am_gI_sI, if_neg (fun q => by omega)]; exact g1
      · rw [am_gI_sI, if_pos ⟨rfl, rfl, rfl⟩, am_gI_sI, if_pos ⟨rfl, rfl, rfl⟩]
      · rw [am_gI_sI, if_pos ⟨rfl, rfl, rfl⟩]
    · rw [if_neg h0, if_neg h0]
      have ha : a = 1 := by
        rw [show (0 : Int32) = nI 0 from rfl, nI_ltI (by decide) (by omega)] at h0
        omega
      subst ha
      unfold sp_adH mq_doM
      rw [w2, cl, a3, ← g2, a3, hsub, hbh, ← q.2.2.2.2.2.2.1, ← q.2.2.2.2.2.2.2.1]
      have hW1 : R_W (am_sI (am_sI C 203 j n (nI (1 - 1))) 6 0 0 (bh D d (nI w))) (am_sI (am_sI (am_sI M 931 0 (30 * j + n) (nI (1 - 1))) 930 0 (30 * j + n) 0) 8 0 0 (bh D d (nI w))) := by
        refine ⟨?_, ⟨bn D d w, by omega, ?_⟩, fun x hx => ?_⟩
        · rw [am_gI_sI, if_pos ⟨rfl, rfl, rfl⟩, am_gI_sI, if_pos ⟨rfl, rfl, rfl⟩]
        · rw [am_gI_sI, if_pos ⟨rfl, rfl, rfl⟩, b2]
        · simpa (decide := true) only [am_gI_sI, am_gL_sI, false_and, ↓reduceIte] using h.1.2.2 x hx
      have hW2 := W_bring (v := am_gI C 308 0 d) hW1 (h.2.1.2.2.2.2.1 d hd).2.2
      have hC : CF C (am_sI (sp_bring (am_sI (am_sI C 203 j n (nI (1 - 1))) 6 0 0 (bh D d (nI w))) (am_gI C 307 0 d) (am_gI C 308 0 d)) 209 j 1 (am_gI (sp_bring (am_sI (am_sI C 203 j n (nI (1 - 1))) 6 0 0 (bh D d (nI w))) (am_gI C 307 0 d) (am_gI C 308 0 d)) 209 j 1 + 1)) j := CF_x (CF_bring (CF_x (CF_x CF_r (by omega)) (by omega))) (by omega)
      have hM : MF M (am_sI (mp_comes (am_sI (am_sI (am_sI M 931 0 (30 * j + n) (nI (1 - 1))) 930 0 (30 * j + n) 0) 8 0 0 (bh D d (nI w))) (am_gI C 307 0 d) (am_gI C 308 0 d)) 927 0 (8 * j + 1) (am_gI (mp_comes (am_sI (am_sI (am_sI M 931 0 (30 * j + n) (nI (1 - 1))) 930 0 (30 * j + n) 0) 8 0 0 (bh D d (nI w))) (am_gI C 307 0 d) (am_gI C 308 0 d)) 927 0 (8 * j + 1) + 1)) j := MF_x (MF_comes (MF_x (MF_x (MF_x MF_r (by omega)) (by omega)) (by omega))) (by omega)
      refine ⟨rfl, Or.inl rfl, GS_of hC hM h (R_W_cg hW2 rfl rfl (fun _ => rfl) (fun _ => rfl) (fun _ => rfl) (fun _ => rfl) (fun _ => rfl) (fun _ => rfl)) (fun i hi => ?_) ⟨?_, fun i hi => ?_⟩ (RP_cg (fun x i hx => ?_) h.2.2.2.2.1), hC, hM, ⟨fun x i q1 q2 q3 => ?_, fun x i q1 q2 q3 => ?_, fun i => ?_⟩, ⟨fun x i q1 q2 => ?_, ?_⟩, Or.inl ⟨?_, ?_⟩, fun _ => ?_, Or.inr ⟨?_, ?_⟩⟩
      · have hc := h.2.2.1
        simp (decide := true) only [am_gI_sI, gI_bring_ne, gI_comes, ne_eq, Nat.reduceEqDiff, not_false_eq_true, false_and, true_and, Nat.add_left_cancel_iff, ↓reduceIte]
        rw [hc i hi, hc 1 (by decide)]
      · simp (decide := true) only [am_gI_sI, gI_bring_ne, gI_comes, ne_eq, Nat.reduceEqDiff, not_false_eq_true, false_and, and_false, true_and, ↓reduceIte]
        exact h.2.2.2.1.1
      · simp (decide := true) only [am_gI_sI, gI_bring_ne, gI_comes, ne_eq, Nat.reduceEqDiff, not_false_eq_true, false_and, and_false, true_and, ↓reduceIte]
        exact h.2.2.2.1.2 i hi
      · rw [am_gI_sI, if_neg (fun q => by omega), gI_comes (by omega), am_gI_sI, if_neg (fun q => by omega), am_gI_sI, if_neg (fun q => by omega), am_gI_sI, if_neg (fun q => by omega)]
      · rw [am_gI_sI, if_neg (fun q => by omega), gI_bring_ne (by omega), am_gI_sI, if_neg (fun q => by omega), am_gI_sI, if_neg (fun q => by omega)]
      · rw [am_gI_sI, if_neg (fun q => by omega), gI_comes (by omega), am_gI_sI, if_neg (fun q => by omega), am_gI_sI, if_neg (fun q => by omega), am_gI_sI, if_neg (fun q => by omega)]
      · rw [am_gI_sI, if_neg (fun q => by omega), gI_comes (by omega), am_gI_sI, if_neg (fun q => by omega), am_gI_sI, if_neg (fun q => by omega), am_gI_sI, if_neg (fun q => by omega)]
      · rw [am_gI_sI, if_neg (fun q => by omega), gI_comes (by omega), am_gI_sI, if_neg (fun q => by omega), am_gI_sI, if_neg (fun q => by omega), am_gI_sI, if_neg (fun q => by omega)]
      · rw [am_gI_sI, if_neg (fun q => by omega), gI_comes (by omega), am_gI_sI, if_neg (fun q => by omega), am_gI_sI, if_neg (fun q => by omega), am_gI_sI, if_neg (fun q => by omega)]
      · rw [am_gI_sI, if_neg (fun q => by omega), gI_comes (by omega), am_gI_sI, if_neg (fun q => by omega), am_gI_sI, if_pos ⟨rfl, rfl, rfl⟩]
      · rw [am_gI_sI, if_neg (fun q => by omega), gI_bring_ne (by omega), am_gI_sI, if_neg (fun q => by omega), am_gI_sI, if_pos ⟨rfl, rfl, rfl⟩]
        rfl
      · rw [am_gI_sI, if_neg (fun q => by omega), gI_bring_ne (by omega), am_gI_sI, if_pos ⟨rfl, rfl, rfl⟩]
      · rw [am_gI_sI, if_neg (fun q => by omega), gI_comes (by omega), am_gI_sI, if_neg (fun q => by omega), am_gI_sI, if_pos ⟨rfl, rfl, rfl⟩]
      · rw [am_gI_sI, if_neg (fun q => by omega), gI_bring_ne (by omega), am_gI_sI, if_neg (fun q => by omega), am_gI_sI, if_pos ⟨rfl, rfl, rfl⟩]
        rfl
  · rw [if_neg (fun z => hn2 (hnd.mp z)), if_neg hn2]
    have hC : CF C (am_sI (am_sI C 203 j n 0) 209 j 3 (am_gI C 209 j 3 + 1)) j := CF_x (CF_x CF_r (by omega)) (by omega)
    have hM : MF M (am_sI (am_sI M 930 0 (30 * j + n) 0) 927 0 (8 * j + 3) (am_gI M 927 0 (8 * j + 3) + 1)) j := MF_x (MF_x MF_r (by omega)) (by omega)
    refine ⟨rfl, Or.inr (Or.inl rfl), GS_of hC hM h (R_W_cg h.1 rfl rfl (fun _ => rfl) (fun _ => rfl) (fun _ => rfl) (fun _ => rfl) (fun _ => rfl) (fun _ => rfl)) (fun i hi => ?_) h.2.2.2.1 (RP_cg (fun x i hx => ?_) h.2.2.2.2.1), hC, hM, ⟨fun x i q1 q2 q3 => ?_, fun x i q1 q2 q3 => ?_, fun _ => rfl⟩, MP_t (MP_sI (by decide) (by omega)) (MP_sI (by decide) (by omega)), Or.inl ⟨?_, ?_⟩, fun z => absurd (show (2 : Int32) = 1 from z) (by decide), Or.inr ⟨?_, ?_⟩⟩
    · have hc := h.2.2.1
      simp (decide := true) only [am_gI_sI, Nat.reduceEqDiff, false_and, true_and, Nat.add_left_cancel_iff, ↓reduceIte]
      rw [hc i hi, hc 3 (by decide)]
    · rw [am_gI_sI, if_neg (fun q => by omega), am_gI_sI, if_neg (fun q => by omega)]
    · rw [am_gI_sI, if_neg (fun q => by omega), am_gI_sI, if_neg (fun q => by omega)]
    · rw [am_gI_sI, if_neg (fun q => by omega), am_gI_sI, if_neg (fun q => by omega)]
    · rw [am_gI_sI, if_neg (fun q => by omega), am_gI_sI, if_pos ⟨rfl, rfl, rfl⟩]
    · rw [am_gI_sI, if_neg (fun q => by omega), am_gI_sI, if_pos ⟨rfl, rfl, rfl⟩]
    · rw [am_gI_sI, if_neg (fun q => by omega), am_gI_sI, if_pos ⟨rfl, rfl, rfl⟩]
    · rw [am_gI_sI, if_neg (fun q => by omega), am_gI_sI, if_pos ⟨rfl, rfl, rfl⟩]
/-- a doing is asked, on both sides -/
theorem do_rel (h : GS C M D Ts Ns K Mt j t) (hd : d < K) (hg : GX C M j n) (hn : n < 30) : (sp_askD C j n (nI d)).1 = (mq_do M D j n d (am_gI M 8 0 0)).1 ∧ ((sp_askD C j n (nI d)).1 = 1 ∨ (sp_askD C j n (nI d)).1 = 2 ∨ (sp_askD C j n (nI d)).1 = 3) ∧ GS (sp_askD C j n (nI d)).2 (mq_do M D j n d (am_gI M 8 0 0)).2 D Ts Ns K Mt j t ∧ CF C (sp_askD C j n (nI d)).2 j ∧ MF M (mq_do M D j n d (am_gI M 8 0 0)).2 j ∧ DF C M (sp_askD C j n (nI d)).2 (mq_do M D j n d (am_gI M 8 0 0)).2 j n ∧ MP M (mq_do M D j n d (am_gI M 8 0 0)).2 ∧ GX (sp_askD C j n (nI d)).2 (mq_do M D j n d (am_gI M 8 0 0)).2 j n ∧ ((sp_askD C j n (nI d)).1 = 1 → am_gI (sp_askD C j n (nI d)).2 6 0 0 = bh D d (am_gI C 6 0 0)) ∧ ((sp_askD C j n (nI d)).1 = 3 ∨ (am_gI (mq_do M D j n d (am_gI M 8 0 0)).2 930 0 (30 * j + n) = 0 ∧ am_gI (sp_askD C j n (nI d)).2 203 j n = 0)) := by
  have hK := h.2.1.1
  obtain ⟨r1, r2, r3, r4, r5, r6, r7, a, r8, r9, r10⟩ := do1_rel h hd hg hn
  have e8 : am_gI (mq_do1 M j n d) 8 0 0 = am_gI M 8 0 0 := by
    unfold mq_do1
    split
    · rw [am_gI_sI, if_neg (fun q => by omega), am_gI_sI, if_neg (fun q => by omega)]
    · rfl
  have e6 : am_gI (sp_ad1 C j n (nI d)) 6 0 0 = am_gI C 6 0 0 := by
    unfold sp_ad1
    split
    · rw [am_gI_sI, if_neg (fun q => by omega)]
    · rfl
  have elv : ∀ TA Cn, R_V (sp_ad1 C j n (nI d)) TA Cn ↔ R_V C TA Cn := by
    intro TA Cn
    unfold sp_ad1
    split
    · exact Iff.rfl
    · exact Iff.rfl
  have s := do2_rel r1 hd hn r6 r7 r8 r9 r10
  rw [e8, e6] at s
  obtain ⟨s1, s2, s3, s4, s5, s6, s7, s8, s9⟩ := s
  have e : sp_askD C j n (nI d) = sp_ad2 (sp_ad1 C j n (nI d)) j n (nI d) := by
    unfold sp_askD
    rw [if_pos (by rw [h.2.1.2.1]; exact nI_rr hd (by omega))]
  rw [e]
  refine ⟨s1, s2, s3, ?_, MF_t r3 s5, DF_t r4 s6, MP_t r5 s7, s8, s9⟩
  refine ⟨fun a b i q0 q1 q2 q3 q4 q5 q6 q7 => (s4.1 a b i q0 q1 q2 q3 q4 q5 q6 q7).trans (r2.1 a b i q0 q1 q2 q3 q4 q5 q6 q7), fun a b i q0 q1 => (s4.2.1 a b i q0 q1).trans (r2.2.1 a b i q0 q1), fun a b i q0 q1 => (s4.2.2.1 a b i q0 q1).trans (r2.2.2.1 a b i q0 q1), fun TA Cn q0 q1 => ?_⟩
  have hP : ∃ S, wf_P (sp_ad1 C j n (nI d)) S := by
    obtain ⟨S, hS⟩ := q0
    refine ⟨S, wf_P_cg (H := C) (fun _ _ _ => gR_ad1) ?_ (fun k hk b c => ?_) hS⟩
    · unfold sp_ad1
      split <;> rfl
    · unfold sp_ad1
      split
      · rw [am_gI_sI, if_neg (fun q => by omega)]
      · rfl
  exact s4.2.2.2 TA Cn hP ((elv TA Cn).mpr q1)
end SI2
