/-! ===== a tick on both sides: a PLAN ===== -/
section SI3
variable {l : Launch} {C M C' M' : am_H} {D : Nat → Nat → Int32} {Ts : Nat → Nat → Nat → Int32} {Ns : Nat → Nat} {T : Nat → Nat → Int32} {K Mt j t n k w N d A S L p f : Nat} {P : Nat → Nat} {m b : Int32}
/-- a plan is held alike on both sides -/
def PH (C M : am_H) (D : Nat → Nat → Int32) (K : Nat) (m b : Int32) (j n L p f : Nat) (P : Nat → Nat) : Prop := (1 ≤ L ∧ L ≤ 12 ∧ p ≤ L ∧ f ≤ 255) ∧ am_gI C 205 j n = nI L ∧ am_gI M 933 0 (30 * j + n) = nI L ∧ am_gI C 204 j n = nI p ∧ am_gI M 932 0 (30 * j + n) = nI p ∧ am_gI C 207 j n = nI f ∧ am_gI M 935 0 (30 * j + n) = nI f ∧ (∀ i, i < L → P i < K ∧ am_gI C 206 j (n * 12 + i) = nI (P i) ∧ am_gI M 934 0 (12 * (30 * j + n) + i) = nI (P i)) ∧ ws m b (pf D P p (L - p) (nI f))
theorem PR_PH (h : PH C M D K (T 603 n) (T 604 n) j n L p f P) : PR C M D K T j n := by
  obtain ⟨h1, h2, h3, h4, h5, h6, h7, h8, h9⟩ := h
  exact ⟨by rw [h2, h3], Or.inr ⟨L, p, f, P, h1, h2, h4, h5, h6, h7, h8, h9⟩⟩
/-- what a node's operation keeps of the node -/
def KP (C M C' M' : am_H) (j n : Nat) : Prop := am_gI C' 201 j n = am_gI C 201 j n ∧ am_gI C' 202 j n = am_gI C 202 j n ∧ am_gI C' 208 j n = am_gI C 208 j n ∧ am_gI M' 928 0 (30 * j + n) = am_gI M 928 0 (30 * j + n) ∧ am_gI M' 929 0 (30 * j + n) = am_gI M 929 0 (30 * j + n) ∧ am_gI M' 942 0 n = am_gI M 942 0 n
theorem KP_r : KP C M C M j n := ⟨rfl, rfl, rfl, rfl, rfl, rfl⟩
theorem KP_t {C'' M'' : am_H} (h : KP C M C' M' j n) (h2 : KP C' M' C'' M'' j n) : KP C M C'' M'' j n := ⟨h2.1.trans h.1, h2.2.1.trans h.2.1, h2.2.2.1.trans h.2.2.1, h2.2.2.2.1.trans h.2.2.2.1, h2.2.2.2.2.1.trans h.2.2.2.2.1, h2.2.2.2.2.2.trans h.2.2.2.2.2⟩
theorem KP_DF (h : DF C M C' M' j n) : KP C M C' M' j n := ⟨h.1 201 n (by decide) (by decide) (Or.inl (by decide)), h.1 202 n (by decide) (by decide) (Or.inl (by decide)), h.1 208 n (by decide) (by decide) (Or.inl (by decide)), h.2.1 928 _ (by decide) (by decide) (Or.inl (by decide)), h.2.1 929 _ (by decide) (by decide) (Or.inl (by decide)), h.2.2 n⟩
theorem OP_x {a : Nat} {v : Int32} (h : OP C M C' M' j n) (ha : 201 ≤ a ∧ a ≤ 208 ∧ a ≠ 206) : OP C M (am_sI C' a j n v) M' j n := by
  refine ⟨CF_x h.1 (by omega), h.2.1, fun k hk => ⟨⟨fun x q1 q2 q3 => ?_, fun i hi => ?_⟩, (h.2.2.1 k hk).2⟩, h.2.2.2⟩
  · rw [am_gI_sI, if_neg (fun q => hk q.2.2)]; exact (h.2.2.1 k hk).1.1 x q1 q2 q3
  · rw [am_gI_sI, if_neg (fun q => by omega)]; exact (h.2.2.1 k hk).1.2 i hi
theorem OP_c {i : Nat} {v : Int32} (hi8 : i ≠ 8) (h : OP C M C' M' j n) : OP C M (am_sI C' 209 j i v) M' j n := by
  refine ⟨CF_x h.1 (by omega), h.2.1, fun k hk => ⟨⟨fun x q1 q2 q3 => ?_, fun i hi => ?_⟩, (h.2.2.1 k hk).2⟩, h.2.2.2⟩
  · rw [am_gI_sI, if_neg (fun q => by omega)]; exact (h.2.2.1 k hk).1.1 x q1 q2 q3
  · rw [am_gI_sI, if_neg (fun q => by omega)]; exact (h.2.2.1 k hk).1.2 i hi
theorem OP_y {a : Nat} {v : Int32} (hn : n < 30) (h : OP C M C' M' j n) (ha : 928 ≤ a ∧ a ≤ 935 ∧ a ≠ 934) : OP C M C' (am_sI M' a 0 (30 * j + n) v) j n := by
  refine ⟨h.1, MF_x h.2.1 (by omega), fun k hk => ⟨(h.2.2.1 k hk).1, ⟨fun x q1 q2 q3 => ?_, fun i hi => ?_, ?_⟩⟩, MP_t h.2.2.2 (MP_sI (by omega) (by omega))⟩
  · rw [am_gI_sI, if_neg (fun q => by omega)]; exact (h.2.2.1 k hk).2.1 x q1 q2 q3
  · rw [am_gI_sI, if_neg (fun q => by omega)]; exact (h.2.2.1 k hk).2.2.1 i hi
  · rw [am_gI_sI, if_neg (fun q => by omega)]; exact (h.2.2.1 k hk).2.2.2
theorem OP_yc {i : Nat} {v : Int32} (hi : i < 8) (h : OP C M C' M' j n) : OP C M C' (am_sI M' 927 0 (8 * j + i) v) j n := by
  refine ⟨h.1, MF_x h.2.1 (by omega), fun k hk => ⟨(h.2.2.1 k hk).1, ⟨fun x q1 q2 q3 => ?_, fun i hi => ?_, ?_⟩⟩, MP_t h.2.2.2 (MP_sI (by omega) (by omega))⟩
  · rw [am_gI_sI, if_neg (fun q => by omega)]; exact (h.2.2.1 k hk).2.1 x q1 q2 q3
  · rw [am_gI_sI, if_neg (fun q => by omega)]; exact (h.2.2.1 k hk).2.2.1 i hi
  · rw [am_gI_sI, if_neg (fun q => by omega)]; exact (h.2.2.1 k hk).2.2.2
def G9 (C M : am_H) (j n : Nat) : Prop := (am_gI M 930 0 (30 * j + n) = 0 ∧ am_gI C 203 j n = 0) ∨ (am_gI M 930 0 (30 * j + n) = 1 ∧ am_gI C 203 j n = am_gI M 931 0 (30 * j + n) ∧ (∃ a, 1 ≤ a ∧ a ≤ 20 ∧ am_gI C 203 j n = nI a) ∧ am_gI C 204 j n < am_gI C 205 j n)
/-- what a PLAN's asking comes to, on both sides -/
def PO (C M : am_H) (x y : Int32 × am_H) (D : Nat → Nat → Int32) (Ts : Nat → Nat → Nat → Int32) (Ns : Nat → Nat) (K Mt j t n : Nat) : Prop := x.1 = y.1 ∧ (x.1 = 1 ∨ x.1 = 2 ∨ x.1 = 3) ∧ GS x.2 y.2 D Ts Ns K Mt j t ∧ OP C M x.2 y.2 j n ∧ KP C M x.2 y.2 j n ∧ G9 x.2 y.2 j n ∧ PR x.2 y.2 D K (Ts t) j n
theorem PO_cn {C0 M0 : am_H} {x y : Int32 × am_H} (hw : ∃ S, wf_P C S) (h : OP C0 M0 C M j n) (h2 : KP C0 M0 C M j n) (h3 : PO C M x y D Ts Ns K Mt j t n) : PO C0 M0 x y D Ts Ns K Mt j t n :=
  ⟨h3.1, h3.2.1, h3.2.2.1, OP_t hw h h3.2.2.2.1, KP_t h2 h3.2.2.2.2.1, h3.2.2.2.2.2⟩
/-- the second half of a PLAN's asking: its doing is asked -/
theorem tail_rel (h : GS C M D Ts Ns K Mt j t) (hn : n < 30) (c3 : am_gI C 603 t n = Ts t 603 n) (c4 : am_gI C 604 t n = Ts t 604 n) (hg : GX C M j n) (hp : p < L) (hPH : PH C M D K (Ts t 603 n) (Ts t 604 n) j n L p f P) :
    PO C M (sp_pl3 (sp_askD C j n (nI (P p))) j t n (nI (P p))) (mq_pl3 (mq_do M D j n (P p) (am_gI M 8 0 0)) D (Ts t 603 n) (Ts t 604 n) j n (P p)) D Ts Ns K Mt j t n := by
  obtain ⟨p1, p2, p3, p4, p5, p6, p7, p8, p9⟩ := hPH
  have hd := (p8 p hp).1
  have s := do_rel h hd hg hn
  generalize sp_askD C j n (nI (P p)) = x at s ⊢
  generalize mq_do M D j n (P p) (am_gI M 8 0 0) = y at s ⊢
  obtain ⟨x1, x2⟩ := x
  obtain ⟨y1, y2⟩ := y
  dsimp only at s
  obtain ⟨s1, s2, s3, s4, s5, s6, s7, s8, s9, s10⟩ := s
  subst s1
  have hop := OP_DF s4 s5 s6 s7
  have hkp := KP_DF s6
  have hK := h.2.1.1
  have d4 : am_gI x2 204 j n = nI p := (s6.1 204 n (by decide) (by decide) (Or.inl (by decide))).trans p4
  have d5 : am_gI x2 205 j n = nI L := (s6.1 205 n (by decide) (by decide) (Or.inl (by decide))).trans p2
  have d7 : am_gI x2 207 j n = nI f := (s6.1 207 n (by decide) (by decide) (Or.inl (by decide))).trans p6
  have d6 : ∀ i, am_gI x2 206 j i = am_gI C 206 j i := fun i => s6.1 206 i (by decide) (by decide) (Or.inl (by decide))
  have m2 : am_gI y2 932 0 (30 * j + n) = nI p := (s6.2.1 932 _ (by decide) (by decide) (Or.inl (by decide))).trans p5
  have m3 : am_gI y2 933 0 (30 * j + n) = nI L := (s6.2.1 933 _ (by decide) (by decide) (Or.inl (by decide))).trans p3
  have m5 : am_gI y2 935 0 (30 * j + n) = nI f := (s6.2.1 935 _ (by decide) (by decide) (Or.inl (by decide))).trans p7
  have m4 : ∀ i, am_gI y2 934 0 i = am_gI M 934 0 i := fun i => s6.2.1 934 i (by decide) (by decide) (Or.inl (by decide))
  have t3 : am_gI x2 603 t n = Ts t 603 n := (s4.1 603 t n (nkq (by omega)) (by decide) (by decide) (by decide) (by decide) (by decide) (by decide) (by omega)).trans c3
  have t4 : am_gI x2 604 t n = Ts t 604 n := (s4.1 604 t n (nkq (by omega)) (by decide) (by decide) (by decide) (by decide) (by decide) (by decide) (by omega)).trans c4
  obtain ⟨b1, b2⟩ := bn_lt (okD_RD h.2.1) hd (show f < 256 by omega)
  have hbh := bh_e (DD_RD s3.2.1) (d := P p) (f := f) (show P p < 10 by omega)
  have hlt : nI p < nI L := (nI_ltI (by omega) (by omega)).mpr hp
  unfold sp_pl3 mq_pl3
  rcases s2 with rfl | rfl | rfl
  · simp (decide := true) only [↓reduceIte]
    have hfo : GS (sp_fore x2 j n (nI (P p))) (mq_fore y2 D j n (P p)) D Ts Ns K Mt j t := by
      unfold sp_fore mq_fore
      exact GS_of (C := x2) (M := y2) (CF_x (CF_x CF_r (by omega)) (by omega)) (MF_x (MF_x MF_r (by omega)) (by omega)) s3 (R_W_cg s3.1 rfl rfl (fun _ => rfl) (fun _ => rfl) (fun _ => rfl) (fun _ => rfl) (fun _ => rfl) (fun _ => rfl)) s3.2.2.1 s3.2.2.2.1 s3.2.2.2.2.1
    have hww : sp_wish (sp_fore x2 j n (nI (P p))) t n ↔ ws (Ts t 603 n) (Ts t 604 n) (am_gI y2 8 0 0) := by
      show (am_gI x2 6 0 0 ^^^ am_gI x2 604 t n) &&& am_gI x2 603 t n = 0 ↔ _
      rw [t3, t4, s3.1.1]
    have h203 := (s10.resolve_left (by decide))
    refine ⟨?_, ?_, hfo, ?_, ?_, Or.inl ⟨?_, ?_⟩, PR_PH (L := L) (p := p + 1) (f := bn D (P p) f) (P := P) ⟨⟨p1.1, p1.2.1, by omega, by omega⟩, ?_, ?_, ?_, ?_, ?_, ?_, fun i hi => ?_, ?_⟩⟩
    · show (if _ then (1 : Int32) else 3) = if _ then 1 else 3
      by_cases hz : ws (Ts t 603 n) (Ts t 604 n) (am_gI y2 8 0 0)
      · rw [if_pos (hww.mpr hz), if_pos hz]
      · rw [if_neg (fun q => hz (hww.mp q)), if_neg hz]
    · show (if _ then (1 : Int32) else 3) = 1 ∨ (if _ then (1 : Int32) else 3) = 2 ∨ (if _ then (1 : Int32) else 3) = 3
      split
      · exact Or.inl rfl
      · exact Or.inr (Or.inr rfl)
    · unfold sp_fore mq_fore
      exact OP_y hn (OP_y hn (OP_x (OP_x hop (by omega)) (by omega)) (by omega)) (by omega)
    · unfold sp_fore mq_fore
      refine KP_t hkp ⟨?_, ?_, ?_, ?_, ?_, ?_⟩
      all_goals rw [am_gI_sI, if_neg (fun q => by omega), am_gI_sI, if_neg (fun q => by omega)]
    · unfold mq_fore
      rw [am_gI_sI, if_neg (fun q => by omega), am_gI_sI, if_neg (fun q => by omega)]
      exact h203.1
    · unfold sp_fore
      rw [am_gI_sI, if_neg (fun q => by omega), am_gI_sI, if_neg (fun q => by omega)]
      exact h203.2
    · unfold sp_fore
      rw [am_gI_sI, if_neg (fun q => by omega), am_gI_sI, if_neg (fun q => by omega)]
      exact d5
    · unfold mq_fore
      rw [am_gI_sI, if_neg (fun q => by omega), am_gI_sI, if_neg (fun q => by omega)]
      exact m3
    · unfold sp_fore
      rw [am_gI_sI, if_pos ⟨rfl, rfl, rfl⟩, d4, nI_1]
    · unfold mq_fore
      rw [am_gI_sI, if_pos ⟨rfl, rfl, rfl⟩, m2, nI_1]
    · unfold sp_fore
      rw [am_gI_sI, if_neg (fun q => by omega), am_gI_sI, if_pos ⟨rfl, rfl, rfl⟩, d7, hbh, b2]
    · unfold mq_fore
      rw [am_gI_sI, if_neg (fun q => by omega), am_gI_sI, if_pos ⟨rfl, rfl, rfl⟩, m5, b2]
    · unfold sp_fore mq_fore
      rw [am_gI_sI, if_neg (fun q => by omega), am_gI_sI, if_neg (fun q => by omega), am_gI_sI, if_neg (fun q => by omega), am_gI_sI, if_neg (fun q => by omega), d6, m4]
      exact p8 i hi
    · rw [show L - p = L - (p + 1) + 1 by omega] at p9
      have p9 : ws (Ts t 603 n) (Ts t 604 n) (pf D P (p + 1) (L - (p + 1)) (bh D (P p) (nI f))) := p9
      rw [b2] at p9
      exact p9
  · simp (decide := true) only [↓reduceIte]
    have h203 := (s10.resolve_left (by decide))
    refine ⟨rfl, Or.inr (Or.inl rfl), GS_of (C := x2) (M := y2) (CF_x (CF_x CF_r (by omega)) (by omega)) (MF_x MF_r (by omega)) s3 (R_W_cg s3.1 rfl rfl (fun _ => rfl) (fun _ => rfl) (fun _ => rfl) (fun _ => rfl) (fun _ => rfl) (fun _ => rfl)) s3.2.2.1 s3.2.2.2.1 s3.2.2.2.2.1, OP_y hn (OP_x (OP_x hop (by omega)) (by omega)) (by omega), KP_t hkp ⟨?_, ?_, ?_, ?_, ?_, ?_⟩, Or.inl ⟨?_, ?_⟩, ?_, Or.inl ⟨?_, ?_⟩⟩
    · rw [am_gI_sI, if_neg (fun q => by omega), am_gI_sI, if_neg (fun q => by omega)]
    · rw [am_gI_sI, if_neg (fun q => by omega), am_gI_sI, if_neg (fun q => by omega)]
    · rw [am_gI_sI, if_neg (fun q => by omega), am_gI_sI, if_neg (fun q => by omega)]
    · rw [am_gI_sI, if_neg (fun q => by omega)]
    · rw [am_gI_sI, if_neg (fun q => by omega)]
    · rw [am_gI_sI, if_neg (fun q => by omega)]
    · rw [am_gI_sI, if_neg (fun q => by omega)]; exact h203.1
    · rw [am_gI_sI, if_neg (fun q => by omega), am_gI_sI, if_neg (fun q => by omega)]; exact h203.2
    · rw [am_gI_sI, if_neg (fun q => by omega), am_gI_sI, if_pos ⟨rfl, rfl, rfl⟩, am_gI_sI, if_pos ⟨rfl, rfl, rfl⟩]
    · rw [am_gI_sI, if_neg (fun q => by omega), am_gI_sI, if_pos ⟨rfl, rfl, rfl⟩]
    · rw [am_gI_sI, if_pos ⟨rfl, rfl, rfl⟩]
  · simp (decide := true) only [↓reduceIte]
    refine ⟨rfl, Or.inr (Or.inr rfl), s3, hop, hkp, ?_, PR_PH (L := L) (p := p) (f := f) (P := P) ⟨p1, d5, m3, d4, m2, d7, m5, fun i hi => ?_, p9⟩⟩
    · rcases s8 with q | ⟨q1, q2, q3⟩
      · exact Or.inl q
      · exact Or.inr ⟨q1, q2, q3, by rw [d4, d5]; exact hlt⟩
    · rw [d6, m4]; exact p8 i hi
end SI3
