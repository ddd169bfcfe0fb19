/-! ===== behind a tick, both sides ===== -/
section ST1
variable {l : Launch} {C M C' M' M1 : am_H} {D : Nat → Nat → Int32} {Ts : Nat → Nat → Nat → Int32} {Ns : Nat → Nat} {T : Nat → Nat → Int32} {K Mt j t n k w d A S N : Nat} {ef : Nat → Int32} {O : Prop}
/-- a node that is settled: what the reference's second way still sets stands in the class already -/
def DN (C M : am_H) (D : Nat → Nat → Int32) (K : Nat) (T : Nat → Nat → Int32) (j n : Nat) (O : Prop) : Prop := am_gI C 201 j n = am_gI M 928 0 (30 * j + n) ∧ am_gI C 202 j n = am_gI M 929 0 (30 * j + n) ∧ ((am_gI M 930 0 (30 * j + n) = 0 ∧ am_gI C 203 j n = 0) ∨ (am_gI M 930 0 (30 * j + n) = 1 ∧ am_gI C 203 j n = am_gI M 931 0 (30 * j + n) ∧ (∃ a, 1 ≤ a ∧ a ≤ 20 ∧ am_gI C 203 j n = nI a) ∧ (T 602 n = 0 ∨ T 602 n = 9 ∧ ¬ (O ∨ am_gI C 201 j n = 1) ∧ am_gI C 204 j n < am_gI C 205 j n))) ∧
  (T 602 n = 9 → ((O ∨ am_gI C 201 j n = 1) → am_gI C 205 j n = 0 ∧ am_gI C 204 j n = 0) ∧ (¬ (O ∨ am_gI C 201 j n = 1) → PR C M D K T j n)) ∧ (T 602 n = 6 ∨ T 602 n = 7 → ((O ∨ ¬ am_gI C 201 j n = 3) → am_gI C 204 j n = 0) ∧ (¬ (O ∨ ¬ am_gI C 201 j n = 3) → ∃ p : Nat, am_gI C 204 j n = nI p ∧ am_gI M 932 0 (30 * j + n) = nI p ∧ p < (T 603 n).toNatClampNeg)) ∧ (T 602 n ≠ 6 → T 602 n ≠ 7 → T 602 n ≠ 9 → am_gI C 204 j n = 0)
theorem DN_cn (hC : FC C C' j n) (hM : FM M M' j n) (h : DN C M D K T j n O) : DN C' M' D K T j n O := by
  obtain ⟨a1, a2, a3, a4, a5, a6⟩ := h
  have e1 := hC.1 201 (by decide) (by decide) (by decide)
  have e2 := hC.1 202 (by decide) (by decide) (by decide)
  have e3 := hC.1 203 (by decide) (by decide) (by decide)
  have e4 := hC.1 204 (by decide) (by decide) (by decide)
  have e5 := hC.1 205 (by decide) (by decide) (by decide)
  have m8 := hM.1 928 (by decide) (by decide) (by decide)
  have m9 := hM.1 929 (by decide) (by decide) (by decide)
  have m0 := hM.1 930 (by decide) (by decide) (by decide)
  have m1 := hM.1 931 (by decide) (by decide) (by decide)
  have m2 := hM.1 932 (by decide) (by decide) (by decide)
  unfold DN
  rw [e1, e2, e3, e4, e5, m8, m9, m0, m1, m2]
  exact ⟨a1, a2, a3, fun h9 => ⟨(a4 h9).1, fun z => PR_cn hC hM ((a4 h9).2 z)⟩, a5, a6⟩
theorem breakOff_CF : CF C (sp_breakOff C j t n) j := by
  unfold sp_breakOff
  split
  · exact CF_bring (CF_x (CF_x CF_r (by omega)) (by omega))
  · exact CF_x (CF_x CF_r (by omega)) (by omega)
theorem mbreak_MF (hn : n < 30) : MF M (mp_break M j t n d) j := by
  unfold mp_break
  split
  · exact MF_x (MF_x (MF_x (MF_comes MF_r) (by omega)) (by omega)) (by omega)
  · exact MF_x (MF_x (MF_comes MF_r) (by omega)) (by omega)
theorem mbreak_933 : am_gI (mp_break M j t n d) 933 0 (30 * j + n) = if am_gI M 918 0 (30 * t + n) = 9 then 0 else am_gI M 933 0 (30 * j + n) := by
  unfold mp_break
  split
  · rw [am_gI_sI, if_pos ⟨rfl, rfl, rfl⟩]
  · rw [am_gI_sI, if_neg (fun q => by omega), am_gI_sI, if_neg (fun q => by omega), gI_comes (by decide)]
theorem break_rel (h : GS C M D Ts Ns K Mt j t) (hn : n < 30) (hd : d < K) (hs : sp_doingOf C j t n = nI d) : GS (sp_breakOff C j t n) (mp_break M j t n d) D Ts Ns K Mt j t ∧ CF C (sp_breakOff C j t n) j ∧ MF M (mp_break M j t n d) j ∧ ∀ k, k ≠ n → FC C (sp_breakOff C j t n) j k ∧ FM M (mp_break M j t n d) j k := by
  have hC := breakOff_CF (C := C) (j := j) (t := t) (n := n)
  have hM := mbreak_MF (M := M) (j := j) (t := t) (d := d) hn
  refine ⟨GS_of hC hM h (break_W h.1 h.2.1 hd hs) (break_c h.2.2.1) ⟨?_, fun i hi => ⟨?_, ?_⟩⟩ (RP_cg (fun k i hk => gI_mbreak (by omega) (by omega) (by omega) (by omega)) h.2.2.2.2.1), hC, hM, fun k hk => ⟨⟨fun a q1 q2 q3 => ?_, fun i hi => gI_breakOff_ne (by decide)⟩, ⟨fun a q1 q2 q3 => gI_mbreak (by omega) (by omega) (by omega) (by omega), fun i hi => gI_mbreak (by decide) (by omega) (by omega) (by omega), gI_mbreak (by decide) (by omega) (by omega) (by omega)⟩⟩⟩
  · rw [gI_breakOff_ne (by decide), gI_mbreak (by decide) (by omega) (by omega) (by omega)]
    exact h.2.2.2.1.1
  · rw [gI_breakOff_ne (by decide), gI_mbreak (by decide) (by omega) (by omega) (by omega)]
    exact (h.2.2.2.1.2 i hi).1
  · rw [gI_breakOff_ne (by decide), gI_mbreak (by decide) (by omega) (by omega) (by omega)]
    exact (h.2.2.2.1.2 i hi).2
  · by_cases h3 : a = 203
    · subst h3
      rw [gI_breakOff_203, if_neg hk]
    · exact gI_breakOff_ne ⟨h3, by omega, by omega⟩
/-- what comes behind, of one node -/
def SS (C M C' M' : am_H) (D : Nat → Nat → Int32) (Ts : Nat → Nat → Nat → Int32) (Ns : Nat → Nat) (K Mt j t n : Nat) (O : Prop) : Prop := GS C' M' D Ts Ns K Mt j t ∧ CF C C' j ∧ MF M M' j ∧ (∀ k, k ≠ n → FC C C' j k ∧ FM M M' j k) ∧ DN C' M' D K (Ts t) j n O
theorem GS_C {a b : Nat} {c : Nat} {v : Int32} (ha : a = 404 ∨ (201 ≤ a ∧ a ≤ 208 ∧ b = j)) (h : GS C M D Ts Ns K Mt j t) : GS (am_sI C a b c v) M D Ts Ns K Mt j t := by
  have e : ∀ x y z, x ≠ a → am_gI (am_sI C a b c v) x y z = am_gI C x y z := fun x y z hx => by rw [am_gI_sI, if_neg (fun q => hx q.1)]
  exact GS_of (CF_x CF_r (by omega)) MF_r h (R_W_cg h.1 (e 6 0 0 (by omega)) rfl (fun i => e 701 0 i (by omega)) (fun _ => rfl) (fun i => e 703 0 i (by omega)) (fun _ => rfl) (fun _ => rfl) (fun _ => rfl)) (fun i hi => by rw [e 209 j i (by omega)]; exact h.2.2.1 i hi) ⟨by rw [e 0 0 0 (by omega)]; exact h.2.2.2.1.1, fun i hi => by rw [e 101 0 i (by omega), e 102 0 i (by omega)]; exact h.2.2.2.1.2 i hi⟩ h.2.2.2.2.1
set_option maxHeartbeats 1000000 in
theorem settle_step {o : Prop} [Decidable o] (hF : FT Ts Ns K Mt j t) (h : GS C M D Ts Ns K Mt j t) (hw : ∃ S, wf_P C S) (hn : n < Ns t) (c2 : am_gI C 602 t n = Ts t 602 n) (c3 : am_gI C 603 t n = Ts t 603 n) (hX : NX C M D K (Ts t) j n) (ho : o ↔ O) (hO : am_gI C 208 j n = 0 → O) (hcb : cB1 M j t ef n ↔ (¬ am_gI M 930 0 (30 * j + n) = 0 ∧ (O ∨ Ts t 602 n = 9 ∧ am_gI C 201 j n = 1))) (hM1 : cB1 M j t ef n → M1 = mp_break M j t n (mp_doing M j t n).toNatClampNeg) (hM0 : ¬ cB1 M j t ef n → M1 = M) :
    SS C M (sp_settle C j t n o) M1 D Ts Ns K Mt j t n O ∧ (cB1 M j t ef n → (am_gI M 918 0 (30 * t + n) = 9 → ∃ p, p < 12 ∧ am_gI M 932 0 (30 * j + n) = nI p) ∧ ∃ d, d < 10 ∧ mp_doing M j t n = nI d ∧ (am_gI M 911 0 d = -4 ∨ vp_in (am_gI M 911 0 d) 12)) := by
  obtain ⟨f1, f2, f3, f4, f5, f6⟩ := hF
  have hN30 := f3 t f1
  have hn30 : n < 30 := by omega
  have hwn := f5.2.2.2.2 n hn
  obtain ⟨t2, t3, -⟩ := h.2.2.2.2.2.2.2.2.2 n hn
  obtain ⟨hR, x2, x3, x4⟩ := hX
  have hGL := GL_of (t := t) hn30 c2 c3 t2 t3 hwn.2.2.2.2.2.2.1 f6 hR
  obtain ⟨r1, r2, r3, r4, r5⟩ := hR
  -- the doing that may be broken off
  have hbr : ¬ am_gI M 930 0 (30 * j + n) = 0 → ∃ d, d < K ∧ sp_doingOf C j t n = nI d ∧ mp_doing M j t n = nI d ∧ 0 < am_gI C 203 j n ∧ (am_gI M 918 0 (30 * t + n) = 9 → ∃ p, p < 12 ∧ am_gI M 932 0 (30 * j + n) = nI p) := by
    intro hz
    rcases hGL with ⟨q, -⟩ | ⟨-, q2, q3, d, q4, q5, q6⟩
    · exact absurd q hz
    · exact ⟨d, q4, q5, q6, q2, q3⟩
  have h203 : (0 < am_gI C 203 j n) ↔ ¬ am_gI M 930 0 (30 * j + n) = 0 := by
    rcases hGL with ⟨q1, q2⟩ | ⟨q1, q2, -⟩
    · rw [q1, q2]
      exact ⟨fun z => absurd z (by decide), fun z => absurd rfl z⟩
    · rw [q1]
      exact ⟨fun _ => by decide, fun _ => q2⟩
  refine and_comm.mp ⟨?_, ?_⟩
  · intro hc
    obtain ⟨d, d1, d2, d3, d4, d5⟩ := hbr (hcb.mp hc).1
    refine ⟨d5, d, by omega, d3, ?_⟩
    rw [← (h.2.1.2.2.2.1 d (by omega)).2.2.2.2.2.2.1]
    exact (h.2.1.2.2.2.2.1 d d1).2.2
  -- what a broken off doing leaves
  have hB : ∀ d, d < K → sp_doingOf C j t n = nI d → mp_doing M j t n = nI d → cB1 M j t ef n → M1 = mp_break M j t n d := by
    intro d d1 d2 d3 hc
    rw [hM1 hc, d3, nI_clamp (show d < 2 ^ 31 by omega)]
  have hnone : ¬ cB1 M j t ef n → (Ts t 602 n = 9 → ¬ (O ∨ am_gI C 201 j n = 1)) → (Ts t 602 n = 6 ∨ Ts t 602 n = 7 → ¬ (O ∨ ¬ am_gI C 201 j n = 3)) → SS C M C M1 D Ts Ns K Mt j t n O := by
    intro hc h9 h67
    rw [hM0 hc]
    refine ⟨h, CF_r, MF_r, fun _ _ => ⟨FC_r, FM_r⟩, r1, x2, ?_, fun z9 => ⟨fun z => absurd z (h9 z9), fun _ => r3 z9⟩, fun z67 => ⟨fun z => absurd z (h67 z67), fun z => r4 z67 (Or.inr (Classical.not_not.mp (fun y => z (Or.inr y))))⟩, r5⟩
    rcases r2 with q | ⟨q1, q2, q3, q4⟩
    · exact Or.inl q
    · exact Or.inr ⟨q1, q2, q3, q4.imp id (fun z => ⟨z.1, h9 z.1, z.2⟩)⟩
  obtain ⟨kk, hk9, hkk⟩ := hwn.2.2.2.2.1
  unfold sp_settle
  by_cases k0 : Ts t 602 n = 0
  · have n9 : ¬ Ts t 602 n = 9 := by rw [k0]; decide
    have n67 : ¬ (Ts t 602 n = 6 ∨ Ts t 602 n = 7) := by rw [k0]; decide
    rw [if_pos (c2.trans k0)]
    by_cases hc : o ∧ 0 < am_gI C 203 j n
    · rw [if_pos hc]
      have hz := h203.mp hc.2
      obtain ⟨d, d1, d2, d3, d4, d5⟩ := hbr hz
      have hcc : cB1 M j t ef n := hcb.mpr ⟨hz, Or.inl (ho.mp hc.1)⟩
      rw [hB d d1 d2 d3 hcc]
      obtain ⟨b1, b2, b3, b4⟩ := break_rel h hn30 d1 d2
      refine ⟨b1, b2, b3, b4, ?_, ?_, Or.inl ⟨gI_mbreak_930, ?_⟩, fun z => absurd z n9, fun z => absurd z n67, fun z1 z2 z3 => ?_⟩
      · rw [gI_breakOff_ne (by decide), gI_mbreak (by decide) (by omega) (by omega) (by omega)]; exact r1
      · rw [gI_breakOff_ne (by decide), gI_mbreak (by decide) (by omega) (by omega) (by omega)]; exact x2
      · rw [gI_breakOff_203, if_pos rfl]
      · rw [gI_breakOff_ne (by decide)]; exact r5 z1 z2 z3
    · rw [if_neg hc]
      refine hnone (fun z => ?_) (fun z => absurd z n9) (fun z => absurd z n67)
      obtain ⟨y1, y2⟩ := hcb.mp z
      rcases y2 with y2 | ⟨y2, -⟩
      · exact hc ⟨ho.mpr y2, h203.mpr y1⟩
      · exact n9 y2
  rw [if_neg (fun z => k0 (c2.symm.trans z))]
  by_cases k9 : Ts t 602 n = 9
  · have n67 : ¬ (Ts t 602 n = 6 ∨ Ts t 602 n = 7) := by rw [k9]; decide
    rw [if_pos (c2.trans k9)]
    by_cases hc : o ∨ am_gI C 201 j n = 1
    · have hc2 : O ∨ am_gI C 201 j n = 1 := hc.imp ho.mp id
      rw [if_pos hc]
      unfold sp_endPlan
      by_cases hz : am_gI M 930 0 (30 * j + n) = 0
      · rw [if_neg (fun y => h203.mp y hz), hM0 (fun y => (hcb.mp y).1 hz)]
        have z203 : am_gI C 203 j n = 0 := by
          rcases r2 with ⟨-, q⟩ | ⟨q, -⟩
          · exact q
          · rw [q] at hz; exact absurd hz (by decide)
        refine ⟨GS_C (Or.inr (by omega)) (GS_C (Or.inr (by omega)) h), CF_x (CF_x CF_r (by omega)) (by omega), MF_r, fun k hk => ⟨⟨fun a q1 q2 q3 => ?_, fun i hi => ?_⟩, FM_r⟩, ?_, ?_, Or.inl ⟨hz, ?_⟩, fun _ => ⟨fun _ => ⟨?_, ?_⟩, fun y => ?_⟩, fun y => absurd y n67, fun _ _ y => absurd k9 y⟩
        · rw [am_gI_sI, if_neg (fun q => by omega), am_gI_sI, if_neg (fun q => by omega)]
        · rw [am_gI_sI, if_neg (fun q => by omega), am_gI_sI, if_neg (fun q => by omega)]
        · rw [am_gI_sI, if_neg (fun q => by omega), am_gI_sI, if_neg (fun q => by omega)]; exact r1
        · rw [am_gI_sI, if_neg (fun q => by omega), am_gI_sI, if_neg (fun q => by omega)]; exact x2
        · rw [am_gI_sI, if_neg (fun q => by omega), am_gI_sI, if_neg (fun q => by omega)]; exact z203
        · rw [am_gI_sI, if_neg (fun q => by omega), am_gI_sI, if_pos ⟨rfl, rfl, rfl⟩]
        · rw [am_gI_sI, if_pos ⟨rfl, rfl, rfl⟩]
        · rw [am_gI_sI, if_neg (fun q => by omega), am_gI_sI, if_neg (fun q => by omega)] at y
          exact absurd hc2 y
      · obtain ⟨d, d1, d2, d3, d4, d5⟩ := hbr hz
        have hcc : cB1 M j t ef n := hcb.mpr ⟨hz, hc2.imp id (fun y => ⟨k9, y⟩)⟩
        rw [if_pos (h203.mpr hz), hB d d1 d2 d3 hcc]
        obtain ⟨b1, b2, b3, b4⟩ := break_rel h hn30 d1 d2
        refine ⟨GS_C (Or.inr (by omega)) (GS_C (Or.inr (by omega)) b1), CF_x (CF_x b2 (by omega)) (by omega), b3, fun k hk => ⟨⟨fun a q1 q2 q3 => ?_, fun i hi => ?_⟩, (b4 k hk).2⟩, ?_, ?_, Or.inl ⟨gI_mbreak_930, ?_⟩, fun _ => ⟨fun _ => ⟨?_, ?_⟩, fun y => ?_⟩, fun y => absurd y n67, fun _ _ y => absurd k9 y⟩
        · rw [am_gI_sI, if_neg (fun q => by omega), am_gI_sI, if_neg (fun q => by omega)]; exact (b4 k hk).1.1 a q1 q2 q3
        · rw [am_gI_sI, if_neg (fun q => by omega), am_gI_sI, if_neg (fun q => by omega)]; exact (b4 k hk).1.2 i hi
        · rw [am_gI_sI, if_neg (fun q => by omega), am_gI_sI, if_neg (fun q => by omega), gI_breakOff_ne (by decide), gI_mbreak (by decide) (by omega) (by omega) (by omega)]; exact r1
        · rw [am_gI_sI, if_neg (fun q => by omega), am_gI_sI, if_neg (fun q => by omega), gI_breakOff_ne (by decide), gI_mbreak (by decide) (by omega) (by omega) (by omega)]; exact x2
        · rw [am_gI_sI, if_neg (fun q => by omega), am_gI_sI, if_neg (fun q => by omega), gI_breakOff_203, if_pos rfl]
        · rw [am_gI_sI, if_neg (fun q => by omega), am_gI_sI, if_pos ⟨rfl, rfl, rfl⟩]
        · rw [am_gI_sI, if_pos ⟨rfl, rfl, rfl⟩]
        · rw [am_gI_sI, if_neg (fun q => by omega), am_gI_sI, if_neg (fun q => by omega), gI_breakOff_ne (by decide)] at y
          exact absurd hc2 y
    · rw [if_neg hc]
      have hc2 : ¬ (O ∨ am_gI C 201 j n = 1) := fun z => hc (z.imp ho.mpr id)
      refine hnone (fun z => ?_) (fun _ => hc2) (fun z => absurd z n67)
      exact hc2 ((hcb.mp z).2.imp id (fun y => y.2))
  rw [if_neg (fun z => k9 (c2.symm.trans z))]
  have h930 : am_gI M 930 0 (30 * j + n) = 0 ∧ am_gI C 203 j n = 0 := by
    rcases r2 with q | ⟨-, -, -, q | ⟨q, -⟩⟩
    · exact q
    · exact absurd q k0
    · exact absurd q k9
  have hnc : ¬ cB1 M j t ef n := fun z => (hcb.mp z).1 h930.1
  by_cases k67 : Ts t 602 n = 6 ∨ Ts t 602 n = 7
  · rw [if_pos (by rw [c2]; exact k67)]
    by_cases hc : o ∨ ¬ am_gI C 201 j n = 3
    · have hc2 : O ∨ ¬ am_gI C 201 j n = 3 := hc.imp ho.mp id
      rw [if_pos hc, hM0 hnc]
      refine ⟨GS_C (Or.inr (by omega)) h, CF_x CF_r (by omega), MF_r, fun k hk => ⟨⟨fun a q1 q2 q3 => ?_, fun i hi => ?_⟩, FM_r⟩, ?_, ?_, Or.inl ⟨h930.1, ?_⟩, fun y => absurd y k9, fun _ => ⟨fun _ => ?_, fun y => ?_⟩, fun y1 y2 _ => absurd k67 (fun z => z.elim y1 y2)⟩
      · rw [am_gI_sI, if_neg (fun q => by omega)]
      · rw [am_gI_sI, if_neg (fun q => by omega)]
      · rw [am_gI_sI, if_neg (fun q => by omega)]; exact r1
      · rw [am_gI_sI, if_neg (fun q => by omega)]; exact x2
      · rw [am_gI_sI, if_neg (fun q => by omega)]; exact h930.2
      · rw [am_gI_sI, if_pos ⟨rfl, rfl, rfl⟩]
      · rw [am_gI_sI, if_neg (fun q => by omega)] at y
        exact absurd hc2 y
    · rw [if_neg hc]
      exact hnone hnc (fun z => absurd z k9) (fun _ z => hc (z.imp ho.mpr id))
  · rw [if_neg (by rw [c2]; exact k67)]
    exact hnone hnc (fun z => absurd z k9) (fun z => absurd z k67)
end ST1
