/-! ===== a tick on both sides: a test ===== -/
section SI1
variable {C M C' M' : am_H} {D : Nat → Nat → Int32} {Ts : Nat → Nat → Nat → Int32} {Ns : Nat → Nat} {T : Nat → Nat → Int32} {K Mt j t n k w N : Nat} {g : Prop}
/-- what waits is as it was -/
def MP (M M' : am_H) : Prop := (∀ a i, 944 ≤ a → a ≤ 948 → am_gI M' a 0 i = am_gI M a 0 i) ∧ am_gI M' 8 0 43 = am_gI M 8 0 43
theorem MP_r : MP M M := ⟨fun _ _ _ _ => rfl, rfl⟩
theorem MP_t {M'' : am_H} (h : MP M M') (h2 : MP M' M'') : MP M M'' := ⟨fun a i q1 q2 => (h2.1 a i q1 q2).trans (h.1 a i q1 q2), h2.2.trans h.2⟩
theorem MP_sI {a c : Nat} {v : Int32} (h : ¬ (944 ≤ a ∧ a ≤ 948)) (h2 : ¬ (a = 8 ∧ c = 43)) : MP M (am_sI M a 0 c v) := by
  refine ⟨fun x i q1 q2 => ?_, ?_⟩
  · rw [am_gI_sI, if_neg (fun z => by obtain ⟨rfl, -, -⟩ := z; omega)]
  · rw [am_gI_sI, if_neg (fun z => by obtain ⟨z1, -, z3⟩ := z; omega)]
/-- an operation of a node n, on both sides -/
def OP (C M C' M' : am_H) (j n : Nat) : Prop := CF C C' j ∧ MF M M' j ∧ (∀ k, k ≠ n → FC C C' j k ∧ FM M M' j k) ∧ MP M M'
theorem OP_r : OP C M C M j n := ⟨CF_r, MF_r, fun _ _ => ⟨FC_r, FM_r⟩, MP_r⟩
theorem OP_t {C'' M'' : am_H} (hw : ∃ S, wf_P C' S) (h : OP C M C' M' j n) (h2 : OP C' M' C'' M'' j n) : OP C M C'' M'' j n :=
  ⟨CF_t hw h.1 h2.1, MF_t h.2.1 h2.2.1, fun k hk => ⟨FC_t (h.2.2.1 k hk).1 (h2.2.2.1 k hk).1, FM_t (h.2.2.1 k hk).2 (h2.2.2.1 k hk).2⟩, MP_t h.2.2.2 h2.2.2.2⟩
theorem FC_209 {i : Nat} {v : Int32} : FC C (am_sI C 209 j i v) j k := ⟨fun a _ h _ => by rw [am_gI_sI, if_neg (fun q => by omega)], fun i _ => by rw [am_gI_sI, if_neg (fun q => by omega)]⟩
theorem FM_sI {a i : Nat} {v : Int32} (h : ¬ (928 ≤ a ∧ a ≤ 935) ∧ a ≠ 942) : FM M (am_sI M a 0 i v) j k := ⟨fun x _ _ _ => by rw [am_gI_sI, if_neg (fun q => by omega)], fun i _ => by rw [am_gI_sI, if_neg (fun q => by omega)], by rw [am_gI_sI, if_neg (fun q => by omega)]⟩
def sp_nf (C : am_H) (j n : Nat) (s : Int32) : am_H := am_sI (am_sI (am_sI C 209 j 4 (am_gI C 209 j 4 + 1)) 209 j 5 s) 209 j 6 (nI n)
theorem find_rel {s : Int32} (h : GS C M D Ts Ns K Mt j t) : GS (sp_nf C j n s) (mq_find M j n s) D Ts Ns K Mt j t ∧ OP C M (sp_nf C j n s) (mq_find M j n s) j k ∧ FC C (sp_nf C j n s) j k ∧ FM M (mq_find M j n s) j k := by
  have f1 : ∀ i, FC C (sp_nf C j n s) j i := fun i => FC_t FC_209 (FC_t FC_209 FC_209)
  have f2 : ∀ i, FM M (mq_find M j n s) j i := fun i => FM_t (FM_sI (by decide)) (FM_t (FM_sI (by decide)) (FM_sI (by decide)))
  have hC : CF C (sp_nf C j n s) j := by
    unfold sp_nf
    exact CF_x (CF_x (CF_x CF_r (by omega)) (by omega)) (by omega)
  have hM : MF M (mq_find M j n s) j := by
    unfold mq_find
    exact MF_x (MF_x (MF_x MF_r (by omega)) (by omega)) (by omega)
  refine ⟨GS_of hC hM h (R_W_cg h.1 rfl rfl (fun _ => rfl) (fun _ => rfl) (fun _ => rfl) (fun _ => rfl) (fun _ => rfl) (fun _ => rfl)) (fun i hi => ?_) ⟨h.2.2.2.1.1, h.2.2.2.1.2⟩ (RP_cg (fun k i hk => ?_) h.2.2.2.2.1), ⟨hC, hM, fun k _ => ⟨f1 k, f2 k⟩, MP_t (MP_sI (by decide) (by omega)) (MP_t (MP_sI (by decide) (by omega)) (MP_sI (by decide) (by omega)))⟩, f1 k, f2 k⟩
  · have hc := h.2.2.1
    unfold sp_nf mq_find
    simp (decide := true) only [am_gI_sI, true_and, Nat.add_left_cancel_iff]
    rw [hc i hi, hc 4 (by decide)]
  · unfold mq_find
    rw [am_gI_sI, if_neg (fun q => by omega), am_gI_sI, if_neg (fun q => by omega), am_gI_sI, if_neg (fun q => by omega)]
theorem fact_c : ∀ w, w < 256 → ∀ c, c < 8 → (((nI w ^^^ 255) &&& ((1 : Int32) <<< (nI c &&& 31)) = 0) ↔ ((nI w >>> (nI c &&& 31)) &&& 1 = 1)) := by decide +kernel
theorem row_c {L : Int64} {p : Int32} (h0 : 0 ≤ L.toInt) (h6 : L.toInt ≤ 6) : (0 ≤ p ∧ p.toInt64 ≤ L - 1) ↔ ¬ (p < 0 ∨ L ≤ p.toInt64) := by
  rw [not_or, Int32.not_lt, Int64.not_le]
  have e1 : (L - 1).toInt = L.toInt - 1 := by
    rw [Int64.toInt_sub]
    simp only [Int.bmod, show (1 : Int64).toInt = 1 from rfl]
    omega
  simp only [Int64.le_iff_toInt_le, Int64.lt_iff_toInt_lt, Int32.toInt_toInt64, e1, Int32.reduceToInt, Int32.le_iff_toInt_le]
  omega
theorem bi_cg {p q : Prop} [Decidable p] [Decidable q] (h : p ↔ q) : am_bi p = am_bi q := by
  unfold am_bi
  by_cases hp : p
  · rw [if_pos hp, if_pos (h.mp hp)]
  · rw [if_neg hp, if_neg (fun z => hp (h.mpr z))]
/-- a test answers alike on both sides -/
theorem test_val (h : GS C M D Ts Ns K Mt j t) (hW : wf_W C) (hn : n < Ns t) (c3 : am_gI C 603 t n = Ts t 603 n) (c4 : am_gI C 604 t n = Ts t 604 n) (c5 : am_gI C 605 t n = Ts t 605 n) (hv : (0 ≤ Ts t 603 n ∧ Ts t 603 n ≤ 4) ∧ vp_in (Ts t 604 n) 12 ∧ (Ts t 603 n = 4 → vp_in (Ts t 605 n) 8)) : (sp_test C j t n).1 = (mq_hold M j t n).1 ∧ (((sp_test C j t n).2 = C ∧ (mq_hold M j t n).2 = M) ∨ ∃ s, (sp_test C j t n).2 = sp_nf C j n s ∧ (mq_hold M j t n).2 = mq_find M j n s) := by
  obtain ⟨⟨w0, ⟨w, w1, w2⟩, w3⟩, -, -, -, -, -, -, -, -, hm⟩ := h
  obtain ⟨-, m3, m4, m5, -, -⟩ := hm n hn
  obtain ⟨⟨v0, v1⟩, v2, v3⟩ := hv
  obtain ⟨a, ha, ea⟩ := vp_in_of v2 (by decide)
  obtain ⟨u1, u2, u3⟩ := w3 a ha
  have cl : (nI a).toNatClampNeg = a := nI_clamp (by omega)
  unfold sp_test mq_hold sp_find2 sp_find sp_cs sp_holds
  rw [c3, c4, c5, m3, m4, m5, ea, cl, ← u1, ← u2, ← w0]
  generalize Ts t 603 n = s at *
  generalize Ts t 605 n = p at *
  have hs : s = 0 ∨ s = 1 ∨ s = 2 ∨ s = 3 ∨ s = 4 := by
    simp only [Int32.le_iff_toInt_le, ← Int32.toInt_inj, Int32.reduceToInt] at *
    omega
  clear v0 v1
  rcases hs with rfl | rfl | rfl | rfl | rfl
  · simp (decide := true) only [↓reduceIte, false_and, true_and, and_self, true_or]
    by_cases h0 : am_gI C 701 0 a = 0
    · simp (decide := true) only [h0, ↓reduceIte, true_and, and_self, true_or, and_true]
      exact Or.inr ⟨1, rfl, rfl⟩
    · by_cases h1 : am_gI C 701 0 a = 1
      · simp (decide := true) only [h1, ↓reduceIte, true_and, and_self, true_or, and_true]
      · simp (decide := true) only [h0, h1, ↓reduceIte, true_and, and_self, true_or, and_true]
        exact Or.inr ⟨3, rfl, rfl⟩
  · simp (decide := true) only [↓reduceIte, false_and, true_and, and_self, true_or]
    by_cases h0 : am_gI C 701 0 a = 0
    · simp (decide := true) only [h0, ↓reduceIte, true_and, and_self, true_or, and_true]
      exact Or.inr ⟨1, rfl, rfl⟩
    · by_cases h1 : am_gI C 701 0 a = 1
      · simp (decide := true) only [h1, ↓reduceIte, true_and, and_self, true_or, and_true]
      · simp (decide := true) only [h0, h1, ↓reduceIte, true_and, and_self, true_or, and_true]
        exact Or.inr ⟨3, rfl, rfl⟩
  · simp (decide := true) only [↓reduceIte, false_and, true_and, and_self, true_or]
    by_cases h0 : am_gI C 701 0 a = 0
    · simp (decide := true) only [h0, ↓reduceIte, true_and, and_self, true_or, and_true]
      exact Or.inr ⟨1, rfl, rfl⟩
    · by_cases h1 : am_gI C 701 0 a = 2
      · simp (decide := true) only [h1, ↓reduceIte, true_and, and_self, true_or, and_true]
      · simp (decide := true) only [h0, h1, ↓reduceIte, true_and, and_self, true_or, and_true]
        exact Or.inr ⟨3, rfl, rfl⟩
  · simp (decide := true) only [↓reduceIte, false_and, true_and, and_self, true_or]
    by_cases h0 : am_gI C 701 0 a = 0
    · simp (decide := true) only [h0, ↓reduceIte, true_and, and_self, true_or, and_true]
      exact Or.inr ⟨1, rfl, rfl⟩
    · by_cases h1 : am_gI C 701 0 a = 3
      · obtain ⟨l0, l6⟩ := hW a ha h1
        have hr := row_c (p := p) l0 l6
        by_cases hf : p < 0 ∨ am_gL C 702 0 a ≤ p.toInt64
        · have hf2 : ¬ (0 ≤ p ∧ p.toInt64 ≤ am_gL C 702 0 a - 1) := fun q => hr.mp q hf
          simp (decide := true) only [h1, hf, hf2, ↓reduceIte, true_and, and_self, true_or, and_true]
          exact Or.inr ⟨2, rfl, rfl⟩
        · have hf2 := hr.mpr hf
          simp (decide := true) only [h1, hf, hf2, ↓reduceIte, true_and, and_self, true_or, and_true]
          rw [not_or, Int32.not_lt, Int64.not_le] at hf
          have hp : vp_in p 6 := by
            rw [vp_in_iff]
            simp only [Int32.le_iff_toInt_le, Int64.lt_iff_toInt_lt, Int32.toInt_toInt64, Int32.reduceToInt] at hf
            omega
          obtain ⟨b, hb, rfl⟩ := vp_in_of hp (by decide)
          rw [show nI a * 6 + nI b = nI (a * 6 + b) by rw [show (6 : Int32) = nI 6 from rfl, pk_mul, nI_add], show 6 * nI a + nI b = nI (a * 6 + b) by rw [nI_6m, nI_add], nI_clamp (show a * 6 + b < 2 ^ 31 by omega), u3 h1 b hb]
      · simp (decide := true) only [h0, h1, ↓reduceIte, true_and, and_self, true_or, and_true]
        exact Or.inr ⟨3, rfl, rfl⟩
  · obtain ⟨b, hb, rfl⟩ := vp_in_of (v3 rfl) (by decide)
    simp (decide := true) only [↓reduceIte, true_and, and_self, true_or, and_true]
    rw [w2]
    exact bi_cg (fact_c w (by omega) b hb)
end SI1
