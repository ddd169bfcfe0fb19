/-! ===== a tick on both sides: an answer ===== -/
section SI5
variable {l : Launch} {C0 M0 C M C' M' : am_H} {D : Nat → Nat → Int32} {Ts : Nat → Nat → Nat → Int32} {Ns : Nat → Nat} {K Mt j t n k w a e : Nat} {g g' : Prop} {x : Int32}
theorem gI_ans {y b c : Nat} (h1 : ¬ (y = 928 ∧ c = 30 * j + n)) (h2 : y ≠ 940) (h3 : y ≠ 941) (h4 : ¬ (y = 8 ∧ (c = 39 ∨ c = 50 ∨ c = 51))) : am_gI (mq_ans M j n x) y b c = am_gI M y b c := by
  unfold mq_ans
  rw [am_gI_sI, if_neg (fun q => h4 ⟨q.1, by omega⟩), am_gI_sI, if_neg (fun q => h4 ⟨q.1, by omega⟩), am_gI_sI, if_neg (fun q => h4 ⟨q.1, by omega⟩)]
  split
  · rw [am_gI_sI, if_neg (fun q => h3 q.1), am_gI_sI, if_neg (fun q => h2 q.1), am_gI_sI, if_neg (fun q => h1 ⟨q.1, q.2.2⟩)]
  · rw [am_gI_sI, if_neg (fun q => h1 ⟨q.1, q.2.2⟩)]
theorem ans_928 : am_gI (mq_ans M j n x) 928 0 (30 * j + n) = x := by
  unfold mq_ans
  split
  · simp (decide := true) only [am_gI_sI, false_and, true_and, and_self, ↓reduceIte]
  · simp (decide := true) only [am_gI_sI, false_and, true_and, and_self, ↓reduceIte]
theorem ans_39 : am_gI (mq_ans M j n x) 8 0 39 = am_gI M 8 0 39 + 1 := by
  unfold mq_ans
  simp (decide := true) only [am_gI_sI, false_and, and_false, true_and, and_self, ↓reduceIte]
theorem ans_50 : am_gI (mq_ans M j n x) 8 0 50 = x := by
  unfold mq_ans
  simp (decide := true) only [am_gI_sI, false_and, and_false, true_and, and_self, ↓reduceIte]
theorem ans_51 : am_gI (mq_ans M j n x) 8 0 51 = -4 := by
  unfold mq_ans
  simp (decide := true) only [am_gI_sI, false_and, and_false, true_and, and_self, ↓reduceIte]
theorem ans_940 {c : Nat} : am_gI (mq_ans M j n x) 940 0 c = if am_gI M 8 0 39 < 40 ∧ c = (am_gI M 8 0 39).toNatClampNeg then nI n else am_gI M 940 0 c := by
  unfold mq_ans
  by_cases h : am_gI M 8 0 39 < 40
  · simp (decide := true) only [h, am_gI_sI, false_and, true_and, ↓reduceIte]
  · simp (decide := true) only [h, am_gI_sI, false_and, ↓reduceIte]
theorem ans_941 {c : Nat} : am_gI (mq_ans M j n x) 941 0 c = if am_gI M 8 0 39 < 40 ∧ c = (am_gI M 8 0 39).toNatClampNeg then x else am_gI M 941 0 c := by
  unfold mq_ans
  by_cases h : am_gI M 8 0 39 < 40
  · simp (decide := true) only [h, am_gI_sI, false_and, true_and, ↓reduceIte]
  · simp (decide := true) only [h, am_gI_sI, false_and, ↓reduceIte]
theorem ans_R {y b c : Nat} : am_gR (mq_ans M j n x) y b c = am_gR M y b c := by
  unfold mq_ans
  split <;> rfl
theorem ans_L {y b c : Nat} : am_gL (mq_ans M j n x) y b c = am_gL M y b c := by
  unfold mq_ans
  split <;> rfl
theorem ans_v : am_lv (mq_ans M j n x) = am_lv M := by
  unfold mq_ans
  split <;> rfl
theorem gI_note {y b c : Nat} (h1 : ¬ ((y = 201 ∨ y = 202 ∨ y = 208) ∧ b = j ∧ c = n)) (h0 : ¬ (y = 0 ∧ c = 0)) (h2 : y ≠ 101) (h3 : y ≠ 102) : am_gI (sp_note C j n x) y b c = am_gI C y b c := by
  have e : am_gI (am_sI (am_sI (am_sI C 201 j n x) 202 j n (am_gI C 202 j n + 1)) 208 j n 1) y b c = am_gI C y b c := by
    rw [am_gI_sI, if_neg (fun q => h1 ⟨by omega, q.2⟩), am_gI_sI, if_neg (fun q => h1 ⟨by omega, q.2⟩), am_gI_sI, if_neg (fun q => h1 ⟨by omega, q.2⟩)]
  unfold sp_note sp_add
  rw [am_gI_sI, if_neg (fun q => h0 ⟨q.1, q.2.2⟩)]
  split
  · rw [am_gI_sI, if_neg (fun q => h3 q.1), am_gI_sI, if_neg (fun q => h2 q.1)]
    exact e
  · exact e
theorem note_0 : am_gI (am_sI (am_sI (am_sI C 201 j n x) 202 j n (am_gI C 202 j n + 1)) 208 j n 1) 0 0 0 = am_gI C 0 0 0 := by
  rw [am_gI_sI, if_neg (fun q => by omega), am_gI_sI, if_neg (fun q => by omega), am_gI_sI, if_neg (fun q => by omega)]
theorem note_k {y : Nat} (hy : y = 201 ∨ y = 202 ∨ y = 208) : am_gI (sp_note C j n x) y j n = am_gI (am_sI (am_sI (am_sI C 201 j n x) 202 j n (am_gI C 202 j n + 1)) 208 j n 1) y j n := by
  unfold sp_note sp_add
  rw [am_gI_sI, if_neg (fun q => by omega)]
  split
  · rw [am_gI_sI, if_neg (fun q => by omega), am_gI_sI, if_neg (fun q => by omega)]
  · rfl
theorem note_201 : am_gI (sp_note C j n x) 201 j n = x := by
  rw [note_k (by omega)]
  simp (decide := true) only [am_gI_sI, false_and, true_and, and_self, ↓reduceIte]
theorem note_202 : am_gI (sp_note C j n x) 202 j n = am_gI C 202 j n + 1 := by
  rw [note_k (by omega)]
  simp (decide := true) only [am_gI_sI, false_and, true_and, and_self, ↓reduceIte]
theorem note_208 : am_gI (sp_note C j n x) 208 j n = 1 := by
  rw [note_k (by omega)]
  simp (decide := true) only [am_gI_sI, false_and, true_and, and_self, ↓reduceIte]
theorem note_l0 : am_gI (sp_note C j n x) 0 0 0 = am_gI C 0 0 0 + 1 := by
  unfold sp_note sp_add
  rw [am_gI_sI, if_pos ⟨rfl, rfl, rfl⟩, note_0]
theorem note_101 {c : Nat} : am_gI (sp_note C j n x) 101 0 c = if am_gI C 0 0 0 < 40 ∧ c = (am_gI C 0 0 0).toNatClampNeg then nI n else am_gI C 101 0 c := by
  unfold sp_note sp_add
  rw [note_0]
  by_cases h : am_gI C 0 0 0 < 40
  · simp (decide := true) only [h, am_gI_sI, false_and, true_and, ↓reduceIte]
  · simp (decide := true) only [h, am_gI_sI, false_and, ↓reduceIte]
theorem note_102 {c : Nat} : am_gI (sp_note C j n x) 102 0 c = if am_gI C 0 0 0 < 40 ∧ c = (am_gI C 0 0 0).toNatClampNeg then x else am_gI C 102 0 c := by
  unfold sp_note sp_add
  rw [note_0]
  by_cases h : am_gI C 0 0 0 < 40
  · simp (decide := true) only [h, am_gI_sI, false_and, true_and, ↓reduceIte]
  · simp (decide := true) only [h, am_gI_sI, false_and, ↓reduceIte]
theorem note_R {y b c : Nat} : am_gR (sp_note C j n x) y b c = am_gR C y b c := by
  unfold sp_note sp_add
  rw [am_gR_sI]
  split <;> rfl
theorem note_L {y b c : Nat} : am_gL (sp_note C j n x) y b c = am_gL C y b c := by
  unfold sp_note sp_add
  rw [am_gL_sI]
  split <;> rfl
theorem note_v : am_lv (sp_note C j n x) = am_lv C := by
  unfold sp_note sp_add
  rw [am_lv_sI]
  split <;> rfl
theorem note_CF : CF C (sp_note C j n x) j := ⟨fun a b i _ q1 q2 q3 _ _ _ q7 => gI_note (fun z => q7 ⟨by omega, by omega, z.2.1, by omega⟩) (fun z => q1 z.1) q2 q3, fun _ _ _ _ _ => note_L, fun _ _ _ _ _ => note_R, fun TA Cn _ h => by unfold R_V; rw [note_v]; exact h⟩
theorem ans_MF (hn : n < 30) : MF M (mq_ans M j n x) j := ⟨fun a b i q0 q1 q2 q3 q4 => gI_ans (by omega) (by omega) (by omega) (by omega), fun b i q => gI_ans (by omega) (by omega) (by omega) (by omega), fun i q => gI_ans (by omega) (by omega) (by omega) (by omega), fun a i q0 q1 q2 q3 => gI_ans (by omega) (by omega) (by omega) (by omega), fun i q => gI_ans (by omega) (by omega) (by omega) (by omega), fun _ _ _ _ => ans_L, fun _ _ _ => ans_R, ans_v⟩
/-- an answer is noted on both sides -/
theorem note_rel (h : GS C M D Ts Ns K Mt j t) (hn : n < 30) (hm : NM C M D K (Ts t) j n g) (hg : x = 3 → g) : GS (sp_note C j n x) (mq_ans M j n x) D Ts Ns K Mt j t ∧ OP C M (sp_note C j n x) (mq_ans M j n x) j n ∧ NX (sp_note C j n x) (mq_ans M j n x) D K (Ts t) j n := by
  have hC := note_CF (C := C) (j := j) (n := n) (x := x)
  have hM := ans_MF (M := M) (j := j) (x := x) hn
  refine ⟨GS_of hC hM h (R_W_cg h.1 ?_ ?_ (fun i => ?_) (fun i => note_L) (fun i => ?_) (fun i => ?_) (fun i => ans_L) (fun i => ?_)) (fun i hi => ?_) ⟨?_, fun i hi => ⟨?_, ?_⟩⟩ (RP_cg (fun k i hk => ?_) h.2.2.2.2.1), ⟨hC, hM, fun k hk => ⟨⟨fun a q1 q2 q3 => ?_, fun i hi => ?_⟩, ⟨fun a q1 q2 q3 => ?_, fun i hi => ?_, ?_⟩⟩, ⟨fun a i q1 q2 => ?_, ?_⟩⟩, ?_, ?_, ?_, ?_⟩
  · exact gI_note (by omega) (by omega) (by decide) (by decide)
  · exact gI_ans (by omega) (by decide) (by decide) (by omega)
  · exact gI_note (by omega) (by omega) (by decide) (by decide)
  · exact gI_note (by omega) (by omega) (by decide) (by decide)
  · exact gI_ans (by omega) (by decide) (by decide) (by omega)
  · exact gI_ans (by omega) (by decide) (by decide) (by omega)
  · rw [gI_note (by omega) (by omega) (by decide) (by decide), gI_ans (by omega) (by decide) (by decide) (by omega)]
    exact h.2.2.1 i hi
  · rw [note_l0, ans_39, h.2.2.2.1.1]
  · rw [note_101, ans_940, h.2.2.2.1.1, (h.2.2.2.1.2 i hi).1]
  · rw [note_102, ans_941, h.2.2.2.1.1, (h.2.2.2.1.2 i hi).2]
  · exact gI_ans (by omega) (by omega) (by omega) (by omega)
  · exact gI_note (by omega) (by omega) (by omega) (by omega)
  · exact gI_note (by omega) (by omega) (by omega) (by omega)
  · exact gI_ans (by omega) (by omega) (by omega) (by omega)
  · exact gI_ans (by omega) (by omega) (by omega) (by omega)
  · exact gI_ans (by omega) (by omega) (by omega) (by omega)
  · exact gI_ans (by omega) (by omega) (by omega) (by omega)
  · exact gI_ans (by omega) (by omega) (by omega) (by omega)
  · obtain ⟨⟨a1, a2, a3, a4, a5⟩, b2, b3, b4⟩ := hm
    have c3 : am_gI (sp_note C j n x) 203 j n = am_gI C 203 j n := gI_note (by omega) (by omega) (by decide) (by decide)
    have c4 : am_gI (sp_note C j n x) 204 j n = am_gI C 204 j n := gI_note (by omega) (by omega) (by decide) (by decide)
    have c5 : am_gI (sp_note C j n x) 205 j n = am_gI C 205 j n := gI_note (by omega) (by omega) (by decide) (by decide)
    have c6 : ∀ i, am_gI (sp_note C j n x) 206 j i = am_gI C 206 j i := fun i => gI_note (by omega) (by omega) (by decide) (by decide)
    have c7 : am_gI (sp_note C j n x) 207 j n = am_gI C 207 j n := gI_note (by omega) (by omega) (by decide) (by decide)
    have m0 : ∀ a i, 930 ≤ a → a ≤ 935 → am_gI (mq_ans M j n x) a 0 i = am_gI M a 0 i := fun a i q1 q2 => gI_ans (by omega) (by omega) (by omega) (by omega)
    refine ⟨by rw [note_201, ans_928], by rw [c3, c4, c5, m0 930 _ (by decide) (by decide), m0 931 _ (by decide) (by decide)]; exact a2, fun h9 => ?_, fun q1 q2 => ?_, by rw [c4]; exact a5⟩
    · obtain ⟨p1, p2⟩ := a3 h9
      refine ⟨by rw [c5, m0 933 _ (by decide) (by decide)]; exact p1, ?_⟩
      rcases p2 with p2 | ⟨L, p, f, P, z1, z2, z3, z4, z5, z6, z7, z8⟩
      · exact Or.inl (by rw [c5, c4]; exact p2)
      · refine Or.inr ⟨L, p, f, P, z1, by rw [c5]; exact z2, by rw [c4]; exact z3, by rw [m0 932 _ (by decide) (by decide)]; exact z4, by rw [c7]; exact z5, by rw [m0 935 _ (by decide) (by decide)]; exact z6, fun i hi => ?_, z8⟩
        rw [c6, m0 934 _ (by decide) (by decide)]
        exact z7 i hi
    · rw [note_208, note_201] at q2
      have hx : x = 3 := q2.resolve_left (by decide)
      rw [c4, m0 932 _ (by decide) (by decide)]
      exact a4 q1 (hg hx)
  · rw [note_202, gI_ans (by omega) (by decide) (by decide) (by omega)]
    exact hm.2.1
  · rw [note_208, gI_ans (by omega) (by decide) (by decide) (by omega)]
    exact hm.2.2.1.symm
  · exact Or.inr note_208
/-- node n has begun; its parts, and all else, between its beginning and its answer -/
def E0 (C0 M0 C M : am_H) (D : Nat → Nat → Int32) (Ts : Nat → Nat → Nat → Int32) (Ns : Nat → Nat) (K Mt j t n w : Nat) (g : Prop) : Prop := GS C M D Ts Ns K Mt j t ∧ CF C0 C j ∧ MF M0 M j ∧ (∀ k, k < 30 → (k < n ∨ n + tn (Ts t) n ≤ k) → FC C0 C j k ∧ FM M0 M j k) ∧ (∀ a i, 944 ≤ a → a ≤ 948 → i < w → am_gI M a 0 i = am_gI M0 a 0 i) ∧ (∀ k, n < k → k < n + tn (Ts t) n → NX C M D K (Ts t) j k) ∧ NM C M D K (Ts t) j n g
/-- node n has answered x -/
def SP (C0 M0 C M : am_H) (D : Nat → Nat → Int32) (Ts : Nat → Nat → Nat → Int32) (Ns : Nat → Nat) (K Mt j t n w : Nat) (x : Int32) : Prop := GS C M D Ts Ns K Mt j t ∧ CF C0 C j ∧ MF M0 M j ∧ (∀ k, k < 30 → (k < n ∨ n + tn (Ts t) n ≤ k) → FC C0 C j k ∧ FM M0 M j k) ∧ (∀ a i, 944 ≤ a → a ≤ 948 → i < w → am_gI M a 0 i = am_gI M0 a 0 i) ∧ (∀ k, n ≤ k → k < n + tn (Ts t) n → NX C M D K (Ts t) j k) ∧ (x = 1 ∨ x = 2 ∨ x = 3) ∧ am_gI M 8 0 50 = x ∧ am_gI M 8 0 51 = -4 ∧ am_gI M 8 0 43 = nI w
theorem SP_end (hw : ∃ S, wf_P C S) (h : E0 C0 M0 C M D Ts Ns K Mt j t n w g) (h43 : am_gI M 8 0 43 = nI w) (hn : n < 30) (ht1 : 1 ≤ tn (Ts t) n) (hg : x = 3 → g) (hx : x = 1 ∨ x = 2 ∨ x = 3) : SP C0 M0 (sp_note C j n x) (mq_ans M j n x) D Ts Ns K Mt j t n w x := by
  obtain ⟨h1, h2, h3, h4, h5, h6, h7⟩ := h
  obtain ⟨r1, r2, r3⟩ := note_rel h1 hn h7 hg
  refine ⟨r1, CF_t hw h2 r2.1, MF_t h3 r2.2.1, fun k hk hk2 => ?_, fun a i q1 q2 q3 => ?_, fun k hk hk2 => ?_, hx, ans_50, ans_51, ?_⟩
  · have hkn : k ≠ n := by omega
    obtain ⟨f1, f2⟩ := h4 k hk hk2
    obtain ⟨f3, f4⟩ := r2.2.2.1 k hkn
    exact ⟨FC_t f1 f3, FM_t f2 f4⟩
  · rw [r2.2.2.2.1 a i q1 q2]
    exact h5 a i q1 q2 q3
  · by_cases hkn : k = n
    · subst hkn
      exact r3
    · obtain ⟨f3, f4⟩ := r2.2.2.1 k hkn
      exact NX_cn f3 f4 (h6 k (by omega) hk2)
  · rw [r2.2.2.2.2]
    exact h43
theorem E0_op (hw : ∃ S, wf_P C S) (h : E0 C0 M0 C M D Ts Ns K Mt j t n w g) (h1 : GS C' M' D Ts Ns K Mt j t) (hC : CF C C' j) (hM : MF M M' j) (hF : ∀ k, k ≠ n → FC C C' j k ∧ FM M M' j k) (hP : ∀ a i, 944 ≤ a → a ≤ 948 → i < w → am_gI M' a 0 i = am_gI M a 0 i) (hm : NM C' M' D K (Ts t) j n g') (ht1 : 1 ≤ tn (Ts t) n) : E0 C0 M0 C' M' D Ts Ns K Mt j t n w g' := by
  obtain ⟨q1, q2, q3, q4, q5, q6, q7⟩ := h
  refine ⟨h1, CF_t hw q2 hC, MF_t q3 hM, fun k hk hk2 => ?_, fun a i z1 z2 z3 => (hP a i z1 z2 z3).trans (q5 a i z1 z2 z3), fun k hk hk2 => ?_, hm⟩
  · obtain ⟨f1, f2⟩ := q4 k hk hk2
    obtain ⟨f3, f4⟩ := hF k (by omega)
    exact ⟨FC_t f1 f3, FM_t f2 f4⟩
  · obtain ⟨f3, f4⟩ := hF k (by omega)
    exact NX_cn f3 f4 (q6 k hk hk2)
/-- a node begins -/
theorem bg_rel (h : GS C M D Ts Ns K Mt j t) (hn : n < 30) (ht1 : 1 ≤ tn (Ts t) n) (hX : ∀ k, n ≤ k → k < n + tn (Ts t) n → NX C M D K (Ts t) j k ∧ am_gI C 208 j k = 0) : E0 C M C (mq_bg M j n) D Ts Ns K Mt j t n w True := by
  have hM : MF M (mq_bg M j n) j := by
    unfold mq_bg
    exact MF_x (MF_x MF_r (by omega)) (by omega)
  have f2 : ∀ k, k ≠ n → FM M (mq_bg M j n) j k := by
    intro k hk
    refine ⟨fun a q1 q2 q3 => ?_, fun i hi => gI_bg (by decide) (by decide), ?_⟩
    · unfold mq_bg
      rw [am_gI_sI, if_neg (fun q => by omega), am_gI_sI, if_neg (fun q => by omega)]
    · unfold mq_bg
      rw [am_gI_sI, if_neg (fun q => by omega), am_gI_sI, if_neg (fun q => by omega)]
  obtain ⟨⟨a1, a2, a3, a4⟩, a5⟩ := hX n (Nat.le_refl n) (by omega)
  refine ⟨GS_of CF_r hM h (R_W_cg h.1 rfl (gI_bg (by decide) (by decide)) (fun _ => rfl) (fun _ => rfl) (fun _ => rfl) (fun i => gI_bg (by decide) (by decide)) (fun _ => rfl) (fun i => gI_bg (by decide) (by decide))) (fun i hi => ?_) ⟨?_, fun i hi => ⟨?_, ?_⟩⟩ (RP_cg (fun k i hk => gI_bg (by omega) (by omega)) h.2.2.2.2.1), CF_r, hM, fun k hk hk2 => ⟨FC_r, f2 k (by omega)⟩, fun a i q1 q2 _ => gI_bg (by omega) (by omega), fun k hk hk2 => NX_cn FC_r (f2 k (by omega)) (hX k (by omega) hk2).1, ⟨?_, ?_, ?_, a5⟩⟩
  · rw [gI_bg (by decide) (by decide)]; exact h.2.2.1 i hi
  · rw [gI_bg (by decide) (by decide)]; exact h.2.2.2.1.1
  · rw [gI_bg (by decide) (by decide)]; exact (h.2.2.2.1.2 i hi).1
  · rw [gI_bg (by decide) (by decide)]; exact (h.2.2.2.1.2 i hi).2
  · obtain ⟨b1, b2, b3, b4, b5⟩ := a1
    have e : ∀ a i, 928 ≤ a → a ≤ 935 → a ≠ 929 → am_gI (mq_bg M j n) a 0 i = am_gI M a 0 i := fun a i q1 q2 q3 => gI_bg (by omega) q3
    refine ⟨by rw [e 928 _ (by decide) (by decide) (by decide)]; exact b1, by rw [e 930 _ (by decide) (by decide) (by decide), e 931 _ (by decide) (by decide) (by decide)]; exact b2, fun h9 => ?_, fun q1 _ => ?_, b5⟩
    · obtain ⟨p1, p2⟩ := b3 h9
      refine ⟨by rw [e 933 _ (by decide) (by decide) (by decide)]; exact p1, ?_⟩
      rcases p2 with p2 | ⟨L, p, f, P, z1, z2, z3, z4, z5, z6, z7, z8⟩
      · exact Or.inl p2
      · refine Or.inr ⟨L, p, f, P, z1, z2, z3, by rw [e 932 _ (by decide) (by decide) (by decide)]; exact z4, z5, by rw [e 935 _ (by decide) (by decide) (by decide)]; exact z6, fun i hi => ?_, z8⟩
        rw [e 934 _ (by decide) (by decide) (by decide)]
        exact z7 i hi
    · rw [e 932 _ (by decide) (by decide) (by decide)]
      exact b4 q1 (Or.inl a5)
  · unfold mq_bg
    rw [am_gI_sI, if_pos ⟨rfl, rfl, rfl⟩, a2]
  · unfold mq_bg
    rw [am_gI_sI, if_neg (fun q => by omega), am_gI_sI, if_pos ⟨rfl, rfl, rfl⟩]
end SI5
