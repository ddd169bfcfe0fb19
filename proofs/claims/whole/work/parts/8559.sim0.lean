/-! ===== a tick on both sides: what is held while it runs ===== -/
section SI0
variable {C M C' M' C'' M'' : am_H} {D : Nat → Nat → Int32} {Ts : Nat → Nat → Nat → Int32} {Ns : Nat → Nat} {T : Nat → Nat → Int32} {K Mt j t n k w N : Nat} {g g' : Prop}
/-- the reference's tree and creature of this tick -/
def MT (M : am_H) (j t N : Nat) (T : Nat → Nat → Int32) : Prop := sh_Q M ∧ am_gI M 8 0 49 = nI j ∧ am_gI M 926 0 j = nI t ∧ am_gI M 917 0 t = nI N ∧ ∀ n, n < N → am_gI M 918 0 (30 * t + n) = T 602 n ∧ am_gI M 919 0 (30 * t + n) = T 603 n ∧ am_gI M 920 0 (30 * t + n) = T 604 n ∧ am_gI M 921 0 (30 * t + n) = T 605 n ∧ am_gI M 922 0 (30 * t + n) = T 606 n ∧ am_gI M 923 0 (30 * t + n) = T 607 n
/-- what is the same for all nodes -/
def GS (C M : am_H) (D : Nat → Nat → Int32) (Ts : Nat → Nat → Nat → Int32) (Ns : Nat → Nat) (K Mt j t : Nat) : Prop := R_W C M ∧ R_D C M D K ∧ (∀ i, i < 8 → am_gI C 209 j i = am_gI M 927 0 (8 * j + i)) ∧ (am_gI C 0 0 0 = am_gI M 8 0 39 ∧ ∀ i, i < 40 → am_gI C 101 0 i = am_gI M 940 0 i ∧ am_gI C 102 0 i = am_gI M 941 0 i) ∧ R_P M D Ts Ns K Mt ∧ MT M j t (Ns t) (Ts t)
/-- a node that is not being asked just now -/
def NX (C M : am_H) (D : Nat → Nat → Int32) (K : Nat) (T : Nat → Nat → Int32) (j n : Nat) : Prop := NR C M D K T j n (am_gI C 208 j n = 0 ∨ am_gI C 201 j n = 3) ∧ am_gI C 202 j n = am_gI M 929 0 (30 * j + n) ∧ am_gI C 208 j n = am_gI M 942 0 n ∧ (am_gI C 208 j n = 0 ∨ am_gI C 208 j n = 1)
/-- a node that has begun and has not answered -/
def NM (C M : am_H) (D : Nat → Nat → Int32) (K : Nat) (T : Nat → Nat → Int32) (j n : Nat) (g : Prop) : Prop := NR C M D K T j n g ∧ am_gI C 202 j n + 1 = am_gI M 929 0 (30 * j + n) ∧ am_gI M 942 0 n = 1 ∧ am_gI C 208 j n = 0
def FC (C C' : am_H) (j k : Nat) : Prop := (∀ a, 201 ≤ a → a ≤ 208 → a ≠ 206 → am_gI C' a j k = am_gI C a j k) ∧ ∀ i, i < 12 → am_gI C' 206 j (k * 12 + i) = am_gI C 206 j (k * 12 + i)
def FM (M M' : am_H) (j k : Nat) : Prop := (∀ a, 928 ≤ a → a ≤ 935 → a ≠ 934 → am_gI M' a 0 (30 * j + k) = am_gI M a 0 (30 * j + k)) ∧ (∀ i, i < 12 → am_gI M' 934 0 (12 * (30 * j + k) + i) = am_gI M 934 0 (12 * (30 * j + k) + i)) ∧ am_gI M' 942 0 k = am_gI M 942 0 k
theorem FC_r : FC C C j k := ⟨fun _ _ _ _ => rfl, fun _ _ => rfl⟩
theorem FM_r : FM M M j k := ⟨fun _ _ _ _ => rfl, fun _ _ => rfl, rfl⟩
theorem FC_t (h : FC C C' j k) (h2 : FC C' C'' j k) : FC C C'' j k := ⟨fun a q1 q2 q3 => (h2.1 a q1 q2 q3).trans (h.1 a q1 q2 q3), fun i hi => (h2.2 i hi).trans (h.2 i hi)⟩
theorem FM_t (h : FM M M' j k) (h2 : FM M' M'' j k) : FM M M'' j k := ⟨fun a q1 q2 q3 => (h2.1 a q1 q2 q3).trans (h.1 a q1 q2 q3), fun i hi => (h2.2.1 i hi).trans (h.2.1 i hi), h2.2.2.trans h.2.2⟩
theorem PR_cn (hC : FC C C' j k) (hM : FM M M' j k) (h : PR C M D K T j k) : PR C' M' D K T j k := by
  obtain ⟨a1, a2⟩ := h
  have e4 := hC.1 204 (by decide) (by decide) (by decide)
  have e5 := hC.1 205 (by decide) (by decide) (by decide)
  have e7 := hC.1 207 (by decide) (by decide) (by decide)
  refine ⟨by rw [e5, hM.1 933 (by decide) (by decide) (by decide)]; exact a1, ?_⟩
  rcases a2 with a2 | ⟨L, p, g, P, a3, a4, a5, a6, a7, a8, a9, a10⟩
  · exact Or.inl (by rw [e5, e4]; exact a2)
  · refine Or.inr ⟨L, p, g, P, a3, by rw [e5]; exact a4, by rw [e4]; exact a5, by rw [hM.1 932 (by decide) (by decide) (by decide)]; exact a6, by rw [e7]; exact a7, by rw [hM.1 935 (by decide) (by decide) (by decide)]; exact a8, fun i hi => ?_, a10⟩
    rw [hC.2 i (by omega), hM.2.1 i (by omega)]
    exact a9 i hi
theorem NR_cn (hC : FC C C' j k) (hM : FM M M' j k) (hg : g' → g) (h : NR C M D K T j k g) : NR C' M' D K T j k g' := by
  obtain ⟨a1, a2, a3, a4, a5⟩ := h
  have e1 := hC.1 201 (by decide) (by decide) (by decide)
  have e3 := hC.1 203 (by decide) (by decide) (by decide)
  have e4 := hC.1 204 (by decide) (by decide) (by decide)
  have e5 := hC.1 205 (by decide) (by decide) (by decide)
  have m8 := hM.1 928 (by decide) (by decide) (by decide)
  have m0 := hM.1 930 (by decide) (by decide) (by decide)
  have m1 := hM.1 931 (by decide) (by decide) (by decide)
  have m2 := hM.1 932 (by decide) (by decide) (by decide)
  refine ⟨by rw [e1, m8]; exact a1, by rw [e3, e4, e5, m0, m1]; exact a2, fun h9 => PR_cn hC hM (a3 h9), ?_, ?_⟩
  · intro q1 q2
    rw [e4, m2]
    exact a4 q1 (hg q2)
  · rw [e4]; exact a5
theorem NX_cn (hC : FC C C' j k) (hM : FM M M' j k) (h : NX C M D K T j k) : NX C' M' D K T j k := by
  obtain ⟨a1, a2, a3, a4⟩ := h
  have e1 := hC.1 201 (by decide) (by decide) (by decide)
  have e2 := hC.1 202 (by decide) (by decide) (by decide)
  have e8 := hC.1 208 (by decide) (by decide) (by decide)
  refine ⟨NR_cn hC hM (fun q => by rw [e1, e8] at q; exact q) a1, ?_, ?_, ?_⟩
  · rw [e2, hM.1 929 (by decide) (by decide) (by decide)]; exact a2
  · rw [e8, hM.2.2]; exact a3
  · rw [e8]; exact a4
theorem NM_cn (hC : FC C C' j k) (hM : FM M M' j k) (hg : g' → g) (h : NM C M D K T j k g) : NM C' M' D K T j k g' := by
  obtain ⟨a1, a2, a3, a4⟩ := h
  refine ⟨NR_cn hC hM hg a1, ?_, ?_, ?_⟩
  · rw [hC.1 202 (by decide) (by decide) (by decide), hM.1 929 (by decide) (by decide) (by decide)]; exact a2
  · rw [hM.2.2]; exact a3
  · rw [hC.1 208 (by decide) (by decide) (by decide)]; exact a4
/-- the class' cells that a tick of creature j may change -/
def CF (C C' : am_H) (j : Nat) : Prop := (∀ a b i, ¬ kq a → a ≠ 0 → a ≠ 101 → a ≠ 102 → a ≠ 6 → a ≠ 701 → a ≠ 404 → ¬ (201 ≤ a ∧ a ≤ 209 ∧ b = j ∧ ¬ (a = 209 ∧ i = 8)) → am_gI C' a b i = am_gI C a b i) ∧ (∀ a b i, ¬ kq a → a ≠ 702 → am_gL C' a b i = am_gL C a b i) ∧ (∀ a b i, ¬ kq a → ¬ (a = 3 ∧ b = 0 ∧ i = 3) → am_gR C' a b i = am_gR C a b i) ∧ ∀ TA Cn, (∃ S, wf_P C S) → R_V C TA Cn → R_V C' TA Cn
theorem CF_r : CF C C j := ⟨fun _ _ _ _ _ _ _ _ _ _ _ => rfl, fun _ _ _ _ _ => rfl, fun _ _ _ _ _ => rfl, fun _ _ _ h => h⟩
theorem CF_t (hw : ∃ S, wf_P C' S) (h : CF C C' j) (h2 : CF C' C'' j) : CF C C'' j :=
  ⟨fun a b i q0 q1 q2 q3 q4 q5 q6 q7 => (h2.1 a b i q0 q1 q2 q3 q4 q5 q6 q7).trans (h.1 a b i q0 q1 q2 q3 q4 q5 q6 q7), fun a b i q0 q1 => (h2.2.1 a b i q0 q1).trans (h.2.1 a b i q0 q1), fun a b i q0 q1 => (h2.2.2.1 a b i q0 q1).trans (h.2.2.1 a b i q0 q1), fun TA Cn q0 q1 => h2.2.2.2 TA Cn hw (h.2.2.2 TA Cn q0 q1)⟩
theorem CF_sI {a b c : Nat} {v : Int32} (h : a = 0 ∨ a = 101 ∨ a = 102 ∨ a = 6 ∨ a = 701 ∨ a = 404 ∨ 201 ≤ a ∧ a ≤ 209 ∧ b = j ∧ (a ≠ 209 ∨ c ≠ 8)) : CF C (am_sI C a b c v) j :=
  ⟨fun x y i q0 q1 q2 q3 q4 q5 q6 q7 => by rw [am_gI_sI, if_neg (fun q => by obtain ⟨rfl, rfl, rfl⟩ := q; omega)], fun _ _ _ _ _ => rfl, fun _ _ _ _ _ => rfl, fun _ _ _ h => h⟩
theorem CF_x {a b c : Nat} {v : Int32} (h : CF C C' j) (h2 : a = 0 ∨ a = 101 ∨ a = 102 ∨ a = 6 ∨ a = 701 ∨ a = 404 ∨ 201 ≤ a ∧ a ≤ 209 ∧ b = j ∧ (a ≠ 209 ∨ c ≠ 8)) : CF C (am_sI C' a b c v) j := by
  have h3 := CF_sI (C := C') (c := c) (v := v) h2
  exact ⟨fun a b i q0 q1 q2 q3 q4 q5 q6 q7 => (h3.1 a b i q0 q1 q2 q3 q4 q5 q6 q7).trans (h.1 a b i q0 q1 q2 q3 q4 q5 q6 q7), h.2.1, h.2.2.1, h.2.2.2⟩
/-- the reference's cells that a tick of creature j may change -/
def MF (M M' : am_H) (j : Nat) : Prop := (∀ a b i, a ≠ 8 → a ≠ 901 → ¬ (927 ≤ a ∧ a ≤ 937) → ¬ (940 ≤ a ∧ a ≤ 942) → ¬ (944 ≤ a ∧ a ≤ 948) → am_gI M' a b i = am_gI M a b i) ∧ (∀ b i, ¬ (i = 0 ∨ i = 38 ∨ i = 39 ∨ i = 43 ∨ i = 50 ∨ i = 51) → am_gI M' 8 b i = am_gI M 8 b i) ∧ (∀ i, ¬ (8 * j ≤ i ∧ i < 8 * j + 8) → am_gI M' 927 0 i = am_gI M 927 0 i) ∧ (∀ a i, 928 ≤ a → a ≤ 935 → a ≠ 934 → ¬ (30 * j ≤ i ∧ i < 30 * j + 30) → am_gI M' a 0 i = am_gI M a 0 i) ∧ (∀ i, ¬ (360 * j ≤ i ∧ i < 360 * j + 360) → am_gI M' 934 0 i = am_gI M 934 0 i) ∧ (∀ a b i, a ≠ 902 → am_gL M' a b i = am_gL M a b i) ∧ (∀ a b i, am_gR M' a b i = am_gR M a b i) ∧ am_lv M' = am_lv M
theorem MF_r : MF M M j := ⟨fun _ _ _ _ _ _ _ _ => rfl, fun _ _ _ => rfl, fun _ _ => rfl, fun _ _ _ _ _ _ => rfl, fun _ _ => rfl, fun _ _ _ _ => rfl, fun _ _ _ => rfl, rfl⟩
theorem MF_t (h : MF M M' j) (h2 : MF M' M'' j) : MF M M'' j :=
  ⟨fun a b i q0 q1 q2 q3 q4 => (h2.1 a b i q0 q1 q2 q3 q4).trans (h.1 a b i q0 q1 q2 q3 q4), fun b i q => (h2.2.1 b i q).trans (h.2.1 b i q), fun i q => (h2.2.2.1 i q).trans (h.2.2.1 i q), fun a i q0 q1 q2 q3 => (h2.2.2.2.1 a i q0 q1 q2 q3).trans (h.2.2.2.1 a i q0 q1 q2 q3), fun i q => (h2.2.2.2.2.1 i q).trans (h.2.2.2.2.1 i q), fun a b i q => (h2.2.2.2.2.2.1 a b i q).trans (h.2.2.2.2.2.1 a b i q), fun a b i => (h2.2.2.2.2.2.2.1 a b i).trans (h.2.2.2.2.2.2.1 a b i), h2.2.2.2.2.2.2.2.trans h.2.2.2.2.2.2.2⟩
theorem MF_sI {a c : Nat} {v : Int32} (h : (a = 8 ∧ (c = 0 ∨ c = 38 ∨ c = 39 ∨ c = 43 ∨ c = 50 ∨ c = 51)) ∨ a = 901 ∨ (a = 927 ∧ 8 * j ≤ c ∧ c < 8 * j + 8) ∨ (928 ≤ a ∧ a ≤ 935 ∧ a ≠ 934 ∧ 30 * j ≤ c ∧ c < 30 * j + 30) ∨ (a = 934 ∧ 360 * j ≤ c ∧ c < 360 * j + 360) ∨ a = 936 ∨ a = 937 ∨ (940 ≤ a ∧ a ≤ 942) ∨ (944 ≤ a ∧ a ≤ 948)) : MF M (am_sI M a 0 c v) j := by
  refine ⟨fun x y i q0 q1 q2 q3 q4 => ?_, fun y i q => ?_, fun i q => ?_, fun x i q0 q1 q2 q3 => ?_, fun i q => ?_, fun _ _ _ _ => rfl, fun _ _ _ => rfl, rfl⟩
  · rw [am_gI_sI, if_neg (fun z => by obtain ⟨rfl, -, -⟩ := z; omega)]
  · rw [am_gI_sI, if_neg (fun z => by obtain ⟨z1, -, z3⟩ := z; omega)]
  · rw [am_gI_sI, if_neg (fun z => by obtain ⟨z1, -, z3⟩ := z; omega)]
  · rw [am_gI_sI, if_neg (fun z => by obtain ⟨z1, -, z3⟩ := z; omega)]
  · rw [am_gI_sI, if_neg (fun z => by obtain ⟨z1, -, z3⟩ := z; omega)]
theorem MF_x {a c : Nat} {v : Int32} (h2 : MF M M' j) (h : (a = 8 ∧ (c = 0 ∨ c = 38 ∨ c = 39 ∨ c = 43 ∨ c = 50 ∨ c = 51)) ∨ a = 901 ∨ (a = 927 ∧ 8 * j ≤ c ∧ c < 8 * j + 8) ∨ (928 ≤ a ∧ a ≤ 935 ∧ a ≠ 934 ∧ 30 * j ≤ c ∧ c < 30 * j + 30) ∨ (a = 934 ∧ 360 * j ≤ c ∧ c < 360 * j + 360) ∨ a = 936 ∨ a = 937 ∨ (940 ≤ a ∧ a ≤ 942) ∨ (944 ≤ a ∧ a ≤ 948)) : MF M (am_sI M' a 0 c v) j := MF_t h2 (MF_sI h)
theorem MT_MF (h : MF M M' j) (h2 : MT M j t N T) : MT M' j t N T := by
  obtain ⟨a1, a2, a3, a4, a5⟩ := h2
  have e : ∀ k i, 917 ≤ k → k ≤ 926 → am_gI M' k 0 i = am_gI M k 0 i := fun k i q1 q2 => h.1 k 0 i (by omega) (by omega) (by omega) (by omega) (by omega)
  refine ⟨by simpa only [sh_Q, h.2.2.2.2.2.2.1] using a1, ?_, ?_, ?_, fun n hn => ?_⟩
  · rw [h.2.1 0 49 (by omega)]; exact a2
  · rw [e 926 j (by decide) (by decide)]; exact a3
  · rw [e 917 t (by decide) (by decide)]; exact a4
  · rw [e 918 _ (by decide) (by decide), e 919 _ (by decide) (by decide), e 920 _ (by decide) (by decide), e 921 _ (by decide) (by decide), e 922 _ (by decide) (by decide), e 923 _ (by decide) (by decide)]
    exact a5 n hn
theorem nkq {a : Nat} (h : a < 4 ∨ a = 5 ∨ a = 6 ∨ 7 ≤ a ∧ a < 500 ∨ 511 < a) : ¬ kq a := by unfold kq; omega
theorem RD_fr (hC : CF C C' j) (hM : MF M M' j) (h : R_D C M D K) : R_D C' M' D K := by
  have e : ∀ k i, k = 2 ∨ 301 ≤ k ∧ k ≤ 309 → am_gI C' k 0 i = am_gI C k 0 i := fun k i q => hC.1 k 0 i (nkq (by omega)) (by omega) (by omega) (by omega) (by omega) (by omega) (by omega) (by omega)
  have e2 : ∀ k i, 905 ≤ k ∧ k ≤ 913 → am_gI M' k 0 i = am_gI M k 0 i := fun k i q => hM.1 k 0 i (by omega) (by omega) (by omega) (by omega) (by omega)
  unfold R_D
  rw [e 2 0 (by omega), hM.2.1 0 4 (by omega)]
  refine ⟨h.1, h.2.1, h.2.2.1, fun i hi => ?_, fun i hi => ?_, h.2.2.2.2.2⟩
  · rw [e 301 i (by omega), e 302 i (by omega), e 303 i (by omega), e 304 i (by omega), e 305 i (by omega), e 306 i (by omega), e 307 i (by omega), e 308 i (by omega), e 309 i (by omega), e2 905 i (by omega), e2 906 i (by omega), e2 907 i (by omega), e2 908 i (by omega), e2 909 i (by omega), e2 910 i (by omega), e2 911 i (by omega), e2 912 i (by omega), e2 913 i (by omega)]
    exact h.2.2.2.1 i hi
  · rw [e 301 i (by omega), e 307 i (by omega)]
    exact h.2.2.2.2.1 i hi
theorem GS_of (hC : CF C C' j) (hM : MF M M' j) (h : GS C M D Ts Ns K Mt j t) (hW : R_W C' M') (hc : ∀ i, i < 8 → am_gI C' 209 j i = am_gI M' 927 0 (8 * j + i)) (hL : am_gI C' 0 0 0 = am_gI M' 8 0 39 ∧ ∀ i, i < 40 → am_gI C' 101 0 i = am_gI M' 940 0 i ∧ am_gI C' 102 0 i = am_gI M' 941 0 i) (hP : R_P M' D Ts Ns K Mt) : GS C' M' D Ts Ns K Mt j t :=
  ⟨hW, RD_fr hC hM h.2.1, hc, hL, hP, MT_MF hM h.2.2.2.2.2⟩
theorem RP_cg (e : ∀ k i, k = 936 ∨ k = 937 → am_gI M' k 0 i = am_gI M k 0 i) (h : R_P M D Ts Ns K Mt) : R_P M' D Ts Ns K Mt := by
  intro k hk
  rw [e 937 k (by omega)]
  rcases h k hk with q | ⟨q1, t, m, q2, q3, q4, q5⟩
  · exact Or.inl q
  · refine Or.inr ⟨q1, t, m, q2, q3, q4, fun j f hj hf => ?_⟩
    rw [e 936 _ (by omega)]
    exact q5 j f hj hf
theorem MD_RD (h : R_D C M D K) : MD M D := fun i hi => ⟨(h.2.2.2.1 i hi).2.1.2, (h.2.2.2.1 i hi).2.2.1.2, (h.2.2.2.1 i hi).2.2.2.1.2, (h.2.2.2.1 i hi).2.2.2.2.1.2, (h.2.2.2.1 i hi).2.2.2.2.2.1.2⟩
theorem DD_RD (h : R_D C M D K) : DD C D := by
  intro k i h1 h2 hi
  have q := h.2.2.2.1 i hi
  have : k = 302 ∨ k = 303 ∨ k = 304 ∨ k = 305 ∨ k = 306 := by omega
  rcases this with rfl | rfl | rfl | rfl | rfl
  · exact q.2.1.1
  · exact q.2.2.1.1
  · exact q.2.2.2.1.1
  · exact q.2.2.2.2.1.1
  · exact q.2.2.2.2.2.1.1
theorem okD_RD (h : R_D C M D K) : okD D K := ⟨h.1, h.2.2.2.2.2, fun i hi => (h.2.2.2.2.1 i hi).2.1⟩
theorem paid_RP (h : R_P M D Ts Ns K Mt) (ht : t < Mt) (hM8 : Mt ≤ 8) (hN : ∀ t, t < Mt → Ns t ≤ 30) (hn : n < Ns t) : paid M D K (Ts t 603 n) (Ts t 604 n) (30 * t + n) := by
  have h30 := hN t ht
  rcases h (30 * t + n) (by omega) with q | ⟨q1, t2, n2, q2, q3, q4, q5⟩
  · exact Or.inl q
  · have h302 := hN t2 q2
    have e1 : t2 = t := by omega
    have e2 : n2 = n := by omega
    subst e1
    subst e2
    exact Or.inr ⟨q1, q5⟩
end SI0
