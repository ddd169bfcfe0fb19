/-! ===== a tree grows by a node: what holds of its rows ===== -/
section ND4
variable {T : Nat → Nat → Int32} {lk : Nat → Nat} {K n0 p b n : Nat}
theorem r_of {x : Int32} {a b : Nat} (h : nI a ≤ x ∧ x ≤ nI b) (ha : a < 2 ^ 31) (hb : b < 2 ^ 31) : ∃ y, a ≤ y ∧ y ≤ b ∧ x = nI y := by
  obtain ⟨h1, h2⟩ := h
  rw [Int32.le_iff_toInt_le, nI_toInt ha] at h1
  rw [Int32.le_iff_toInt_le, nI_toInt hb] at h2
  have hv : vp_in x (b + 1) := by rw [vp_in_iff]; omega
  have hx : ∃ y, y < b + 1 ∧ x = nI y := by
    by_cases hb2 : b + 1 < 2 ^ 31
    · exact vp_in_of hv hb2
    · obtain ⟨j, hj, e⟩ := nI_of (x := x) (by rw [Int32.lt_iff_toInt_lt]; simp only [Int32.reduceToInt]; omega)
      exact ⟨j, by omega, e⟩
  obtain ⟨y, hy, rfl⟩ := hx
  have : y < 2 ^ 31 := by omega
  rw [nI_toInt this] at h1 h2
  exact ⟨y, by omega, by omega, rfl⟩
def tpv (k a : Int32) : Nat := if k = 2 ∨ k = 3 ∨ k = 4 ∨ k = 7 then a.toNatClampNeg else if k = 5 ∨ k = 6 ∨ k = 8 then 1 else 0
theorem pO_tpv {k a b c : Int32} (h : ndOk K k a b c) : pO k a = nI (tpv k a) ∧ tpv k a ≤ 6 := by
  unfold tpv pO
  by_cases h1 : k = 2 ∨ k = 3 ∨ k = 4 ∨ k = 7
  · rw [if_pos h1, if_pos h1]
    have ha : 1 ≤ a ∧ a ≤ 6 := by
      rcases h with ⟨hk, -⟩ | ⟨hk, -⟩ | ⟨-, ha, -⟩ | ⟨-, ha, -⟩ | ⟨hk, -⟩ | ⟨hk, -⟩ | ⟨hk, -⟩
      · subst hk; exact absurd h1 (by decide)
      · rcases hk with rfl | rfl <;> exact absurd h1 (by decide)
      · exact ha
      · exact ha
      · subst hk; exact absurd h1 (by decide)
      · subst hk; exact absurd h1 (by decide)
      · subst hk; exact absurd h1 (by decide)
    obtain ⟨y, y1, y2, rfl⟩ := r_of (a := 1) (b := 6) ha (by decide) (by decide)
    rw [nI_clamp (show y < 2 ^ 31 by omega)]
    exact ⟨rfl, y2⟩
  · rw [if_neg h1, if_neg h1]
    by_cases h2 : k = 5 ∨ k = 6 ∨ k = 8
    · rw [if_pos h2, if_pos h2]; exact ⟨rfl, by decide⟩
    · rw [if_neg h2, if_neg h2]; exact ⟨rfl, by decide⟩
theorem wf_v_of (hK : K ≤ 10) (h : ndOk K (T 602 n) (T 603 n) (T 604 n) (T 605 n)) : wf_v T K n := by
  have htp : tp T n = tpv (T 602 n) (T 603 n) := rfl
  unfold wf_v
  rw [htp]
  generalize T 602 n = k at *
  generalize T 603 n = a at *
  generalize T 604 n = b at *
  generalize T 605 n = c at *
  rcases h with ⟨hk, ha, hb, hc⟩ | ⟨hk, ht⟩ | ⟨hk, ha, hb, hc⟩ | ⟨hk, ha, hb, hc⟩ | ⟨hk, ha, hb, hc⟩ | ⟨hk, ha, hb, hc⟩ | ⟨hk, ha, hb, hc⟩
  · subst hk
    refine ⟨⟨0, by omega, rfl⟩, fun q => absurd q (by decide), fun _ => ?_, fun q => absurd q (by decide), fun q => absurd q (by decide), fun q => absurd q (by decide), fun q => absurd q (by decide)⟩
    obtain ⟨d, hd, rfl⟩ := nI_r (by omega) ha
    exact vp_in_nI hd (by omega)
  · have h2 : (0 ≤ a ∧ a ≤ 4) ∧ vp_in b 12 ∧ (a = 4 → vp_in c 8) := by
      rcases ht with ⟨h1, h2, h3⟩ | ⟨h1, h2⟩
      · subst h1; subst h2
        refine ⟨by decide, am_in_d rfl, fun _ => ?_⟩
        obtain ⟨d, hd, rfl⟩ := nI_r (n := 8) (by decide) h3
        exact vp_in_nI hd (by decide)
      · refine ⟨⟨h1.1, ?_⟩, am_v12' h2, fun q => ?_⟩
        · have := h1.2
          simp only [Int32.le_iff_toInt_le, Int32.reduceToInt] at *
          omega
        · subst q; exact absurd h1.2 (by decide)
    rcases hk with rfl | rfl
    · exact ⟨⟨1, by omega, rfl⟩, fun _ => h2, fun q => absurd q (by decide), fun q => absurd q (by decide), fun q => absurd q (by decide), fun q => absurd q (by decide), fun q => absurd q (by decide)⟩
    · exact ⟨⟨5, by omega, rfl⟩, fun _ => h2, fun q => absurd q (by decide), fun q => absurd q (by decide), fun q => absurd q (by decide), fun q => absurd q (by decide), fun q => absurd q (by decide)⟩
  · have h2 := r_of (a := 1) (b := 6) ha (by decide) (by decide)
    rcases hk with rfl | rfl | rfl
    · exact ⟨⟨2, by omega, rfl⟩, fun q => absurd q (by decide), fun q => absurd q (by decide), fun _ => h2, fun q => absurd q (by decide), fun q => absurd q (by decide), fun q => absurd q (by decide)⟩
    · exact ⟨⟨3, by omega, rfl⟩, fun q => absurd q (by decide), fun q => absurd q (by decide), fun _ => h2, fun q => absurd q (by decide), fun q => absurd q (by decide), fun q => absurd q (by decide)⟩
    · exact ⟨⟨7, by omega, rfl⟩, fun q => absurd q (by decide), fun q => absurd q (by decide), fun _ => h2, fun q => absurd q (by decide), fun q => absurd q (by decide), fun q => absurd q (by decide)⟩
  · subst hk
    obtain ⟨y, y1, y2, rfl⟩ := r_of (a := 1) (b := 6) ha (by decide) (by decide)
    obtain ⟨z, z1, z2, rfl⟩ := r_of (a := 1) (b := y) hb (by decide) (by omega)
    refine ⟨⟨4, by omega, rfl⟩, fun q => absurd q (by decide), fun q => absurd q (by decide), fun _ => ⟨y, y1, y2, rfl⟩, fun _ => ⟨z, z1, ?_, rfl⟩, fun q => absurd q (by decide), fun q => absurd q (by decide)⟩
    show z ≤ tpv 4 (nI y)
    unfold tpv
    rw [if_pos (by decide), nI_clamp (show y < 2 ^ 31 by omega)]
    exact z2
  · subst hk
    exact ⟨⟨6, by omega, rfl⟩, fun q => absurd q (by decide), fun q => absurd q (by decide), fun q => absurd q (by decide), fun q => absurd q (by decide), fun _ => r_of (a := 1) (b := 50) ha (by decide) (by decide), fun q => absurd q (by decide)⟩
  · subst hk
    exact ⟨⟨8, by omega, rfl⟩, fun q => absurd q (by decide), fun q => absurd q (by decide), fun q => absurd q (by decide), fun q => absurd q (by decide), fun q => absurd q (by decide), fun q => absurd q (by decide)⟩
  · subst hk
    refine ⟨⟨9, by omega, rfl⟩, fun q => absurd q (by decide), fun q => absurd q (by decide), fun q => absurd q (by decide), fun q => absurd q (by decide), fun q => absurd q (by decide), fun _ => ⟨r_of (a := 1) (b := 255) ha (by decide) (by decide), ?_⟩⟩
    obtain ⟨z, -, z2, e⟩ := r_of (a := 0) (b := 255) hb (by decide) (by decide)
    exact ⟨z, z2, e⟩
theorem wf_v_cg {U : Nat → Nat → Int32} (h2 : U 602 n = T 602 n) (h3 : U 603 n = T 603 n) (h4 : U 604 n = T 604 n) (h5 : U 605 n = T 605 n) (h : wf_v T K n) : wf_v U K n := by
  have htp : tp U n = tp T n := by unfold tp; rw [h2, h3]
  unfold wf_v
  rw [h2, h3, h4, h5, htp]
  exact h
/-- what holds of each node of a tree that is begun -/
def BN1 (T : Nat → Nat → Int32) (lk : Nat → Nat) (K n0 n : Nat) : Prop := wf_v T K n ∧ (1 ≤ tn T n ∧ T 607 n = nI (tn T n) ∧ n + tn T n ≤ n0) ∧ lk n ≤ tp T n ∧ tc T n (tp T n - lk n) = n + tn T n ∧ (∀ i, i < tp T n - lk n → tc T n i < n0 ∧ T 606 (tc T n i) = nI n) ∧ (0 < lk n → n + tn T n = n0) ∧ (n = 0 → T 606 n = -4) ∧
    (0 < n → ∃ b, b < n ∧ T 606 n = nI b ∧ n + tn T n ≤ b + tn T b ∧ ∀ a, a < n → (n < a + tn T a ↔ a ≤ b ∧ b < a + tn T a))
def BN (T : Nat → Nat → Int32) (lk : Nat → Nat) (K n0 p : Nat) : Prop := (0 < n0 → sm lk n0 = p ∧ tn T 0 = n0) ∧ ∀ n, n < n0 → BN1 T lk K n0 n
theorem BS_BN (h : BS T lk K n0 p) : BN T lk K n0 p := ⟨h.2.2.1, h.2.2.2⟩
theorem BN_BS (h : BN T lk K n0 p) (h1 : n0 + p ≤ 30) (h2 : 1 ≤ p) (h3 : 0 < n0) : BS T lk K n0 p := ⟨⟨h1, h2⟩, fun q => by omega, h.1, h.2⟩
theorem sm_0 : ∀ n, sm lk n = 0 → ∀ i, i < n → lk i = 0 := by
  intro n
  induction n with
  | zero => intro _ i h; omega
  | succ n ih =>
    intro h i hi
    have h : sm lk n + lk n = 0 := h
    by_cases e : i = n
    · subst e; omega
    · exact ih (by omega) i (by omega)
theorem sm_z : ∀ n, (∀ i, i < n → lk i = 0) → sm lk n = 0 := by
  intro n
  induction n with
  | zero => intro _; rfl
  | succ n ih =>
    intro h
    show sm lk n + lk n = 0
    rw [ih (fun i hi => h i (by omega)), h n (by omega)]
theorem sm_cg {lk2 : Nat → Nat} : ∀ n, (∀ i, i < n → lk2 i = lk i) → sm lk2 n = sm lk n := by
  intro n
  induction n with
  | zero => intro _; rfl
  | succ n ih =>
    intro h
    show sm lk2 n + lk2 n = sm lk n + lk n
    rw [ih (fun i hi => h i (by omega)), h n (by omega)]
theorem sm_dec {lk2 : Nat → Nat} (hb1 : 0 < lk b) (h1 : lk2 b = lk b - 1) (h2 : ∀ i, i ≠ b → lk2 i = lk i) : ∀ n, b < n → sm lk2 n + 1 = sm lk n := by
  intro n
  induction n with
  | zero => intro h; omega
  | succ n ih =>
    intro h
    show sm lk2 n + lk2 n + 1 = sm lk n + lk n
    by_cases e : b = n
    · subst e
      rw [h1, sm_cg (lk := lk) b (fun i hi => h2 i (by omega))]
      omega
    · rw [h2 n (by omega)]
      have := ih (by omega)
      omega
/-- a whole tree -/
theorem BN_T (h : BN T lk K n0 0) (h0 : 0 < n0) (h30 : n0 ≤ 30) : wf_T T n0 K := by
  obtain ⟨h1, h2⟩ := h
  have hz := sm_0 n0 (h1 h0).1
  refine ⟨⟨h0, h30⟩, (h2 0 h0).2.2.2.2.2.2.1 rfl, fun n q1 q2 => ?_, (h1 h0).2, fun n hn => ?_⟩
  · obtain ⟨b, r1, r2, -⟩ := (h2 n q2).2.2.2.2.2.2.2 q1
    exact ⟨b, r1, r2⟩
  · obtain ⟨c1, c2, c3, c4, c5, c6, c7, c8⟩ := h2 n hn
    rw [hz n hn, Nat.sub_zero] at c4 c5
    refine ⟨c2, c4, c5, ?_, c1⟩
    by_cases hn0 : n = 0
    · exact Or.inl (c7 hn0)
    · obtain ⟨b, r1, r2, -⟩ := c8 (by omega)
      exact Or.inr ⟨b, r1, r2⟩
/-- nodes are nested -/
theorem BN_nest (h : ∀ n, n < n0 → BN1 T lk K n0 n) : ∀ y, y < n0 → ∀ a, a ≤ y → y < a + tn T a → y + tn T y ≤ a + tn T a := by
  intro y
  induction y using Nat.strongRecOn with
  | ind y ih =>
    intro hy a ha hya
    by_cases e : a = y
    · subst e; exact Nat.le_refl _
    · obtain ⟨q, r1, r2, r3, r4⟩ := (h y hy).2.2.2.2.2.2.2 (by omega)
      obtain ⟨s1, s2⟩ := (r4 a (by omega)).mp hya
      have := ih q r1 (by omega) a s1 s2
      omega
theorem tc_find {b : Nat} : ∀ k, tc T n 0 ≤ b → b < tc T n k → ∃ j, j < k ∧ tc T n j ≤ b ∧ b < tc T n (j + 1) := by
  intro k
  induction k with
  | zero => intro h1 h2; omega
  | succ k ih =>
    intro h1 h2
    by_cases h3 : b < tc T n k
    · obtain ⟨j, q1, q2⟩ := ih h1 h3
      exact ⟨j, by omega, q2⟩
    · exact ⟨k, Nat.lt_succ_self _, by omega, h2⟩
/-- the rows with one node more; those in L are what it lies in -/
def gT (T : Nat → Nat → Int32) (n0 : Nat) (L : List Nat) (k a b c o : Int32) : Nat → Nat → Int32 := fun q i => if i = n0 then (if q = 602 then k else if q = 603 then a else if q = 604 then b else if q = 605 then c else if q = 606 then o else 1) else if q = 607 ∧ i ∈ L then T 607 i + 1 else T q i
def glk (lk : Nat → Nat) (n0 : Nat) (o : Option Nat) (p : Nat) : Nat → Nat := fun i => if i = n0 then p else if o = some i then lk i - 1 else lk i
theorem gT_old {L : List Nat} {k a b c o : Int32} {q i : Nat} (hi : i ≠ n0) (hq : q ≠ 607) : gT T n0 L k a b c o q i = T q i := by
  unfold gT
  rw [if_neg hi, if_neg (fun r => hq r.1)]
theorem gT_6 {L : List Nat} {k a b c o : Int32} : gT T n0 L k a b c o 606 n0 = o := by
  unfold gT
  simp (decide := true) only [↓reduceIte]
theorem gT_tn0 {L : List Nat} {k a b c o : Int32} : tn (gT T n0 L k a b c o) n0 = 1 := by
  unfold tn gT
  simp (decide := true) only [↓reduceIte]
theorem gT_tn {L : List Nat} {k a b c o : Int32} {i : Nat} (hi : i ≠ n0) (h : T 607 i = nI (tn T i)) (h30 : tn T i ≤ 30) : tn (gT T n0 L k a b c o) i = (if i ∈ L then tn T i + 1 else tn T i) ∧ gT T n0 L k a b c o 607 i = nI (tn (gT T n0 L k a b c o) i) := by
  have e : gT T n0 L k a b c o 607 i = nI (if i ∈ L then tn T i + 1 else tn T i) := by
    unfold gT
    rw [if_neg hi]
    by_cases hL : i ∈ L
    · rw [if_pos ⟨rfl, hL⟩, if_pos hL, h, nI_1]
    · rw [if_neg (fun r => hL r.2), if_neg hL, h]
  have e2 : tn (gT T n0 L k a b c o) i = (if i ∈ L then tn T i + 1 else tn T i) := by
    show (gT T n0 L k a b c o 607 i).toNatClampNeg = _
    rw [e]
    exact nI_clamp (by split <;> omega)
  exact ⟨e2, by rw [e2]; exact e⟩
theorem BN_first {k a b c : Int32} (hK : K ≤ 10) (h : ndOk K k a b c) : BN (gT T 0 [] k a b c (-4)) (glk lk 0 none (tpv k a)) K 1 (tpv k a) := by
  have hv : wf_v (gT T 0 [] k a b c (-4)) K 0 := wf_v_of hK (by unfold gT; simp (decide := true) only [↓reduceIte]; exact h)
  have htn : tn (gT T 0 [] k a b c (-4)) 0 = 1 := gT_tn0
  have htp : tp (gT T 0 [] k a b c (-4)) 0 = tpv k a := by
    unfold tp tpv gT
    simp (decide := true) only [↓reduceIte]
  have hlk : glk lk 0 none (tpv k a) 0 = tpv k a := by unfold glk; rw [if_pos rfl]
  refine ⟨fun _ => ⟨?_, htn⟩, fun n hn => ?_⟩
  · show 0 + glk lk 0 none (tpv k a) 0 = tpv k a
    rw [hlk, Nat.zero_add]
  · have : n = 0 := by omega
    subst this
    refine ⟨hv, ⟨by rw [htn]; exact Nat.le_refl _, ?_, by rw [htn]; exact Nat.le_refl _⟩, by rw [hlk, htp]; exact Nat.le_refl _, ?_, fun i hi => by rw [hlk, htp] at hi; omega, fun _ => by rw [htn], fun _ => gT_6, fun q => by omega⟩
    · rw [htn]
      unfold gT
      simp (decide := true) only [↓reduceIte]
    · rw [hlk, htp, Nat.sub_self, htn]
      rfl
theorem BN_next {L : List Nat} {k a x c : Int32} (hK : K ≤ 10) (h : ndOk K k a x c) (hB : BN T lk K n0 p) (hn : n0 < 30) (h0 : 0 < n0) (hp1 : 1 ≤ p) (hb : op lk n0 = some b) (hL : ∀ i, i < n0 → (i ∈ L ↔ i ≤ b ∧ b < i + tn T i)) : BN (gT T n0 L k a x c (nI b)) (glk lk n0 (some b) (tpv k a)) K (n0 + 1) (p - 1 + tpv k a) := by
  obtain ⟨B1, B2⟩ := hB
  obtain ⟨b1, b2, b3⟩ := op_lt n0 b hb
  have bend : b + tn T b = n0 := (B2 b b1).2.2.2.2.2.1 b2
  have hv : wf_v (gT T n0 L k a x c (nI b)) K n0 := wf_v_of hK (by unfold gT; simp (decide := true) only [↓reduceIte]; exact h)
  have htp0 : tp (gT T n0 L k a x c (nI b)) n0 = tpv k a := by
    unfold tp tpv gT
    simp (decide := true) only [↓reduceIte]
  have hlk0 : glk lk n0 (some b) (tpv k a) n0 = tpv k a := by unfold glk; rw [if_pos rfl]
  have hlkb : glk lk n0 (some b) (tpv k a) b = lk b - 1 := by
    unfold glk
    rw [if_neg (by omega), if_pos rfl]
  have hlki : ∀ i, i ≠ n0 → i ≠ b → glk lk n0 (some b) (tpv k a) i = lk i := by
    intro i q1 q2
    unfold glk
    rw [if_neg q1, if_neg (fun q => q2 (Option.some.inj q).symm)]
  have nest := BN_nest B2
  have anc : ∀ i, i ≤ b → b < i + tn T i → i + tn T i = n0 := by
    intro i q1 q2
    have := nest b b1 i q1 q2
    have := (B2 i (by omega)).2.1.2.2
    omega
  have htn0 : tn (gT T n0 L k a x c (nI b)) n0 = 1 := gT_tn0
  have t30 : ∀ i, i < n0 → tn T i ≤ 30 := fun i hi => by have := (B2 i hi).2.1.2.2; omega
  have htn : ∀ i, i < n0 → tn (gT T n0 L k a x c (nI b)) i = if i ∈ L then tn T i + 1 else tn T i := fun i hi => (gT_tn (by omega) (B2 i hi).2.1.2.1 (t30 i hi)).1
  have htA : ∀ i, i ≤ b → b < i + tn T i → tn (gT T n0 L k a x c (nI b)) i = tn T i + 1 := fun i q1 q2 => by
    rw [htn i (by omega), if_pos ((hL i (by omega)).mpr ⟨q1, q2⟩)]
  have htB : ∀ i, i < n0 → ¬ (i ≤ b ∧ b < i + tn T i) → tn (gT T n0 L k a x c (nI b)) i = tn T i := fun i q1 q2 => by
    rw [htn i q1, if_neg (fun q => q2 ((hL i q1).mp q))]
  have htp : ∀ i, i < n0 → tp (gT T n0 L k a x c (nI b)) i = tp T i := fun i hi => by
    unfold tp
    rw [gT_old (by omega) (by decide), gT_old (by omega) (by decide)]
  -- children that b does not lie in keep their places
  have keep : ∀ m j, m < n0 → j ≤ tp T m - lk m → (∀ i, i < j → ¬ (tc T m i ≤ b ∧ b < tc T m i + tn T (tc T m i))) → tc (gT T n0 L k a x c (nI b)) m j = tc T m j := by
    intro m j hm
    induction j with
    | zero => intro _ _; rfl
    | succ j ih =>
      intro hj hi
      have e := ih (by omega) (fun i q => hi i (by omega))
      show tc (gT T n0 L k a x c (nI b)) m j + tn (gT T n0 L k a x c (nI b)) (tc (gT T n0 L k a x c (nI b)) m j) = tc T m j + tn T (tc T m j)
      rw [e, htB _ ((B2 m hm).2.2.2.2.1 j (by omega)).1 (hi j (by omega))]
  refine ⟨fun _ => ⟨?_, ?_⟩, fun m hm => ?_⟩
  · show sm (glk lk n0 (some b) (tpv k a)) n0 + glk lk n0 (some b) (tpv k a) n0 = _
    have e := sm_dec (lk := lk) (lk2 := fun i => if i = b then lk b - 1 else lk i) (b := b) b2 (by simp) (fun i hi => by simp [hi]) n0 b1
    rw [sm_cg (lk := fun i => if i = b then lk b - 1 else lk i) n0 (fun i hi => ?_), hlk0]
    · have := (B1 h0).1; omega
    · by_cases q : i = b
      · subst q; rw [hlkb]; simp
      · rw [hlki i (by omega) q]; simp [q]
  · have e := (B1 h0).2
    rw [htA 0 (Nat.zero_le _) (by rw [e]; omega), e]
  by_cases hmn : m = n0
  · subst hmn
    refine ⟨hv, ⟨by rw [htn0]; exact Nat.le_refl _, ?_, by rw [htn0]; exact Nat.le_refl _⟩, by rw [hlk0, htp0]; exact Nat.le_refl _, ?_, fun i hi => by rw [hlk0, htp0] at hi; omega, fun _ => by rw [htn0], fun q => by omega, fun _ => ⟨b, b1, gT_6, ?_, fun i hi => ?_⟩⟩
    · rw [htn0]
      unfold gT
      simp (decide := true) only [↓reduceIte]
    · rw [hlk0, htp0, Nat.sub_self, htn0]
      rfl
    · rw [htn0, htA b (Nat.le_refl _) (by have := (B2 b b1).2.1.1; omega)]
      omega
    · by_cases q : i ≤ b ∧ b < i + tn T i
      · have := anc i q.1 q.2
        rw [htA i q.1 q.2]
        constructor <;> intro _ <;> omega
      · have := (B2 i hi).2.1.2.2
        rw [htB i hi q]
        exact ⟨fun r => by omega, fun r => absurd r q⟩
  have hm : m < n0 := by omega
  obtain ⟨c1, ⟨c2a, c2b, c2c⟩, c3, c4, c5, c6, c7, c8⟩ := B2 m hm
  have hcle : ∀ i, i < tp T m - lk m → tc T m (i + 1) ≤ m + tn T m := by
    intro i hi
    have h := tc_mono (T := T) (n := m) (tp T m - lk m - (i + 1)) (i + 1)
    rw [show i + 1 + (tp T m - lk m - (i + 1)) = tp T m - lk m by omega, c4] at h
    exact h
  have keepN : ¬ (m ≤ b ∧ b < m + tn T m) → ∀ j, j ≤ tp T m - lk m → tc (gT T n0 L k a x c (nI b)) m j = tc T m j := by
    intro hna j hj
    refine keep m j hm hj (fun i hi q => hna ⟨?_, ?_⟩)
    · have := tc_gt (T := T) (n := m) i; omega
    · have h1 := hcle i (by omega)
      have h2 : tc T m (i + 1) = tc T m i + tn T (tc T m i) := rfl
      omega
  have keepB : m = b → ∀ j, j ≤ tp T m - lk m → tc (gT T n0 L k a x c (nI b)) m j = tc T m j := by
    intro e j hj
    subst e
    exact keep m j hm hj (fun i hi q => by have := tc_gt (T := T) (n := m) i; omega)
  -- an ancestor: b lies in its last child
  have ancC : m < b → b < m + tn T m → 1 ≤ tp T m - lk m ∧ (∀ j, j < tp T m - lk m → tc (gT T n0 L k a x c (nI b)) m j = tc T m j) ∧ tc (gT T n0 L k a x c (nI b)) m (tp T m - lk m) = m + tn T m + 1 := by
    intro q1 q2
    have hm1 : 1 ≤ tp T m - lk m := by
      rcases Nat.eq_zero_or_pos (tp T m - lk m) with e | e
      · rw [e] at c4
        have : tc T m 0 = m + 1 := rfl
        omega
      · exact e
    have hmn := anc m (by omega) q2
    have hlast : tc T m (tp T m - lk m - 1) ≤ b := by
      by_cases hh : b < tc T m (tp T m - lk m - 1)
      · exfalso
        obtain ⟨j, j1, j2, j3⟩ := tc_find (T := T) (n := m) (tp T m - lk m - 1) (show m + 1 ≤ b by omega) hh
        have e : tc T m (j + 1) = tc T m j + tn T (tc T m j) := rfl
        have := anc (tc T m j) j2 (by omega)
        have hl := (c5 (tp T m - lk m - 1) (by omega)).1
        have h := tc_mono (T := T) (n := m) (tp T m - lk m - 1 - (j + 1)) (j + 1)
        rw [show j + 1 + (tp T m - lk m - 1 - (j + 1)) = tp T m - lk m - 1 by omega] at h
        omega
      · omega
    have kp : ∀ j, j < tp T m - lk m → tc (gT T n0 L k a x c (nI b)) m j = tc T m j := by
      intro j hj
      refine keep m j hm (by omega) (fun i hi q => ?_)
      have e : tc T m (i + 1) = tc T m i + tn T (tc T m i) := rfl
      have h := tc_mono (T := T) (n := m) (tp T m - lk m - 1 - (i + 1)) (i + 1)
      rw [show i + 1 + (tp T m - lk m - 1 - (i + 1)) = tp T m - lk m - 1 by omega] at h
      omega
    refine ⟨hm1, kp, ?_⟩
    obtain ⟨r, hr⟩ : ∃ r, tp T m - lk m = r + 1 := ⟨tp T m - lk m - 1, by omega⟩
    rw [hr] at hlast c4
    rw [hr]
    have hlast : tc T m r ≤ b := hlast
    have c4 : tc T m r + tn T (tc T m r) = m + tn T m := c4
    show tc (gT T n0 L k a x c (nI b)) m r + tn (gT T n0 L k a x c (nI b)) (tc (gT T n0 L k a x c (nI b)) m r) = _
    rw [kp r (by omega), htA (tc T m r) hlast (by omega)]
    omega
  have hU6 : ∀ i, i < n0 → gT T n0 L k a x c (nI b) 606 i = T 606 i := fun i hi => gT_old (by omega) (by decide)
  have kids : ∀ j, j < tp T m - lk m → tc (gT T n0 L k a x c (nI b)) m j = tc T m j := by
    intro j hj
    by_cases e : m = b
    · exact keepB e j (by omega)
    · by_cases q : m ≤ b ∧ b < m + tn T m
      · exact (ancC (by omega) q.2).2.1 j hj
      · exact keepN q j (by omega)
  refine ⟨wf_v_cg (gT_old (by omega) (by decide)) (gT_old (by omega) (by decide)) (gT_old (by omega) (by decide)) (gT_old (by omega) (by decide)) c1, ⟨?_, (gT_tn (by omega) c2b (t30 m hm)).2, ?_⟩, ?_, ?_, ?_, ?_, fun q => by rw [hU6 m hm]; exact c7 q, ?_⟩
  · rw [htn m hm]; split <;> omega
  · rw [htn m hm]
    by_cases q : m ∈ L
    · rw [if_pos q]; omega
    · rw [if_neg q]; omega
  · rw [htp m hm]
    by_cases e : m = b
    · subst e; rw [hlkb]; omega
    · rw [hlki m (by omega) e]; exact c3
  · rw [htp m hm]
    by_cases e : m = b
    · subst e
      rw [hlkb, show tp T m - (lk m - 1) = tp T m - lk m + 1 by omega, htA m (Nat.le_refl _) (by omega)]
      show tc (gT T n0 L k a x c (nI m)) m (tp T m - lk m) + tn (gT T n0 L k a x c (nI m)) (tc (gT T n0 L k a x c (nI m)) m (tp T m - lk m)) = _
      rw [keepB rfl _ (Nat.le_refl _), c4, bend, htn0]
      omega
    · rw [hlki m (by omega) e]
      by_cases q : m ≤ b ∧ b < m + tn T m
      · rw [(ancC (by omega) q.2).2.2, htA m q.1 q.2]
        omega
      · rw [keepN q _ (Nat.le_refl _), c4, htB m hm q]
  · rw [htp m hm]
    intro i hi
    by_cases hi2 : i < tp T m - lk m
    · rw [kids i hi2]
      obtain ⟨d1, d2⟩ := c5 i hi2
      exact ⟨by omega, by rw [hU6 _ d1]; exact d2⟩
    · by_cases e : m = b
      · subst e
        rw [hlkb] at hi
        have : i = tp T m - lk m := by omega
        subst this
        rw [keepB rfl _ (Nat.le_refl _), c4, bend]
        exact ⟨Nat.lt_succ_self _, gT_6⟩
      · rw [hlki m (by omega) e] at hi
        omega
  · intro hl
    by_cases e : m = b
    · subst e
      rw [htA m (Nat.le_refl _) (by omega)]
      omega
    · rw [hlki m (by omega) e] at hl
      have e1 := c6 hl
      have hmb : m < b := by
        rcases Nat.lt_trichotomy m b with q | q | q
        · exact q
        · exact absurd q e
        · have := b3 m q hm; omega
      rw [htA m (by omega) (by omega)]
      omega
  · intro hm0
    obtain ⟨q, r1, r2, r3, r4⟩ := c8 hm0
    refine ⟨q, r1, by rw [hU6 m hm]; exact r2, ?_, fun i hi => ?_⟩
    · by_cases e : m ≤ b ∧ b < m + tn T m
      · rw [htA m e.1 e.2, htA q (by omega) (by omega)]
        omega
      · rw [htB m hm e, htn q (by omega)]
        split <;> omega
    · by_cases e : i ≤ b ∧ b < i + tn T i
      · have ei := anc i e.1 e.2
        have := (r4 i hi).mp (by omega)
        rw [htA i e.1 e.2]
        constructor
        · intro _; omega
        · intro _; omega
      · rw [htB i (by omega) e]
        exact r4 i hi
end ND4
