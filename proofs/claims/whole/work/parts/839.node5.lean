/-! ===== node: the class' sizes; its pair ===== -/
section ND5
variable {T : Nat → Nat → Int32} {lk : Nat → Nat} {K N : Nat}
def msN (T : Nat → Nat → Int32) (N : Nat) : Nat → Nat → Nat
  | 0, _ => 1
  | k + 1, x => msN T N k x + if T 606 (N - 1 - k) = nI x then msN T N k (N - 1 - k) else 0
/-- what the parts of x from m on have -/
def vS (T : Nat → Nat → Int32) (N x : Nat) : Nat → Nat
  | 0 => 0
  | k + 1 => vS T N x k + if T 606 (N - 1 - k) = nI x then tn T (N - 1 - k) else 0
theorem vS_gap {x : Nat} : ∀ d k, k + d ≤ N → (∀ m, N - (k + d) ≤ m → m < N - k → ¬ T 606 m = nI x) → vS T N x (k + d) = vS T N x k := by
  intro d
  induction d with
  | zero => intro k _ _; rfl
  | succ d ih =>
    intro k hk h
    rw [show k + (d + 1) = k + d + 1 by omega]
    show vS T N x (k + d) + (if T 606 (N - 1 - (k + d)) = nI x then tn T (N - 1 - (k + d)) else 0) = _
    rw [if_neg (h _ (by omega) (by omega)), Nat.add_zero]
    exact ih k (by omega) (fun m h1 h2 => h m (by omega) h2)
theorem ms_tn (hN : N ≤ 30) (h : ∀ n, n < N → BN1 T lk K N n) (hz : ∀ n, n < N → lk n = 0) : ∀ y x, x + y + 1 = N → ∀ k, N - 1 - x ≤ k → k ≤ N → msN T N k x = tn T x := by
  intro y
  induction y using Nat.strongRecOn with
  | ind y ih =>
    intro x hx
    have hxN : x < N := by omega
    obtain ⟨c1, ⟨c2a, c2b, c2c⟩, c3, c4, c5, c6, c7, c8⟩ := h x hxN
    rw [hz x hxN, Nat.sub_zero] at c4 c5
    have ne : ∀ m, m < 30 → ¬ T 606 m = nI x ∨ True := fun _ _ => Or.inr trivial
    -- who has x above it
    have up : ∀ m, m < N → T 606 m = nI x → x < m ∧ m + tn T m ≤ x + tn T x ∧ ∀ a, a < m → (m < a + tn T a ↔ a ≤ x ∧ x < a + tn T a) := by
      intro m hm e
      have hm1 := (h m hm).2.2.2.2.2.2
      by_cases m0 : m = 0
      · exfalso
        have := hm1.1 m0
        rw [this] at e
        exact nI_n4 (by omega) e.symm
      · obtain ⟨b, r1, r2, r3, r4⟩ := hm1.2 (by omega)
        rw [r2, nI_eq (by omega) (by omega)] at e
        subst e
        exact ⟨r1, r3, r4⟩
    have child : ∀ m, m < N → T 606 m = nI x → ∃ j, j < tp T x ∧ m = tc T x j := by
      intro m hm e
      obtain ⟨u1, u2, u3⟩ := up m hm e
      have hm2 := (h m hm).2.1.1
      obtain ⟨j, j1, j2, j3⟩ := tc_find (T := T) (n := x) (b := m) (tp T x) (show x + 1 ≤ m by omega) (by rw [c4]; omega)
      refine ⟨j, j1, ?_⟩
      have e2 : tc T x (j + 1) = tc T x j + tn T (tc T x j) := rfl
      rcases Nat.eq_or_lt_of_le j2 with q | q
      · exact q.symm
      · exfalso
        have := (u3 (tc T x j) q).mp (by omega)
        have := tc_gt (T := T) (n := x) j
        omega
    have tcS : ∀ j, tc T x (j + 1) = tc T x j + tn T (tc T x j) := fun _ => rfl
    have tcle : ∀ j, j ≤ tp T x → tc T x j ≤ x + tn T x := by
      intro j hj
      have h := tc_mono (T := T) (n := x) (tp T x - j) j
      rw [show j + (tp T x - j) = tp T x by omega, c4] at h
      exact h
    -- the sums over the parts
    have sums : ∀ d j, j + d = tp T x → vS T N x (N - tc T x j) + tc T x j = x + tn T x := by
      intro d
      induction d with
      | zero =>
        intro j hj
        have : j = tp T x := by omega
        subst this
        rw [c4]
        have e := vS_gap (T := T) (N := N) (x := x) (N - (x + tn T x)) 0 (by omega) (fun m q1 q2 e => by have := (up m (by omega) e).2.1; have := (h m (by omega)).2.1.1; omega)
        rw [Nat.zero_add] at e
        rw [e]
        show 0 + _ = _
        omega
      | succ d ihd =>
        intro j hj
        have e1 := ihd (j + 1) (by omega)
        obtain ⟨d1, d2⟩ := c5 j (by omega)
        have hle := tcle (j + 1) (by omega)
        have hn1 := (h (tc T x j) d1).2.1.1
        have hs := tcS j
        have g := vS_gap (T := T) (N := N) (x := x) (tc T x (j + 1) - (tc T x j + 1)) (N - tc T x (j + 1)) (by omega) (fun m q1 q2 e => by
          obtain ⟨i, i1, i2⟩ := child m (by omega) e
          rcases Nat.lt_trichotomy i j with r | r | r
          · have m1 := tc_mono (T := T) (n := x) (j - i) i
            rw [show i + (j - i) = j by omega] at m1
            omega
          · subst r; omega
          · have m1 := tc_mono (T := T) (n := x) (i - (j + 1)) (j + 1)
            rw [show j + 1 + (i - (j + 1)) = i by omega] at m1
            omega)
        rw [show N - tc T x (j + 1) + (tc T x (j + 1) - (tc T x j + 1)) = N - tc T x j - 1 by omega] at g
        obtain ⟨r, hr⟩ : ∃ r, N - tc T x j = r + 1 := ⟨N - tc T x j - 1, by omega⟩
        rw [hr] at g
        rw [Nat.add_sub_cancel] at g
        rw [hr]
        show vS T N x r + (if T 606 (N - 1 - r) = nI x then tn T (N - 1 - r) else 0) + tc T x j = _
        rw [show N - 1 - r = tc T x j by omega, if_pos d2, g]
        omega
    have tot : ∀ k, N - 1 - x ≤ k → k ≤ N → 1 + vS T N x k = tn T x := by
      intro k k1 k2
      have s0 := sums (tp T x) 0 (by omega)
      have e0 : tc T x 0 = x + 1 := rfl
      rw [e0] at s0
      have g := vS_gap (T := T) (N := N) (x := x) (k - (N - (x + 1))) (N - (x + 1)) (by omega) (fun m q1 q2 e => by have := (up m (by omega) e).1; omega)
      rw [show N - (x + 1) + (k - (N - (x + 1))) = k by omega] at g
      omega
    have run : ∀ k, k ≤ N → msN T N k x = 1 + vS T N x k := by
      intro k
      induction k with
      | zero => intro _; rfl
      | succ k ihk =>
        intro hk
        show msN T N k x + (if T 606 (N - 1 - k) = nI x then msN T N k (N - 1 - k) else 0) = 1 + (vS T N x k + if T 606 (N - 1 - k) = nI x then tn T (N - 1 - k) else 0)
        rw [ihk (by omega)]
        by_cases e : T 606 (N - 1 - k) = nI x
        · rw [if_pos e, if_pos e]
          have := (up (N - 1 - k) (by omega) e).1
          rw [ih k (by omega) (N - 1 - k) (by omega) k (by omega) (by omega)]
          omega
        · rw [if_neg e, if_neg e]
          omega
    intro k k1 k2
    rw [run k k2]
    exact tot k k1 k2
theorem ms_heap {H : am_H} {t : Nat} (hN : N ≤ 30) (h6 : ∀ n, n < N → am_gI H 606 t n = T 606 n) (hpar : ∀ n, 0 < n → n < N → ∃ p, p < n ∧ T 606 n = nI p) : ∀ k, k ≤ N - 1 → ∀ x, x < N → am_gI (sp_ms H t N k) 607 t x = nI (msN T N k x) := by
  intro k
  induction k with
  | zero =>
    intro _ x hx
    show am_gI (am_fill H 607 t N 1) 607 t x = nI 1
    rw [am_gI_fill, if_pos ⟨rfl, rfl, hx⟩]
    rfl
  | succ k ih =>
    intro hk x hx
    obtain ⟨q, q1, q2⟩ := hpar (N - 1 - k) (by omega) (by omega)
    have e6 := (h6 (N - 1 - k) (by omega)).trans q2
    show am_gI (am_sI (sp_ms H t N k) 607 t (am_gI H 606 t (N - 1 - k)).toNatClampNeg _) 607 t x = nI (msN T N k x + if T 606 (N - 1 - k) = nI x then msN T N k (N - 1 - k) else 0)
    rw [e6, nI_clamp (show q < 2 ^ 31 by omega), am_gI_sI, ih (by omega) q (by omega), ih (by omega) (N - 1 - k) (by omega), q2]
    by_cases e : x = q
    · subst e
      rw [if_pos ⟨rfl, rfl, rfl⟩, if_pos rfl, nI_add]
    · rw [if_neg (fun r => e r.2.2), if_neg (fun r => e ((nI_eq (by omega) (by omega)).mp r).symm), ih (by omega) x hx, Nat.add_zero]
theorem tc_cg {U : Nat → Nat → Int32} {n : Nat} : ∀ j, (∀ i, i < j → tn U (tc T n i) = tn T (tc T n i)) → tc U n j = tc T n j := by
  intro j
  induction j with
  | zero => intro _; rfl
  | succ j ih =>
    intro h
    have e := ih (fun i hi => h i (by omega))
    show tc U n j + tn U (tc U n j) = tc T n j + tn T (tc T n j)
    rw [e, h j (by omega)]
theorem wf_T_cg {U : Nat → Nat → Int32} (h : ∀ k n, 602 ≤ k → k ≤ 607 → n < N → U k n = T k n) (hT : wf_T T N K) : wf_T U N K := by
  obtain ⟨a1, a2, a3, a4, a5⟩ := hT
  have etn : ∀ n, n < N → tn U n = tn T n := fun n hn => by unfold tn; rw [h 607 n (by decide) (by decide) hn]
  have etp : ∀ n, n < N → tp U n = tp T n := fun n hn => by unfold tp; rw [h 602 n (by decide) (by decide) hn, h 603 n (by decide) (by decide) hn]
  refine ⟨a1, by rw [h 606 0 (by decide) (by decide) (by omega)]; exact a2, fun n q1 q2 => by rw [h 606 n (by decide) (by decide) q2]; exact a3 n q1 q2, by rw [etn 0 (by omega)]; exact a4, fun n hn => ?_⟩
  obtain ⟨b1, b2, b3, b4, b5⟩ := a5 n hn
  have etc : ∀ j, j ≤ tp T n → tc U n j = tc T n j := fun j hj => tc_cg j (fun i hi => etn _ (b3 i (by omega)).1)
  refine ⟨?_, ?_, fun i hi => ?_, ?_, wf_v_cg (h 602 n (by decide) (by decide) hn) (h 603 n (by decide) (by decide) hn) (h 604 n (by decide) (by decide) hn) (h 605 n (by decide) (by decide) hn) b5⟩
  · rw [etn n hn, h 607 n (by decide) (by decide) hn]; exact b1
  · rw [etp n hn, etn n hn, etc _ (Nat.le_refl _)]; exact b2
  · rw [etp n hn] at hi
    rw [etc i (by omega)]
    obtain ⟨d1, d2⟩ := b3 i hi
    exact ⟨d1, by rw [h 606 _ (by decide) (by decide) d1]; exact d2⟩
  · rw [h 606 n (by decide) (by decide) hn]; exact b4
end ND5
