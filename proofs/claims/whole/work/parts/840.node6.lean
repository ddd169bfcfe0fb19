section ND6
variable {l : Launch} {H G : am_H} {B : Nat → Nat → Int32} {lk : Nat → Nat} {K n0 p t q : Nat}
theorem ac_nil {par : Nat → Option Nat} {f : Nat} : ac par f none = [] := by cases f <;> rfl
def pr (B : Nat → Nat → Int32) (n0 : Nat) : Nat → Option Nat := fun n => if n < n0 ∧ 0 < n then some (B 606 n).toNatClampNeg else none
theorem pr_of1 (h : ∀ n, n < n0 → BN1 B lk K n0 n) (h30 : n0 ≤ 30) {n : Nat} (hn : n < n0) (h0 : 0 < n) : ∃ b, b < n ∧ B 606 n = nI b ∧ pr B n0 n = some b := by
  obtain ⟨b, r1, r2, -⟩ := (h n hn).2.2.2.2.2.2.2 h0
  refine ⟨b, r1, r2, ?_⟩
  unfold pr
  rw [if_pos ⟨hn, h0⟩, r2, nI_clamp (show b < 2 ^ 31 by omega)]
theorem pr_lt (h : ∀ n, n < n0 → BN1 B lk K n0 n) (h30 : n0 ≤ 30) (n q : Nat) (e : pr B n0 n = some q) : q < n ∧ q < n0 ∧ n < n0 ∧ 0 < n := by
  by_cases c : n < n0 ∧ 0 < n
  · obtain ⟨b, r1, r2, r3⟩ := pr_of1 h h30 c.1 c.2
    rw [r3] at e
    cases e
    omega
  · unfold pr at e
    rw [if_neg c] at e
    cases e
theorem ac_mem (h : ∀ n, n < n0 → BN1 B lk K n0 n) (h30 : n0 ≤ 30) : ∀ f b, b < n0 → b < f → ∀ x, x < n0 → (x ∈ ac (pr B n0) f (some b) ↔ x ≤ b ∧ b < x + tn B x) := by
  intro f
  induction f with
  | zero => intro b _ hf; omega
  | succ f ih =>
    intro b hb hf x hx
    have hx1 := (h x hx).2.1.1
    show x ∈ b :: ac (pr B n0) f (pr B n0 b) ↔ _
    rw [List.mem_cons]
    by_cases b0 : b = 0
    · have e : pr B n0 b = none := by unfold pr; rw [if_neg (fun q => by omega)]
      rw [e, ac_nil]
      constructor
      · rintro (rfl | hh)
        · omega
        · cases hh
      · intro hh
        exact Or.inl (by omega)
    · obtain ⟨q, r1, r2, r3⟩ := pr_of1 h h30 hb (by omega)
      obtain ⟨q', s1, s2, s3, s4⟩ := (h b hb).2.2.2.2.2.2.2 (by omega)
      have : q' = q := by
        rw [r2, nI_eq (by omega) (by omega)] at s2
        exact s2.symm
      subst this
      rw [r3, ih q' (by omega) (by omega) x hx]
      rcases Nat.lt_trichotomy x b with c | c | c
      · have := s4 x c
        constructor
        · rintro (rfl | hh)
          · omega
          · exact ⟨by omega, this.mpr hh⟩
        · intro hh
          exact Or.inr (this.mp hh.2)
      · subst c
        exact ⟨fun _ => ⟨Nat.le_refl _, by omega⟩, fun _ => Or.inl rfl⟩
      · constructor
        · rintro (rfl | hh)
          · omega
          · omega
        · intro hh; omega
/-- the rows behind node -/
theorem BN_grow {k a x c : Int32} (hK : K ≤ 10) (h : ndOk K k a x c) (hB : BS B lk K n0 p) (hn : n0 < 30) : BN (gT B n0 (ac (pr B n0) 30 (op lk n0)) k a x c (oI (op lk n0))) (glk lk n0 (op lk n0) (tpv k a)) K (n0 + 1) (p - 1 + tpv k a) := by
  have hBN := BS_BN hB
  by_cases h0 : n0 = 0
  · subst h0
    have := hB.2.1 rfl
    subst this
    rw [show 1 - 1 + tpv k a = tpv k a by omega]
    exact BN_first hK h
  · have hne : op lk n0 ≠ none := fun e => by
      have := sm_z n0 (op_none n0 e)
      have := (hB.2.2.1 (by omega)).1
      have := hB.1.2
      omega
    cases ho : op lk n0 with
    | none => exact absurd ho hne
    | some b =>
      have hb := op_lt n0 b ho
      exact BN_next hK h hBN hn (by omega) hB.1.2 ho (fun i hi => ac_mem hBN.2 (by omega) 30 b hb.1 (by omega) i hi)
theorem miss_nI (h1 : 1 ≤ p) : nI p + (nI q - 1) = nI (p - 1 + q) := by
  obtain ⟨r, rfl⟩ : ∃ r, p = r + 1 := ⟨p - 1, by omega⟩
  rw [Int32.sub_eq_add_neg, ← Int32.add_assoc, nI_add, ← Int32.sub_eq_add_neg, show r + 1 + q = r + q + 1 by omega, nI_pred]
  rfl
theorem nI_sub1 {n : Nat} (h : 0 < n) : nI n - 1 = nI (n - 1) := by
  obtain ⟨r, rfl⟩ : ∃ r, n = r + 1 := ⟨n - 1, by omega⟩
  exact nI_pred r
theorem grow_fr {k a b c s : Int32} {o : Option Nat} {x y z : Nat} (h : y ≠ t ∨ (x ≠ 5 ∧ ¬ (602 ≤ x ∧ x ≤ 606) ∧ x ≠ 608)) : am_gI (sp_grow H t n0 k a b c o s) x y z = am_gI H x y z := by
  have e5 : ¬ (x = 5 ∧ y = t ∧ z = 0) := fun q => by omega
  have e51 : ¬ (x = 5 ∧ y = t ∧ z = 1) := fun q => by omega
  have e2 : ¬ (x = 602 ∧ y = t ∧ z = n0) := fun q => by omega
  have e3 : ¬ (x = 603 ∧ y = t ∧ z = n0) := fun q => by omega
  have e4 : ¬ (x = 604 ∧ y = t ∧ z = n0) := fun q => by omega
  have e6 : ¬ (x = 605 ∧ y = t ∧ z = n0) := fun q => by omega
  have e7 : ¬ (x = 606 ∧ y = t ∧ z = n0) := fun q => by omega
  have e8 : ∀ w, ¬ (x = 608 ∧ y = t ∧ z = w) := fun w q => by omega
  unfold sp_grow sp_row
  cases o <;> simp only [sp_less, am_gI_sI, e5, e51, e2, e3, e4, e6, e7, e8, ↓reduceIte]
theorem gR_grow {k a b c s : Int32} {o : Option Nat} {x y z : Nat} : am_gR (sp_grow H t n0 k a b c o s) x y z = am_gR H x y z := by
  unfold sp_grow sp_row
  cases o <;> rfl
theorem gL_grow {k a b c s : Int32} {o : Option Nat} {x y z : Nat} : am_gL (sp_grow H t n0 k a b c o s) x y z = am_gL H x y z := by
  unfold sp_grow sp_row
  cases o <;> rfl
theorem lv_grow {k a b c s : Int32} {o : Option Nat} : am_lv (sp_grow H t n0 k a b c o s) = am_lv H := by
  unfold sp_grow sp_row
  cases o <;> rfl
theorem grow_5 {k a b c s : Int32} {o : Option Nat} : am_gI (sp_grow H t n0 k a b c o s) 5 t 0 = nI (n0 + 1) ∧ am_gI (sp_grow H t n0 k a b c o s) 5 t 1 = am_gI H 5 t 1 + (s - 1) := by
  unfold sp_grow
  constructor <;> simp (decide := true) only [am_gI_sI, true_and, and_self, ↓reduceIte]
theorem grow_rows {k a b c : Int32} {o : Option Nat} {L : List Nat} (ho : ∀ x, o = some x → 0 < lk x) (hr : ∀ n, n < n0 → am_gI H 602 t n = B 602 n ∧ am_gI H 603 t n = B 603 n ∧ am_gI H 604 t n = B 604 n ∧ am_gI H 605 t n = B 605 n ∧ am_gI H 606 t n = B 606 n ∧ am_gI H 608 t n = nI (lk n)) (ho2 : ∀ x, o = some x → x < n0) {n : Nat} (hn : n < n0 + 1) : (∀ x, 602 ≤ x → x ≤ 606 → am_gI (sp_grow H t n0 k a b c o (nI q)) x t n = gT B n0 L k a b c (oI o) x n) ∧ am_gI (sp_grow H t n0 k a b c o (nI q)) 608 t n = nI (glk lk n0 o q n) := by
  by_cases e : n = n0
  · subst e
    constructor
    · intro x h1 h2
      have : x = 602 ∨ x = 603 ∨ x = 604 ∨ x = 605 ∨ x = 606 := by omega
      unfold sp_grow sp_row gT
      rcases this with rfl | rfl | rfl | rfl | rfl <;> cases o <;> simp (decide := true) only [sp_less, am_gI_sI, false_and, true_and, and_self, ↓reduceIte]
    · unfold sp_grow sp_row glk
      rw [if_pos rfl]
      cases o <;> simp (decide := true) only [sp_less, am_gI_sI, false_and, true_and, and_self, ↓reduceIte]
  · obtain ⟨r2, r3, r4, r5, r6, r8⟩ := hr n (by omega)
    constructor
    · intro x h1 h2
      rw [gT_old e (by omega)]
      have : x = 602 ∨ x = 603 ∨ x = 604 ∨ x = 605 ∨ x = 606 := by omega
      unfold sp_grow sp_row
      rcases this with rfl | rfl | rfl | rfl | rfl <;> cases o <;> simp (decide := true) only [sp_less, am_gI_sI, false_and, and_false, e, ↓reduceIte] <;> assumption
    · unfold sp_grow sp_row glk
      rw [if_neg e]
      cases o with
      | none =>
        simp (decide := true) only [sp_less, am_gI_sI, false_and, and_false, e, ↓reduceIte, reduceCtorEq]
        exact r8
      | some x =>
        by_cases ex : x = n
        · subst ex
          simp (decide := true) only [sp_less, am_gI_sI, false_and, and_false, true_and, e, ↓reduceIte, r8]
          exact nI_sub1 (ho x rfl)
        · have ex2 : ¬ n = x := fun q => ex q.symm
          simp (decide := true) only [sp_less, am_gI_sI, false_and, and_false, true_and, e, ex, ex2, ↓reduceIte, Option.some.injEq]
          exact r8
theorem gR_mgrow {k a b c s : Int32} {par : Nat → Option Nat} {o : Option Nat} {x y z : Nat} : am_gR (mp_grow H t n0 k a b c par o s) x y z = am_gR H x y z := by
  unfold mp_grow mp_end
  split <;> simp only [am_gR_sI, gR_inc, gR_up] <;> rfl
theorem gL_mgrow {k a b c s : Int32} {par : Nat → Option Nat} {o : Option Nat} {x y z : Nat} : am_gL (mp_grow H t n0 k a b c par o s) x y z = am_gL H x y z := by
  unfold mp_grow mp_end
  split <;> simp only [am_gL_sI, gL_inc] <;> unfold mp_up <;> cases o <;> rfl
theorem lv_mgrow {k a b c s : Int32} {par : Nat → Option Nat} {o : Option Nat} : am_lv (mp_grow H t n0 k a b c par o s) = am_lv H := by
  unfold mp_grow mp_end
  split <;> simp only [am_lv_sI, lv_inc] <;> unfold mp_up <;> cases o <;> rfl
theorem up_fr {k a b c s : Int32} {o : Option Nat} {x y z : Nat} (h : ¬ (918 ≤ x ∧ x ≤ 924 ∧ y = 0 ∧ (z = 30 * t + n0 ∨ ∃ i, o = some i ∧ z = 30 * t + i))) : am_gI (mp_up (mp_row H (30 * t + n0) k a b c s) t n0 o) x y z = am_gI H x y z := by
  have e : ∀ w, 918 ≤ w → w ≤ 924 → ¬ (x = w ∧ y = 0 ∧ z = 30 * t + n0) := fun w h1 h2 q => h ⟨by omega, by omega, q.2.1, Or.inl q.2.2⟩
  unfold mp_up mp_row
  cases o with
  | none => simp only [mp_less, am_gI_sI, e 918 (by decide) (by decide), e 919 (by decide) (by decide), e 920 (by decide) (by decide), e 921 (by decide) (by decide), e 922 (by decide) (by decide), e 923 (by decide) (by decide), e 924 (by decide) (by decide), ↓reduceIte]
  | some i =>
    have e2 : ¬ (x = 924 ∧ y = 0 ∧ z = 30 * t + i) := fun q => h ⟨by omega, by omega, q.2.1, Or.inr ⟨i, rfl, q.2.2⟩⟩
    simp only [mp_less, am_gI_sI, e 918 (by decide) (by decide), e 919 (by decide) (by decide), e 920 (by decide) (by decide), e 921 (by decide) (by decide), e 922 (by decide) (by decide), e 923 (by decide) (by decide), e 924 (by decide) (by decide), e2, ↓reduceIte]
theorem end_fr {s : Int32} {x y z : Nat} (h : ¬ (x = 917 ∧ y = 0 ∧ z = t)) (h2 : ¬ (x = 8 ∧ y = 0 ∧ (z = 14 ∨ z = 15 ∨ z = 16))) : am_gI (mp_end H t n0 s) x y z = am_gI H x y z := by
  have e4 : ¬ (x = 8 ∧ y = 0 ∧ z = 14) := fun q => h2 ⟨q.1, q.2.1, Or.inl q.2.2⟩
  have e5 : ¬ (x = 8 ∧ y = 0 ∧ z = 15) := fun q => h2 ⟨q.1, q.2.1, Or.inr (Or.inl q.2.2)⟩
  have e6 : ¬ (x = 8 ∧ y = 0 ∧ z = 16) := fun q => h2 ⟨q.1, q.2.1, Or.inr (Or.inr q.2.2)⟩
  unfold mp_end
  split <;> simp only [am_gI_sI, h, e4, e5, e6, ↓reduceIte]
/-- outside of its rows and of the tree's numbers nothing changes -/
theorem mgrow_fr {k a b c s : Int32} {par : Nat → Option Nat} {o : Option Nat} {x y z : Nat} (ho : ∀ i, o = some i → i < 30) (hn : n0 < 30) (hL : ∀ i ∈ ac par 30 o, i < 30) (h : ¬ (x = 917 ∧ y = 0 ∧ z = t)) (h2 : ¬ (x = 8 ∧ y = 0 ∧ (z = 14 ∨ z = 15 ∨ z = 16))) (h3 : ¬ (918 ≤ x ∧ x ≤ 924 ∧ y = 0 ∧ 30 * t ≤ z ∧ z < 30 * t + 30)) : am_gI (mp_grow H t n0 k a b c par o s) x y z = am_gI H x y z := by
  unfold mp_grow
  rw [end_fr h h2, gI_inc _ _ (fun q => by obtain ⟨q1, q2, i, q3, q4⟩ := q; have := hL i q3; exact h3 ⟨by omega, by omega, q2, by omega, by omega⟩), up_fr]
  rintro ⟨q1, q2, q3, q4 | ⟨i, q5, q6⟩⟩
  · exact h3 ⟨q1, q2, q3, by omega, by omega⟩
  · have := ho i q5
    exact h3 ⟨q1, q2, q3, by omega, by omega⟩
theorem mgrow_rows {k a b c : Int32} {par : Nat → Option Nat} {o : Option Nat} (ho : ∀ x, o = some x → 0 < lk x ∧ x < n0) (hLn : (ac par 30 o).Nodup) (hL : ∀ i ∈ ac par 30 o, i < n0) (hr : ∀ n, n < n0 → am_gI H 918 0 (30 * t + n) = B 602 n ∧ am_gI H 919 0 (30 * t + n) = B 603 n ∧ am_gI H 920 0 (30 * t + n) = B 604 n ∧ am_gI H 921 0 (30 * t + n) = B 605 n ∧ am_gI H 922 0 (30 * t + n) = B 606 n ∧ am_gI H 923 0 (30 * t + n) = B 607 n ∧ am_gI H 924 0 (30 * t + n) = nI (lk n)) {n : Nat} (hn : n < n0 + 1) : am_gI (mp_grow H t n0 k a b c par o (nI q)) 918 0 (30 * t + n) = gT B n0 (ac par 30 o) k a b c (oI o) 602 n ∧ am_gI (mp_grow H t n0 k a b c par o (nI q)) 919 0 (30 * t + n) = gT B n0 (ac par 30 o) k a b c (oI o) 603 n ∧ am_gI (mp_grow H t n0 k a b c par o (nI q)) 920 0 (30 * t + n) = gT B n0 (ac par 30 o) k a b c (oI o) 604 n ∧ am_gI (mp_grow H t n0 k a b c par o (nI q)) 921 0 (30 * t + n) = gT B n0 (ac par 30 o) k a b c (oI o) 605 n ∧ am_gI (mp_grow H t n0 k a b c par o (nI q)) 922 0 (30 * t + n) = gT B n0 (ac par 30 o) k a b c (oI o) 606 n ∧ am_gI (mp_grow H t n0 k a b c par o (nI q)) 923 0 (30 * t + n) = gT B n0 (ac par 30 o) k a b c (oI o) 607 n ∧ am_gI (mp_grow H t n0 k a b c par o (nI q)) 924 0 (30 * t + n) = nI (glk lk n0 o q n) := by
  have inc : ∀ (G : am_H) x z, x ≠ 923 → am_gI (mp_inc G t (ac par 30 o)) x 0 z = am_gI G x 0 z := fun G x z h => gI_inc _ _ (fun r => h r.1)
  have R : ∀ x, x ≠ 917 → x ≠ 8 → x ≠ 923 → am_gI (mp_grow H t n0 k a b c par o (nI q)) x 0 (30 * t + n) = am_gI (mp_up (mp_row H (30 * t + n0) k a b c (nI q)) t n0 o) x 0 (30 * t + n) := fun x h1 h2 h3 => by
    unfold mp_grow
    rw [end_fr (fun r => h1 r.1) (fun r => h2 r.1), inc _ x _ h3]
  rw [R 918 (by decide) (by decide) (by decide), R 919 (by decide) (by decide) (by decide), R 920 (by decide) (by decide) (by decide), R 921 (by decide) (by decide) (by decide), R 922 (by decide) (by decide) (by decide), R 924 (by decide) (by decide) (by decide)]
  by_cases e : n = n0
  · subst e
    have incN : ∀ (G : am_H), am_gI (mp_inc G t (ac par 30 o)) 923 0 (30 * t + n) = am_gI G 923 0 (30 * t + n) := fun G => gI_inc _ _ (fun r => by obtain ⟨-, -, i, r1, r2⟩ := r; have := hL i r1; omega)
    have R3 : am_gI (mp_grow H t n k a b c par o (nI q)) 923 0 (30 * t + n) = am_gI (mp_up (mp_row H (30 * t + n) k a b c (nI q)) t n o) 923 0 (30 * t + n) := by
      unfold mp_grow
      rw [end_fr (fun r => absurd r.1 (by decide)) (fun r => absurd r.1 (by decide)), incN]
    rw [R3]
    unfold mp_up mp_row gT glk
    cases o with
    | none => simp (decide := true) only [mp_less, am_gI_sI, false_and, true_and, and_self, ↓reduceIte]
    | some i =>
      have hi := (ho i rfl).2
      have e2 : ¬ (30 * t + n = 30 * t + i) := by omega
      simp (decide := true) only [mp_less, am_gI_sI, false_and, true_and, and_self, e2, ↓reduceIte]
  · obtain ⟨r2, r3, r4, r5, r6, r7, r8⟩ := hr n (by omega)
    have e1 : ¬ (30 * t + n = 30 * t + n0) := by omega
    have up7 : am_gI (mp_up (mp_row H (30 * t + n0) k a b c (nI q)) t n0 o) 923 0 (30 * t + n) = B 607 n := by
      unfold mp_up mp_row
      cases o <;> simp (decide := true) only [mp_less, am_gI_sI, false_and, and_false, e1, ↓reduceIte] <;> exact r7
    have R7 : am_gI (mp_grow H t n0 k a b c par o (nI q)) 923 0 (30 * t + n) = gT B n0 (ac par 30 o) k a b c (oI o) 607 n := by
      unfold mp_grow
      rw [end_fr (fun r => absurd r.1 (by decide)) (fun r => absurd r.1 (by decide))]
      unfold gT
      rw [if_neg e]
      by_cases hL2 : n ∈ ac par 30 o
      · rw [gI_inc_in _ _ hLn hL2, if_pos ⟨rfl, hL2⟩, up7]
      · rw [gI_inc _ _ (fun r => by
          obtain ⟨-, -, i, q1, q2⟩ := r
          have : n = i := by omega
          exact hL2 (this ▸ q1)), if_neg (fun r => hL2 r.2), up7]
    rw [R7]
    rw [gT_old e (by decide), gT_old e (by decide), gT_old e (by decide), gT_old e (by decide), gT_old e (by decide)]
    unfold mp_up mp_row glk
    rw [if_neg e]
    cases o with
    | none =>
      simp (decide := true) only [mp_less, am_gI_sI, false_and, and_false, e1, ↓reduceIte, reduceCtorEq]
      exact ⟨r2, r3, r4, r5, r6, trivial, r8⟩
    | some i =>
      by_cases ei : i = n
      · subst ei
        simp (decide := true) only [mp_less, am_gI_sI, false_and, and_false, true_and, e1, ↓reduceIte, r8]
        exact ⟨r2, r3, r4, r5, r6, nI_sub1 (ho i rfl).1⟩
      · have e2 : ¬ (30 * t + n = 30 * t + i) := by omega
        simp (decide := true) only [mp_less, am_gI_sI, false_and, and_false, true_and, e1, e2, ei, ↓reduceIte, Option.some.injEq]
        exact ⟨r2, r3, r4, r5, r6, r8⟩
end ND6
