/-! ===== plans: what both sides find, in numbers ===== -/
section PL1
variable {D : Nat → Nat → Int32} {K : Nat} {m b : Int32}
def bn (D : Nat → Nat → Int32) (d f : Nat) : Nat := (bh D d (nI f)).toNatClampNeg
def cs (D : Nat → Nat → Int32) (d : Nat) : Nat := (D 302 d).toNatClampNeg
/-- eight bits each, costs to a hundred -/
def okD (D : Nat → Nat → Int32) (K : Nat) : Prop := K ≤ 10 ∧ (∀ i, i < 10 → (∃ a, a ≤ 255 ∧ D 303 i = nI a) ∧ (∃ a, a ≤ 255 ∧ D 304 i = nI a) ∧ (∃ a, a ≤ 255 ∧ D 305 i = nI a) ∧ ∃ a, a ≤ 255 ∧ D 306 i = nI a) ∧ ∀ i, i < K → ∃ a, a ≤ 100 ∧ D 302 i = nI a
theorem cs_le (h : okD D K) {d : Nat} (hd : d < K) : cs D d ≤ 100 ∧ D 302 d = nI (cs D d) := by
  obtain ⟨a, h1, h2⟩ := h.2.2 d hd
  unfold cs
  rw [h2, nI_clamp (show a < 2 ^ 31 by omega)]
  exact ⟨h1, rfl⟩
theorem bn_lt (h : okD D K) {d f : Nat} (hd : d < K) (hf : f < 256) : bn D d f < 256 ∧ bh D d (nI f) = nI (bn D d f) := by
  obtain ⟨-, -, -, h6⟩ := h.2.1 d (by have := h.1; omega)
  obtain ⟨w, w1, w2⟩ : ∃ w, w ≤ 255 ∧ bh D d (nI f) = nI w := i8_or (i8_and ⟨f, by omega, rfl⟩) (i8_and h6)
  unfold bn
  rw [w2, nI_clamp (show w < 2 ^ 31 by omega)]
  exact ⟨by omega, rfl⟩
def vm (D : Nat → Nat → Int32) (r : Nat → Nat) (f : Nat) : Nat → Nat
  | 0 => 1048576
  | d + 1 => if nd D d (nI f) ∧ cs D d * 16 + 1 + r (bn D d f) < vm D r f d then cs D d * 16 + 1 + r (bn D d f) else vm D r f d
def vl (D : Nat → Nat → Int32) (K : Nat) (m b : Int32) : Nat → Nat → Nat
  | 0, f => if ws m b (nI f) then 0 else 1048576
  | t + 1, f => if vl D K m b t f = 0 then 0 else vm D (vl D K m b t) f K
theorem pm_le (g : Nat → Nat) : ∀ n, pm g n ≤ 1000000 ∧ ∀ d, d < n → pm g n ≤ g d := by
  intro n
  induction n with
  | zero => exact ⟨Nat.le_refl _, fun d h => by omega⟩
  | succ n ih =>
    unfold pm
    by_cases h : g n < pm g n
    · rw [if_pos h]
      refine ⟨by omega, fun d hd => ?_⟩
      by_cases e : d = n
      · subst e; exact Nat.le_refl _
      · have := ih.2 d (by omega); omega
    · rw [if_neg h]
      refine ⟨ih.1, fun d hd => ?_⟩
      by_cases e : d = n
      · subst e; omega
      · exact ih.2 d (by omega)
theorem pm_at (g : Nat → Nat) : ∀ n, pm g n ≠ 1000000 → ∃ d, d < n ∧ pm g n = g d := by
  intro n
  induction n with
  | zero => intro h; exact absurd rfl h
  | succ n ih =>
    unfold pm
    by_cases h : g n < pm g n
    · rw [if_pos h]
      exact fun _ => ⟨n, Nat.lt_succ_self _, rfl⟩
    · rw [if_neg h]
      intro h2
      obtain ⟨d, d1, d2⟩ := ih h2
      exact ⟨d, by omega, d2⟩
theorem vm_le {r : Nat → Nat} {f : Nat} : ∀ n, vm D r f n ≤ 1048576 ∧ ∀ d, d < n → nd D d (nI f) → vm D r f n ≤ cs D d * 16 + 1 + r (bn D d f) := by
  intro n
  induction n with
  | zero => exact ⟨Nat.le_refl _, fun d h => by omega⟩
  | succ n ih =>
    unfold vm
    by_cases h : nd D n (nI f) ∧ cs D n * 16 + 1 + r (bn D n f) < vm D r f n
    · rw [if_pos h]
      refine ⟨by omega, fun d hd h2 => ?_⟩
      by_cases e : d = n
      · subst e; exact Nat.le_refl _
      · have := ih.2 d (by omega) h2; omega
    · rw [if_neg h]
      refine ⟨ih.1, fun d hd h2 => ?_⟩
      by_cases e : d = n
      · subst e
        by_cases h3 : cs D d * 16 + 1 + r (bn D d f) < vm D r f d
        · exact absurd ⟨h2, h3⟩ h
        · omega
      · exact ih.2 d (by omega) h2
theorem vm_at {r : Nat → Nat} {f : Nat} : ∀ n, vm D r f n ≠ 1048576 → ∃ d, d < n ∧ nd D d (nI f) ∧ vm D r f n = cs D d * 16 + 1 + r (bn D d f) := by
  intro n
  induction n with
  | zero => intro h; exact absurd rfl h
  | succ n ih =>
    unfold vm
    by_cases h : nd D n (nI f) ∧ cs D n * 16 + 1 + r (bn D n f) < vm D r f n
    · rw [if_pos h]
      exact fun _ => ⟨n, Nat.lt_succ_self _, h.1, rfl⟩
    · rw [if_neg h]
      intro h2
      obtain ⟨d, d1, d2⟩ := ih h2
      exact ⟨d, by omega, d2⟩
theorem pb_e {r : Nat → Nat} {d f : Nat} (h : pb D r d f ≠ 1000000) : nd D d (nI f) ∧ r (bn D d f) ≠ 1000000 ∧ pb D r d f = r (bn D d f) + cs D d := by
  unfold pb at h ⊢
  by_cases h1 : nd D d (nI f)
  · rw [if_pos h1] at h ⊢
    by_cases h2 : r (bh D d (nI f)).toNatClampNeg = 1000000
    · rw [if_pos h2] at h; exact absurd rfl h
    · rw [if_neg h2] at h ⊢
      exact ⟨h1, h2, rfl⟩
  · rw [if_neg h1] at h; exact absurd rfl h
theorem pb_i {r : Nat → Nat} {d f : Nat} (h1 : nd D d (nI f)) (h2 : r (bn D d f) ≠ 1000000) : pb D r d f = r (bn D d f) + cs D d := by
  unfold pb
  rw [if_pos h1, if_neg (show ¬ r (bh D d (nI f)).toNatClampNeg = 1000000 from h2)]
  rfl
theorem pay_b (h : okD D K) : ∀ j f, f < 256 → pay D K m b j f ≠ 1000000 → pay D K m b j f ≤ 100 * j := by
  intro j
  induction j with
  | zero =>
    intro f _ h1
    unfold pay at h1 ⊢
    by_cases hw : ws m b (nI f)
    · rw [if_pos hw]; omega
    · rw [if_neg hw] at h1; exact absurd rfl h1
  | succ j ih =>
    intro f hf h1
    unfold pay at h1 ⊢
    by_cases hw : ws m b (nI f)
    · rw [if_pos hw] at h1; exact absurd rfl h1
    · rw [if_neg hw] at h1 ⊢
      obtain ⟨d, d1, d2⟩ := pm_at _ K h1
      rw [d2] at h1 ⊢
      obtain ⟨e1, e2, e3⟩ := pb_e h1
      rw [e3]
      have := ih _ (bn_lt h d1 hf).1 e2
      have := (cs_le h d1).1
      omega
theorem pay_w {f : Nat} (h : ws m b (nI f)) (j : Nat) : pay D K m b (j + 1) f = 1000000 := by
  unfold pay
  rw [if_pos h]
theorem vl_w {f : Nat} (h : ws m b (nI f)) : ∀ t, vl D K m b t f = 0 := by
  intro t
  induction t with
  | zero => unfold vl; rw [if_pos h]
  | succ t ih => unfold vl; rw [if_pos ih]
/-- the class' values are the reference's costs and how many -/
theorem vl_pay (h : okD D K) : ∀ t, t ≤ 12 → ∀ f, f < 256 → (∀ j, j ≤ t → pay D K m b j f ≠ 1000000 → vl D K m b t f ≤ 16 * pay D K m b j f + j) ∧ (vl D K m b t f = 1048576 ∨ ∃ j, j ≤ t ∧ pay D K m b j f ≠ 1000000 ∧ vl D K m b t f = 16 * pay D K m b j f + j) := by
  intro t
  induction t with
  | zero =>
    intro _ f hf
    constructor
    · intro j hj h1
      have : j = 0 := by omega
      subst this
      unfold pay at h1
      by_cases hw : ws m b (nI f)
      · unfold vl; rw [if_pos hw]; omega
      · rw [if_neg hw] at h1; exact absurd rfl h1
    · by_cases hw : ws m b (nI f)
      · refine Or.inr ⟨0, Nat.le_refl _, ?_, ?_⟩
        · unfold pay; rw [if_pos hw]; decide
        · unfold vl pay; rw [if_pos hw, if_pos hw]
      · left; unfold vl; rw [if_neg hw]
  | succ t ih =>
    intro ht f hf
    obtain ⟨i1, i2⟩ := ih (by omega) f hf
    by_cases hw : ws m b (nI f)
    · rw [vl_w hw]
      refine ⟨fun j _ _ => Nat.zero_le _, Or.inr ⟨0, Nat.zero_le _, ?_, ?_⟩⟩
      · unfold pay; rw [if_pos hw]; decide
      · unfold pay; rw [if_pos hw]
    have p0 : pay D K m b 0 f = 1000000 := by unfold pay; rw [if_neg hw]
    have hv0 : vl D K m b t f ≠ 0 := by
      rcases i2 with e | ⟨j, j1, j2, j3⟩
      · rw [e]; decide
      · rw [j3]
        intro q
        have : j = 0 := by omega
        subst this
        exact j2 p0
    have ev : vl D K m b (t + 1) f = vm D (vl D K m b t) f K := by
      show (if vl D K m b t f = 0 then 0 else vm D (vl D K m b t) f K) = _
      rw [if_neg hv0]
    have hA : ∀ j, j ≤ t + 1 → pay D K m b j f ≠ 1000000 → vm D (vl D K m b t) f K ≤ 16 * pay D K m b j f + j := by
      intro j hj h1
      cases j with
      | zero => exact absurd p0 h1
      | succ i =>
        have e : pay D K m b (i + 1) f = pm (fun d => pb D (pay D K m b i) d f) K := by
          show (if ws m b (nI f) then 1000000 else _) = _
          rw [if_neg hw]
        rw [e] at h1 ⊢
        obtain ⟨d, d1, d2⟩ := pm_at _ K h1
        rw [d2] at h1 ⊢
        obtain ⟨e1, e2, e3⟩ := pb_e h1
        have q1 := (vm_le (D := D) (r := vl D K m b t) (f := f) K).2 d d1 e1
        have q2 := (ih (by omega) _ (bn_lt h d1 hf).1).1 i (by omega) e2
        rw [e3]
        omega
    rw [ev]
    refine ⟨hA, ?_⟩
    by_cases hn : vm D (vl D K m b t) f K = 1048576
    · exact Or.inl hn
    · right
      obtain ⟨d, d1, d2, d3⟩ := vm_at K hn
      have hle := (vm_le (D := D) (r := vl D K m b t) (f := f) K).1
      rcases (ih (by omega) _ (bn_lt h d1 hf).1).2 with e | ⟨i, r1, r2, r3⟩
      · rw [e] at d3; omega
      · have e : pay D K m b (i + 1) f = pm (fun d => pb D (pay D K m b i) d f) K := by
          show (if ws m b (nI f) then 1000000 else _) = _
          rw [if_neg hw]
        have hpb : pb D (pay D K m b i) d f = pay D K m b i (bn D d f) + cs D d := pb_i d2 r2
        have q1 := (pm_le (fun d => pb D (pay D K m b i) d f) K).2 d d1
        have q1 : pm (fun d => pb D (pay D K m b i) d f) K ≤ pb D (pay D K m b i) d f := q1
        have q2 := pay_b (m := m) (b := b) h i _ (bn_lt h d1 hf).1 r2
        have q3 := (cs_le h d1).1
        have hne : pay D K m b (i + 1) f ≠ 1000000 := by rw [e]; omega
        have q4 := hA (i + 1) (by omega) hne
        refine ⟨i + 1, by omega, hne, ?_⟩
        rw [e] at q4 ⊢
        omega
/-- the least number from d on, k tries -/
def ff (p : Nat → Bool) : Nat → Nat → Nat
  | 0, d => d
  | k + 1, d => if p d = true then d else ff p k (d + 1)
theorem ff_spec (p : Nat → Bool) : ∀ k d, (∃ x, d ≤ x ∧ x < d + k ∧ p x = true) → d ≤ ff p k d ∧ ff p k d < d + k ∧ p (ff p k d) = true ∧ ∀ y, d ≤ y → y < ff p k d → p y = false := by
  intro k
  induction k with
  | zero => rintro d ⟨x, h1, h2, -⟩; omega
  | succ k ih =>
    rintro d ⟨x, h1, h2, h3⟩
    unfold ff
    by_cases hd : p d = true
    · rw [if_pos hd]
      exact ⟨Nat.le_refl _, by omega, hd, fun y q1 q2 => by omega⟩
    · rw [if_neg hd]
      have hx : x ≠ d := fun e => hd (e ▸ h3)
      obtain ⟨q1, q2, q3, q4⟩ := ih (d + 1) ⟨x, by omega, by omega, h3⟩
      refine ⟨by omega, by omega, q3, fun y r1 r2 => ?_⟩
      by_cases e : y = d
      · subst e; exact Bool.eq_false_iff.mpr hd
      · exact q4 y (by omega) r2
/-- the first doing of the best row of r doings from f -/
def gd (D : Nat → Nat → Int32) (K : Nat) (m b : Int32) (r f : Nat) : Nat := ff (fun d => decide (pb D (pay D K m b (r - 1)) d f = pay D K m b r f)) K 0
theorem gd_spec {r f : Nat} (hr : 1 ≤ r) (h : pay D K m b r f ≠ 1000000) : gd D K m b r f < K ∧ pb D (pay D K m b (r - 1)) (gd D K m b r f) f = pay D K m b r f ∧ ∀ y, y < gd D K m b r f → pb D (pay D K m b (r - 1)) y f ≠ pay D K m b r f := by
  obtain ⟨i, rfl⟩ : ∃ i, r = i + 1 := ⟨r - 1, by omega⟩
  have hx : ∃ x, 0 ≤ x ∧ x < 0 + K ∧ (fun d => decide (pb D (pay D K m b (i + 1 - 1)) d f = pay D K m b (i + 1) f)) x = true := by
    by_cases hw : ws m b (nI f)
    · exact absurd (pay_w hw i) h
    · have e : pay D K m b (i + 1) f = pm (fun d => pb D (pay D K m b i) d f) K := by
        show (if ws m b (nI f) then 1000000 else _) = _
        rw [if_neg hw]
      rw [e] at h
      obtain ⟨d, d1, d2⟩ := pm_at _ K h
      exact ⟨d, Nat.zero_le _, by omega, by rw [e]; exact decide_eq_true d2.symm⟩
  obtain ⟨q1, q2, q3, q4⟩ := ff_spec _ K 0 hx
  exact ⟨by unfold gd; omega, of_decide_eq_true q3, fun y hy => of_decide_eq_false (q4 y (Nat.zero_le _) hy)⟩
/-- the class takes just the doings that the reference takes -/
theorem vl_eq (h : okD D K) {t r f d : Nat} (ht : t ≤ 12) (hr : 1 ≤ r) (hrt : r ≤ t) (hf : f < 256) (hd : d < K) (hp : pay D K m b r f ≠ 1000000) (hv : vl D K m b t f = 16 * pay D K m b r f + r) : (nd D d (nI f) ∧ cs D d * 16 + 1 + vl D K m b (t - 1) (bn D d f) = vl D K m b t f) ↔ pb D (pay D K m b (r - 1)) d f = pay D K m b r f := by
  have hbn := (bn_lt h hd hf).1
  have hpb := pay_b (m := m) (b := b) h r f hf hp
  obtain ⟨V1, V2⟩ := vl_pay (m := m) (b := b) h (t - 1) (by omega) _ hbn
  constructor
  · rintro ⟨h1, h2⟩
    rcases V2 with e | ⟨j, j1, j2, j3⟩
    · rw [e] at h2; omega
    · have hj : j = r - 1 := by rw [j3] at h2; omega
      subst hj
      rw [pb_i h1 j2]
      rw [j3] at h2
      omega
  · intro h1
    rw [← h1] at hp
    obtain ⟨e1, e2, e3⟩ := pb_e hp
    refine ⟨e1, ?_⟩
    have q1 := V1 (r - 1) (by omega) e2
    have hv0 : vl D K m b (t - 1) f ≠ 0 := by
      intro q
      have : vl D K m b t f = 0 := by
        rw [show t = t - 1 + 1 by omega]
        show (if vl D K m b (t - 1) f = 0 then 0 else _) = 0
        rw [if_pos q]
      omega
    have ev : vl D K m b t f = vm D (vl D K m b (t - 1)) f K := by
      rw [show t = t - 1 + 1 by omega]
      show (if vl D K m b (t - 1) f = 0 then 0 else _) = _
      rw [if_neg hv0]
      rfl
    have q2 := (vm_le (D := D) (r := vl D K m b (t - 1)) (f := f) K).2 d hd e1
    rw [← ev] at q2
    omega
theorem vl_next (h : okD D K) {t r f d : Nat} (ht : t ≤ 12) (hr : 1 ≤ r) (hrt : r ≤ t) (hf : f < 256) (hd : d < K) (hp : pay D K m b r f ≠ 1000000) (hv : vl D K m b t f = 16 * pay D K m b r f + r) (h1 : pb D (pay D K m b (r - 1)) d f = pay D K m b r f) : pay D K m b (r - 1) (bn D d f) ≠ 1000000 ∧ vl D K m b (t - 1) (bn D d f) = 16 * pay D K m b (r - 1) (bn D d f) + (r - 1) ∧ nd D d (nI f) := by
  have q := (vl_eq h ht hr hrt hf hd hp hv).mpr h1
  rw [← h1] at hp
  obtain ⟨e1, e2, e3⟩ := pb_e hp
  refine ⟨e2, ?_, e1⟩
  rw [hv, ← h1, e3] at q
  omega
/-- the reference's choice of how many -/
def mm (D : Nat → Nat → Int32) (K : Nat) (m b : Int32) (f : Nat) : Nat → Nat × Nat
  | 0 => (1000000, 0)
  | j + 1 => if pay D K m b (j + 1) f < (mm D K m b f j).1 then (pay D K m b (j + 1) f, j + 1) else mm D K m b f j
theorem mm_spec {f : Nat} : ∀ J, ((mm D K m b f J).1 ≤ 1000000 ∧ ∀ j, 1 ≤ j → j ≤ J → (mm D K m b f J).1 ≤ pay D K m b j f) ∧ (((mm D K m b f J).1 = 1000000 ∧ (mm D K m b f J).2 = 0) ∨ (1 ≤ (mm D K m b f J).2 ∧ (mm D K m b f J).2 ≤ J ∧ (mm D K m b f J).1 = pay D K m b (mm D K m b f J).2 f ∧ (mm D K m b f J).1 < 1000000 ∧ ∀ j, 1 ≤ j → j < (mm D K m b f J).2 → (mm D K m b f J).1 < pay D K m b j f)) := by
  intro J
  induction J with
  | zero => exact ⟨⟨Nat.le_refl _, fun j h1 h2 => by omega⟩, Or.inl ⟨rfl, rfl⟩⟩
  | succ J ih =>
    obtain ⟨⟨i0, i1⟩, i2⟩ := ih
    unfold mm
    by_cases hl : pay D K m b (J + 1) f < (mm D K m b f J).1
    · rw [if_pos hl]
      refine ⟨⟨by simp only; omega, fun j h1 h2 => ?_⟩, Or.inr ⟨by simp only; omega, Nat.le_refl _, rfl, by simp only; omega, fun j h1 h2 => ?_⟩⟩
      · simp only
        by_cases e : j = J + 1
        · subst e; exact Nat.le_refl _
        · have := i1 j h1 (by omega); omega
      · simp only at h2 ⊢
        have := i1 j h1 (by omega); omega
    · rw [if_neg hl]
      refine ⟨⟨i0, fun j h1 h2 => ?_⟩, ?_⟩
      · by_cases e : j = J + 1
        · subst e; omega
        · exact i1 j h1 (by omega)
      · rcases i2 with q | ⟨q1, q2, q3⟩
        · exact Or.inl q
        · exact Or.inr ⟨q1, by omega, q3⟩
/-- how long the plan is: by the class' value as by the reference -/
theorem mm_vl (h : okD D K) {f : Nat} (hf : f < 256) (hw : ¬ ws m b (nI f)) : (vl D K m b 12 f = 1048576 ∧ (mm D K m b f 12).2 = 0) ∨ (1 ≤ (mm D K m b f 12).2 ∧ (mm D K m b f 12).2 ≤ 12 ∧ pay D K m b (mm D K m b f 12).2 f ≠ 1000000 ∧ vl D K m b 12 f = 16 * pay D K m b (mm D K m b f 12).2 f + (mm D K m b f 12).2) := by
  have p0 : pay D K m b 0 f = 1000000 := by unfold pay; rw [if_neg hw]
  obtain ⟨V1, V2⟩ := vl_pay (m := m) (b := b) h 12 (Nat.le_refl _) f hf
  obtain ⟨⟨M0, M1⟩, M2⟩ := mm_spec (D := D) (K := K) (m := m) (b := b) (f := f) 12
  rcases M2 with ⟨q1, q2⟩ | ⟨q1, q2, q3, q4, q5⟩
  · left
    refine ⟨?_, q2⟩
    rcases V2 with e | ⟨j, j1, j2, j3⟩
    · exact e
    · exfalso
      have hj : 1 ≤ j := by
        rcases Nat.eq_zero_or_pos j with e | e
        · subst e; exact absurd p0 j2
        · exact e
      have := M1 j hj j1
      have := pay_b (m := m) (b := b) h j f hf j2
      omega
  · right
    have hne : pay D K m b (mm D K m b f 12).2 f ≠ 1000000 := by omega
    have hb := pay_b (m := m) (b := b) h _ f hf hne
    have hle := V1 _ q2 hne
    refine ⟨q1, q2, hne, ?_⟩
    rcases V2 with e | ⟨j, j1, j2, j3⟩
    · rw [e] at hle; omega
    · have hj : 1 ≤ j := by
        rcases Nat.eq_zero_or_pos j with e | e
        · subst e; exact absurd p0 j2
        · exact e
      have h1 := M1 j hj j1
      have h2 : ¬ j < (mm D K m b f 12).2 := fun q => by have := q5 j hj q; omega
      omega
/-- no turn more makes a value better -/
theorem vl_fix {R : Nat → Prop} {t : Nat} (hc : ∀ f, R f → ¬ ws m b (nI f) → ∀ d, d < K → nd D d (nI f) → R (bn D d f)) (hfix : ∀ f, R f → vl D K m b (t + 1) f = vl D K m b t f) : ∀ k f, R f → vl D K m b (t + k) f = vl D K m b t f := by
  have vmc : ∀ (r r2 : Nat → Nat) f, (∀ d, d < K → nd D d (nI f) → r (bn D d f) = r2 (bn D d f)) → ∀ n, n ≤ K → vm D r f n = vm D r2 f n := by
    intro r r2 f hr n
    induction n with
    | zero => intro _; rfl
    | succ n ih =>
      intro hn
      unfold vm
      rw [ih (by omega)]
      by_cases h : nd D n (nI f)
      · rw [hr n (by omega) h]
      · rw [if_neg (fun q => h q.1), if_neg (fun q => h q.1)]
  intro k
  induction k with
  | zero => intro f _; rfl
  | succ k ih =>
    intro f hf
    rw [← hfix f hf]
    show (if vl D K m b (t + k) f = 0 then 0 else vm D (vl D K m b (t + k)) f K) = if vl D K m b t f = 0 then 0 else vm D (vl D K m b t) f K
    rw [ih f hf]
    by_cases h0 : vl D K m b t f = 0
    · rw [if_pos h0, if_pos h0]
    · rw [if_neg h0, if_neg h0]
      have hw : ¬ ws m b (nI f) := fun q => h0 (vl_w q t)
      exact vmc _ _ f (fun d hd hn => ih _ (hc f hf hw d hd hn)) K (Nat.le_refl _)
/-- the plan's doings -/
def gP (D : Nat → Nat → Int32) (K : Nat) (m b : Int32) : Nat → Nat → Nat → Nat
  | 0, _, _ => 0
  | r + 1, f, 0 => gd D K m b (r + 1) f
  | r + 1, f, i + 1 => gP D K m b r (bn D (gd D K m b (r + 1) f) f) i
theorem pf_sh {P : Nat → Nat} : ∀ n p x, pf D P (p + 1) n x = pf D (fun i => P (i + 1)) p n x := by
  intro n
  induction n with
  | zero => intro p x; rfl
  | succ n ih => intro p x; show pf D P (p + 1 + 1) n _ = pf D (fun i => P (i + 1)) (p + 1) n _; exact ih _ _
/-- the plan's doings are doings, and behind them stands the wish -/
theorem gP_ok (h : okD D K) : ∀ r f, f < 256 → pay D K m b r f ≠ 1000000 → (∀ i, i < r → gP D K m b r f i < K) ∧ ws m b (pf D (gP D K m b r f) 0 r (nI f)) := by
  intro r
  induction r with
  | zero =>
    intro f _ hp
    refine ⟨fun i hi => by omega, ?_⟩
    by_cases hw : ws m b (nI f)
    · exact hw
    · unfold pay at hp; rw [if_neg hw] at hp; exact absurd rfl hp
  | succ r ih =>
    intro f hf hp
    obtain ⟨g1, g2, -⟩ := gd_spec (show 1 ≤ r + 1 by omega) hp
    rw [← g2] at hp
    obtain ⟨e1, e2, e3⟩ := pb_e hp
    obtain ⟨b1, b2⟩ := bn_lt h g1 hf
    obtain ⟨i1, i2⟩ := ih _ b1 e2
    constructor
    · intro i hi
      cases i with
      | zero => exact g1
      | succ i => exact i1 i (by omega)
    · show ws m b (pf D (gP D K m b (r + 1) f) 1 r (bh D (gd D K m b (r + 1) f) (nI f)))
      rw [b2, pf_sh]
      exact i2
end PL1
