/-! ===== what stays true while a tick runs ===== -/
section CIN
variable {l : Launch} {H H' : am_H} {j t N K A S : Nat} {T : Nat → Nat → Int32}
def tn (T : Nat → Nat → Int32) (n : Nat) : Nat := (T 607 n).toNatClampNeg
def tc (T : Nat → Nat → Int32) (n : Nat) : Nat → Nat
  | 0 => n + 1
  | i + 1 => tc T n i + tn T (tc T n i)
def tp (T : Nat → Nat → Int32) (n : Nat) : Nat := if T 602 n = 2 ∨ T 602 n = 3 ∨ T 602 n = 4 ∨ T 602 n = 7 then (T 603 n).toNatClampNeg else if T 602 n = 5 ∨ T 602 n = 6 ∨ T 602 n = 8 then 1 else 0
/-- a whole tree's arrays are a tree in the order in which it was told -/
def wf_n (T : Nat → Nat → Int32) (N K n : Nat) : Prop :=
  (1 ≤ tn T n ∧ T 607 n = nI (tn T n) ∧ n + tn T n ≤ N) ∧ tc T n (tp T n) = n + tn T n ∧ (∀ i, i < tp T n → tc T n i < N ∧ T 606 (tc T n i) = nI n) ∧ (T 606 n = -4 ∨ ∃ p, p < n ∧ T 606 n = nI p) ∧
  (∃ k, k ≤ 9 ∧ T 602 n = nI k) ∧
  (T 602 n = 1 ∨ T 602 n = 5 → (0 ≤ T 603 n ∧ T 603 n ≤ 4) ∧ vp_in (T 604 n) 12 ∧ (T 603 n = 4 → vp_in (T 605 n) 8)) ∧
  (T 602 n = 0 → vp_in (T 603 n) K) ∧
  (T 602 n = 2 ∨ T 602 n = 3 ∨ T 602 n = 4 ∨ T 602 n = 7 → ∃ a, 1 ≤ a ∧ a ≤ 6 ∧ T 603 n = nI a) ∧
  (T 602 n = 4 → ∃ b, 1 ≤ b ∧ b ≤ tp T n ∧ T 604 n = nI b) ∧
  (T 602 n = 6 → ∃ a, 1 ≤ a ∧ a ≤ 50 ∧ T 603 n = nI a) ∧
  (T 602 n = 9 → (∃ a, 1 ≤ a ∧ a ≤ 255 ∧ T 603 n = nI a) ∧ ∃ b, b ≤ 255 ∧ T 604 n = nI b)
def wf_T (T : Nat → Nat → Int32) (N K : Nat) : Prop := (1 ≤ N ∧ N ≤ 30) ∧ T 606 0 = -4 ∧ (∀ n, 0 < n → n < N → ∃ p, p < n ∧ T 606 n = nI p) ∧ tn T 0 = N ∧ ∀ n, n < N → wf_n T N K n
def wf_P (H : am_H) (S : Nat) : Prop := (am_gR H 3 0 3 = none ∧ ∀ a ∈ am_lv H, a.1 ≠ 4 ∧ a.1 ≠ 500 ∧ a.1 ≠ 504 ∧ a.1 ≠ 506 ∧ a.1 ≠ 508 ∧ a.1 ≠ 510 ∧ a.1 ≠ 511) ∨
  (am_gR H 3 0 3 = some (4, 0) ∧ sh_P H ∧ ∃ s, s ≤ S ∧ am_gI H 4 0 9 = nI s ∧ ∀ f, f < 256 → ∃ x, x ≤ s ∧ am_gI H 508 0 f = nI x)
theorem i8_iff {x : Int32} : (∃ w, w ≤ 255 ∧ x = nI w) ↔ x.toBitVec.toNat ≤ 255 := by
  constructor
  · rintro ⟨w, hw, rfl⟩
    rw [pk_tn (show w < 2 ^ 32 by omega)]
    exact hw
  · intro h
    refine ⟨x.toBitVec.toNat, h, ?_⟩
    apply Int32.toBitVec_inj.mp
    apply BitVec.eq_of_toNat_eq
    exact (pk_tn (show x.toBitVec.toNat < 2 ^ 32 by omega)).symm
theorem i8_and {x y : Int32} (h : ∃ w, w ≤ 255 ∧ x = nI w) : ∃ w, w ≤ 255 ∧ x &&& y = nI w := by
  rw [i8_iff] at *
  rw [Int32.toBitVec_and, BitVec.toNat_and]
  exact Nat.le_trans Nat.and_le_left h
theorem i8_or {x y : Int32} (h : ∃ w, w ≤ 255 ∧ x = nI w) (h2 : ∃ w, w ≤ 255 ∧ y = nI w) : ∃ w, w ≤ 255 ∧ x ||| y = nI w := by
  rw [i8_iff] at *
  rw [Int32.toBitVec_or, BitVec.toNat_or]
  have := Nat.or_lt_two_pow (n := 8) (show x.toBitVec.toNat < 2 ^ 8 by omega) (show y.toBitVec.toNat < 2 ^ 8 by omega)
  omega
/-- the facts' numbers keep to eight bits; costs to a hundred -/
def XF (H : am_H) (K : Nat) : Prop := K ≤ 10 ∧ (∃ w, w ≤ 255 ∧ am_gI H 6 0 0 = nI w) ∧ (∀ i, i < 10 → (∃ a, a ≤ 255 ∧ am_gI H 303 0 i = nI a) ∧ (∃ a, a ≤ 255 ∧ am_gI H 304 0 i = nI a) ∧ (∃ a, a ≤ 255 ∧ am_gI H 305 0 i = nI a) ∧ ∃ a, a ≤ 255 ∧ am_gI H 306 0 i = nI a) ∧ ∀ i, i < K → ∃ a, a ≤ 100 ∧ am_gI H 302 0 i = nI a
theorem XF_cg (hI : ∀ k, k = 6 ∨ 302 ≤ k ∧ k ≤ 306 → ∀ b c, am_gI H' k b c = am_gI H k b c) (h : XF H K) : XF H' K := by
  have e0 := hI 6 (by omega)
  have e2 := hI 302 (by omega)
  have e3 := hI 303 (by omega)
  have e4 := hI 304 (by omega)
  have e5 := hI 305 (by omega)
  have e6 := hI 306 (by omega)
  simpa only [XF, e0, e2, e3, e4, e5, e6] using h
def CI (H : am_H) (j t N K : Nat) (T : Nat → Nat → Int32) (A S : Nat) : Prop :=
  (sh_L H ∧ sh_M H ∧ sh_W H ∧ sh_D H ∧ sh_S H j t) ∧ (∀ k i, 602 ≤ k → k ≤ 607 → am_gI H k t i = T k i) ∧ am_gI H 5 t 0 = nI N ∧ wf_pl H j ∧ am_gI H 2 0 0 = nI K ∧ wf_W H ∧ (∃ a, a ≤ A ∧ am_gI H 0 0 0 = nI a) ∧ wf_P H S ∧ XF H K
theorem sh_cg (hR : ∀ a b c, am_gR H' a b c = am_gR H a b c) (h : sh_L H ∧ sh_M H ∧ sh_W H ∧ sh_D H ∧ sh_S H j t) : sh_L H' ∧ sh_M H' ∧ sh_W H' ∧ sh_D H' ∧ sh_S H' j t := by
  simpa [sh_L, sh_M, sh_W, sh_D, sh_S, sh_C, sh_T, hR] using h
theorem wf_P_cg (hR : ∀ a b c, am_gR H' a b c = am_gR H a b c) (hv : am_lv H' = am_lv H) (hI : ∀ k, k = 4 ∨ k = 508 → ∀ b c, am_gI H' k b c = am_gI H k b c) (h : wf_P H S) : wf_P H' S := by
  have e1 : ∀ b c, am_gI H' 4 b c = am_gI H 4 b c := hI 4 (Or.inl rfl)
  have e2 : ∀ b c, am_gI H' 508 b c = am_gI H 508 b c := hI 508 (Or.inr rfl)
  simpa [wf_P, sh_P, hR, hv, e1, e2] using h
theorem CI_cg (h : CI H j t N K T A S) (hR : ∀ a b c, am_gR H' a b c = am_gR H a b c) (hv : am_lv H' = am_lv H) (hI : ∀ k, k = 5 ∨ 602 ≤ k ∧ k ≤ 607 ∨ k = 205 ∨ k = 2 ∨ k = 0 ∨ k = 4 ∨ k = 508 → ∀ b c, am_gI H' k b c = am_gI H k b c) (hW : wf_W H') (hXF : XF H' K) : CI H' j t N K T A S := by
  obtain ⟨h1, h2, h3, h4, h5, h6, h7, h8, h9⟩ := h
  refine ⟨sh_cg hR h1, fun k i a b => ?_, ?_, fun n hn => ?_, ?_, hW, ?_, wf_P_cg hR hv (fun k hk => hI k (by omega)) h8, hXF⟩
  · rw [hI k (by omega)]; exact h2 k i a b
  · rw [hI 5 (by omega)]; exact h3
  · rw [hI 205 (by omega)]; exact h4 n hn
  · rw [hI 2 (by omega)]; exact h5
  · rw [hI 0 (by omega)]; exact h7
theorem wf_W_cg (hI : ∀ c, am_gI H' 701 0 c = am_gI H 701 0 c) (hL : ∀ c, am_gL H' 702 0 c = am_gL H 702 0 c) (h : wf_W H) : wf_W H' := by
  simpa [wf_W, hI, hL] using h
theorem CI_sI {k b c : Nat} {v : Int32} (hk : ¬ (k = 5 ∨ 602 ≤ k ∧ k ≤ 607 ∨ k = 205 ∨ k = 2 ∨ k = 0 ∨ k = 4 ∨ k = 508) ∧ k ≠ 701 ∧ ¬ (k = 6 ∨ 302 ≤ k ∧ k ≤ 306)) (h : CI H j t N K T A S) : CI (am_sI H k b c v) j t N K T A S := by
  refine CI_cg h (fun _ _ _ => rfl) rfl (fun k' hk' b' c' => ?_) (wf_W_cg (H := H) (H' := am_sI H k b c v) (fun c' => ?_) (fun _ => rfl) h.2.2.2.2.2.1) (XF_cg (H := H) (fun k' hk' b' c' => ?_) h.2.2.2.2.2.2.2.2)
  · rw [am_gI_sI, if_neg]
    rintro ⟨q, -⟩
    rw [q] at hk'
    exact hk.1 hk'
  · rw [am_gI_sI, if_neg]
    rintro ⟨q, -⟩
    exact hk.2.1 q.symm
  · rw [am_gI_sI, if_neg]
    rintro ⟨q, -⟩
    rw [q] at hk'
    exact hk.2.2 hk'
theorem CI_facts {v : Int32} (hv : ∃ w, w ≤ 255 ∧ v = nI w) (h : CI H j t N K T A S) : CI (am_sI H 6 0 0 v) j t N K T A S := by
  have hI : ∀ k, k ≠ 6 → ∀ b c, am_gI (am_sI H 6 0 0 v) k b c = am_gI H k b c := fun k hk b c => by rw [am_gI_sI, if_neg (fun q => hk q.1)]
  refine CI_cg h (fun _ _ _ => rfl) rfl (fun k' hk' b' c' => hI k' (by omega) b' c') (wf_W_cg (H := H) (fun c' => hI 701 (by decide) 0 c') (fun _ => rfl) h.2.2.2.2.2.1) ?_
  obtain ⟨x1, x2, x3, x4⟩ := h.2.2.2.2.2.2.2.2
  refine ⟨x1, ?_, fun i hi => ?_, fun i hi => ?_⟩
  · rw [am_gI_sI, if_pos ⟨rfl, rfl, rfl⟩]; exact hv
  · rw [hI 303 (by decide), hI 304 (by decide), hI 305 (by decide), hI 306 (by decide)]; exact x3 i hi
  · rw [hI 302 (by decide)]; exact x4 i hi
theorem CI_mono {A2 S2 : Nat} (hA : A ≤ A2) (hS : S ≤ S2) (h : CI H j t N K T A S) : CI H j t N K T A2 S2 := by
  obtain ⟨h1, h2, h3, h4, h5, h6, ⟨a, ha, ha2⟩, h8, h9⟩ := h
  refine ⟨h1, h2, h3, h4, h5, h6, ⟨a, by omega, ha2⟩, ?_, h9⟩
  rcases h8 with h8 | ⟨q1, q2, s, hs, q3⟩
  · exact Or.inl h8
  · exact Or.inr ⟨q1, q2, s, by omega, q3⟩
theorem lv_bring {k v : Int32} : am_lv (sp_bring H k v) = am_lv H := by
  unfold sp_bring
  repeat' split
  all_goals rfl
theorem wf_W_bring {k v : Int32} (h : wf_W H) : wf_W (sp_bring H k v) := by
  unfold sp_bring
  split
  · rename_i hk
    split
    · intro c hc h3
      by_cases hcc : c = k.toNatClampNeg
      · rw [am_gI_sL, am_gI_sI, if_pos ⟨rfl, rfl, hcc⟩] at h3
        cases h3
      · rw [am_gI_sL, am_gI_sI, if_neg (fun q => hcc q.2.2)] at h3
        rw [am_gL_sL, if_neg (fun q => hcc q.2.2), am_gL_sI]
        exact h c hc h3
    · split
      · rename_i h1
        intro c hc h3
        rw [am_gI_sL] at h3
        by_cases hcc : c = k.toNatClampNeg
        · rw [hcc, h1] at h3
          cases h3
        · rw [am_gL_sL, if_neg (fun q => hcc q.2.2)]
          exact h c hc h3
      · exact h
  · exact h
theorem CI_bring {k v : Int32} (h : CI H j t N K T A S) : CI (sp_bring H k v) j t N K T A S :=
  CI_cg h (fun _ _ _ => gR_bring) lv_bring (fun k' hk' b c => gI_bring_ne (by omega)) (wf_W_bring h.2.2.2.2.2.1) (XF_cg (H := H) (fun k' hk' b c => gI_bring_ne (by omega)) h.2.2.2.2.2.2.2.2)
theorem CI_ad1 {n : Nat} {d : Int32} (h : CI H j t N K T A S) : CI (sp_ad1 H j n d) j t N K T A S := by
  unfold sp_ad1
  split
  · exact CI_sI (by decide) h
  · exact h
theorem i8_behind {d x : Int32} (hd : d.toNatClampNeg < 10) (hx : ∃ w, w ≤ 255 ∧ x = nI w) (h : XF H K) : ∃ w, w ≤ 255 ∧ sp_behind H d x = nI w := i8_or (i8_and hx) (i8_and (h.2.2.1 _ hd).2.2.2)
theorem CI_ad2 {n : Nat} {d : Int32} (hd : d.toNatClampNeg < 10) (h : CI H j t N K T A S) : CI (sp_ad2 H j n d).2 j t N K T A S := by
  unfold sp_ad2 sp_adH
  split
  · split
    · exact CI_sI (by decide) h
    · exact CI_sI (by decide) (CI_bring (CI_facts (i8_behind hd h.2.2.2.2.2.2.2.2.2.1 h.2.2.2.2.2.2.2.2) (CI_sI (by decide) h)))
  · exact CI_sI (by decide) (CI_sI (by decide) h)
theorem CI_askD {n : Nat} {d : Int32} (h : CI H j t N K T A S) : CI (sp_askD H j n d).2 j t N K T A S := by
  unfold sp_askD
  split
  · rename_i hd
    refine CI_ad2 ?_ (CI_ad1 h)
    have hk := h.2.2.2.2.2.2.2.2.1
    have hd2 := hd.2
    rw [h.2.2.2.2.1] at hd2
    have hv : vp_in d 10 := am_v10 hd.1 hd2 (nI_le hk (by decide))
    have := vp_in_iff.mp hv
    obtain ⟨b, hb, rfl⟩ := vp_in_of hv (by decide)
    rw [nI_clamp (show b < 2 ^ 31 by omega)]
    exact hb
  · exact h
theorem CI_test {n : Nat} (h : CI H j t N K T A S) : CI (sp_test H j t n).2 j t N K T A S := by
  unfold sp_test
  split
  · exact h
  · split
    · exact h
    · exact CI_sI (by decide) (CI_sI (by decide) (CI_sI (by decide) h))
def sp_note (H : am_H) (j n : Nat) (a : Int32) : am_H := sp_add (am_sI (am_sI (am_sI H 201 j n a) 202 j n (am_gI H 202 j n + 1)) 208 j n 1) (nI n) a
theorem CI_add {x a : Int32} (hA : A < 1000) (h : CI H j t N K T A S) : CI (sp_add H x a) j t N K T (A + 1) S := by
  obtain ⟨h1, h2, h3, h4, h5, h6, ⟨a0, ha0, ha⟩, h8, h9⟩ := h
  have hI : ∀ k, k ≠ 0 → k ≠ 101 → k ≠ 102 → ∀ b c, am_gI (sp_add H x a) k b c = am_gI H k b c := by
    intro k k0 k1 k2 b c
    unfold sp_add
    rw [am_gI_sI, if_neg (fun q => k0 q.1)]
    split
    · rw [am_gI_sI, if_neg (fun q => k2 q.1), am_gI_sI, if_neg (fun q => k1 q.1)]
    · rfl
  have hR : ∀ a' b c, am_gR (sp_add H x a) a' b c = am_gR H a' b c := by
    intro a' b c
    unfold sp_add
    rw [am_gR_sI]
    split <;> rfl
  have hL : ∀ a' b c, am_gL (sp_add H x a) a' b c = am_gL H a' b c := by
    intro a' b c
    unfold sp_add
    rw [am_gL_sI]
    split <;> rfl
  have hv : am_lv (sp_add H x a) = am_lv H := by
    unfold sp_add
    rw [am_lv_sI]
    split <;> rfl
  refine ⟨sh_cg hR h1, fun k i q1 q2 => ?_, ?_, fun n hn => ?_, ?_, wf_W_cg (fun c => hI 701 (by omega) (by omega) (by omega) 0 c) (fun c => hL 702 0 c) h6, ⟨a0 + 1, by omega, ?_⟩, wf_P_cg hR hv (fun k hk => hI k (by omega) (by omega) (by omega)) h8, XF_cg (H := H) (fun k hk => hI k (by omega) (by omega) (by omega)) h9⟩
  · rw [hI k (by omega) (by omega) (by omega)]; exact h2 k i q1 q2
  · rw [hI 5 (by omega) (by omega) (by omega)]; exact h3
  · rw [hI 205 (by omega) (by omega) (by omega)]; exact h4 n hn
  · rw [hI 2 (by omega) (by omega) (by omega)]; exact h5
  · unfold sp_add
    rw [am_gI_sI, if_pos ⟨rfl, rfl, rfl⟩, ha, nI_1]
theorem CI_note {n : Nat} {a : Int32} (hA : A < 1000) (h : CI H j t N K T A S) : CI (sp_note H j n a) j t N K T (A + 1) S :=
  CI_add hA (CI_sI (by decide) (CI_sI (by decide) (CI_sI (by decide) h)))
end CIN
