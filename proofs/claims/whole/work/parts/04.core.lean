/-! ===== the abstract machine: values, heaps, what a cell is ===== -/
abbrev am_A : Type := Nat × Nat
abbrev am_V : Type := Int32 ⊕ (Int64 ⊕ Option am_A)
abbrev am_H : Type := (Nat → Nat → Nat → Int32) × (Nat → Nat → Nat → Int64) × (Nat → Nat → Nat → Option am_A) × List am_A
abbrev am_LS : Type := List (Option am_V)
abbrev am_SC : Type := Nat × (Nat → Int32)
def am_gI (H : am_H) (k j i : Nat) : Int32 := H.1 k j i
def am_gL (H : am_H) (k j i : Nat) : Int64 := H.2.1 k j i
def am_gR (H : am_H) (k j i : Nat) : Option am_A := H.2.2.1 k j i
def am_lv (H : am_H) : List am_A := H.2.2.2
def am_sI (H : am_H) (k j i : Nat) (x : Int32) : am_H := (fun k' j' i' => if k' = k ∧ j' = j ∧ i' = i then x else H.1 k' j' i', H.2)
def am_sL (H : am_H) (k j i : Nat) (x : Int64) : am_H := (H.1, fun k' j' i' => if k' = k ∧ j' = j ∧ i' = i then x else H.2.1 k' j' i', H.2.2)
def am_sR (H : am_H) (k j i : Nat) (x : Option am_A) : am_H := (H.1, H.2.1, fun k' j' i' => if k' = k ∧ j' = j ∧ i' = i then x else H.2.2.1 k' j' i', H.2.2.2)
def am_nw (H : am_H) (a : am_A) : am_H := (fun k j i => if k = a.1 ∧ j = a.2 then 0 else H.1 k j i, fun k j i => if k = a.1 ∧ j = a.2 then 0 else H.2.1 k j i, fun k j i => if k = a.1 ∧ j = a.2 then none else H.2.2.1 k j i, H.2.2.2 ++ [a])
def am_cv (γ : am_A → Nat) (v : am_V) : Value := match v with
  | .inl x => .int x
  | .inr (.inl x) => .long x
  | .inr (.inr o) => va_rf (o.map γ)
def am_fv (γ : am_A → Nat) (H : am_H) (k j i t : Nat) : Value := match t with
  | 0 => .int (am_gI H k j i)
  | 1 => .int (am_gI H k j i)
  | 2 => .long (am_gL H k j i)
  | _ => va_rf ((am_gR H k j i).map γ)
def am_fl (H : am_H) (k j i t : Nat) : am_V := match t with
  | 0 => .inl (am_gI H k j i)
  | 1 => .inl (am_gI H k j i)
  | 2 => .inr (.inl (am_gL H k j i))
  | _ => .inr (.inr (am_gR H k j i))
theorem am_fv_fl (γ : am_A → Nat) (H : am_H) (k j i t : Nat) : am_fv γ H k j i t = am_cv γ (am_fl H k j i t) := by
  match t with
  | 0 => rfl
  | 1 => rfl
  | 2 => rfl
  | t + 3 => rfl
def am_fs (γ : am_A → Nat) (H : am_H) (k j : Nat) (tl : List Nat) : List Value := tl.mapIdx (fun i t => am_fv γ H k j i t)
def am_ct (γ : am_A → Nat) (H : am_H) (k j t : Nat) : (Nat → Int32) ⊕ (Nat → Int64) ⊕ (Nat → UInt32) ⊕ (Nat → UInt64) ⊕ (Nat → Option Nat) := match t with
  | 0 => .inl (am_gI H k j)
  | 1 => .inl (am_gI H k j)
  | 2 => .inr (.inl (am_gL H k j))
  | _ => .inr (.inr (.inr (.inr (fun i => (am_gR H k j i).map γ))))
def am_e (γ : am_A → Nat) (cA : Nat → ClassId) (H : am_H) (a : am_A) : va_E :=
  if am_c a.1 < 20 then .inr (am_c a.1, am_fs γ H a.1 a.2 (am_tl (am_c a.1))) else .inl (cA (am_c a.1 - 20), am_n a.1, am_ct γ H a.1 a.2 (am_c a.1 - 20))
def am_ws (γ : am_A → Nat) (cA : Nat → ClassId) (H : am_H) : va_W := (am_lv H).map (fun a => (γ a, am_e γ cA H a))
def am_tys (cA : Nat → ClassId) : List (ClassId × FieldType) := [(cA 0, .int), (cA 1, .boolean), (cA 2, .long), (cA 3, .object "WishTrees$Tree"), (cA 4, .object "WishTrees$Creature")]
def am_B (base : Nat) : Nat → Prop := fun q => base ≤ q
def am_wd (D : va_G) (cA : Nat → ClassId) (base : Nat) (γ : am_A → Nat) (H : am_H) (heap : Heap) : Prop := va_P D am_cl (am_ws γ cA H) heap ∧ va_D (am_B base) (am_ws γ cA H)
def am_ok (H : am_H) : Prop := (am_lv H).Nodup ∧ (∀ a ∈ am_lv H, a.1 ≠ 99) ∧ ∀ a ∈ am_lv H, ∀ i b, am_gR H a.1 a.2 i = some b → b ∈ am_lv H
def am_lo (H : am_H) (o : Option am_A) : Prop := ∀ a, o = some a → a ∈ am_lv H ∨ a = (99, 0)
def am_lV (H : am_H) (v : am_V) : Prop := match v with
  | .inr (.inr o) => am_lo H o
  | _ => True
def am_lvs (H : am_H) (ls : am_LS) (st : List am_V) : Prop := (∀ (i : Nat) (v : am_V), ls[i]? = some (some v) → am_lV H v) ∧ ∀ v ∈ st, am_lV H v
def am_ag (γ γ' : am_A → Nat) (H : am_H) : Prop := γ' (99, 0) = γ (99, 0) ∧ ∀ a ∈ am_lv H, γ' a = γ a
def am_dC (H H' : am_H) : Nat := (am_lv H').length - (am_lv H).length
def am_ss (H : am_H) : Nat := ((am_lv H).map (fun a => am_n a.1)).sum
def am_dS (H H' : am_H) : Nat := am_ss H' - am_ss H
def am_ext (H H' : am_H) : Prop := ∃ nw, am_lv H' = am_lv H ++ nw
theorem am_ext_rf {H : am_H} : am_ext H H := ⟨[], by simp⟩
theorem am_ext_tr {H H1 H2 : am_H} (h1 : am_ext H H1) (h2 : am_ext H1 H2) : am_ext H H2 := by
  obtain ⟨a, ha⟩ := h1
  obtain ⟨b, hb⟩ := h2
  exact ⟨a ++ b, by rw [hb, ha, List.append_assoc]⟩
theorem am_ext_mem {H H1 : am_H} (h : am_ext H H1) {a : am_A} (ha : a ∈ am_lv H) : a ∈ am_lv H1 := by
  obtain ⟨n, hn⟩ := h
  rw [hn]
  exact List.mem_append_left _ ha
theorem am_dC_tr {H H1 H2 : am_H} (h1 : am_ext H H1) (h2 : am_ext H1 H2) : am_dC H H2 = am_dC H H1 + am_dC H1 H2 := by
  obtain ⟨a, ha⟩ := h1
  obtain ⟨b, hb⟩ := h2
  unfold am_dC
  rw [hb, ha]
  simp only [List.length_append]
  omega
theorem am_dS_tr {H H1 H2 : am_H} (h1 : am_ext H H1) (h2 : am_ext H1 H2) : am_dS H H2 = am_dS H H1 + am_dS H1 H2 := by
  obtain ⟨a, ha⟩ := h1
  obtain ⟨b, hb⟩ := h2
  unfold am_dS am_ss
  rw [hb, ha]
  simp only [List.map_append, List.sum_append]
  omega
theorem am_dC_eq {H H1 : am_H} (h : am_lv H1 = am_lv H) : am_dC H H1 = 0 := by unfold am_dC; rw [h]; omega
theorem am_dS_eq {H H1 : am_H} (h : am_lv H1 = am_lv H) : am_dS H H1 = 0 := by unfold am_dS am_ss; rw [h]; omega
theorem am_dC_l {H H1 H' : am_H} (h : am_lv H1 = am_lv H) : am_dC H1 H' = am_dC H H' := by unfold am_dC; rw [h]
theorem am_dS_l {H H1 H' : am_H} (h : am_lv H1 = am_lv H) : am_dS H1 H' = am_dS H H' := by unfold am_dS am_ss; rw [h]
theorem am_ag_rf {γ : am_A → Nat} {H : am_H} : am_ag γ γ H := ⟨rfl, fun _ _ => rfl⟩
theorem am_ag_tr {γ γ' γ'' : am_A → Nat} {H H1 : am_H} (he : am_ext H H1) (h1 : am_ag γ γ' H) (h2 : am_ag γ' γ'' H1) : am_ag γ γ'' H := ⟨h2.1.trans h1.1, fun a ha => (h2.2 a (am_ext_mem he ha)).trans (h1.2 a ha)⟩
theorem am_ag_l {γ γ' : am_A → Nat} {H H1 : am_H} (h : am_lv H1 = am_lv H) (hg : am_ag γ γ' H1) : am_ag γ γ' H := ⟨hg.1, fun a ha => hg.2 a (by rw [h]; exact ha)⟩
theorem am_lV_ext {H H1 : am_H} (he : am_ext H H1) {v : am_V} (h : am_lV H v) : am_lV H1 v := by
  rcases v with x | x | o
  · trivial
  · trivial
  · intro a ha
    rcases h a ha with h | h
    · exact Or.inl (am_ext_mem he h)
    · exact Or.inr h
theorem am_cv_ag {γ γ' : am_A → Nat} {H : am_H} (hg : am_ag γ γ' H) {v : am_V} (h : am_lV H v) : am_cv γ' v = am_cv γ v := by
  rcases v with x | x | o
  · rfl
  · rfl
  · cases o with
    | none => rfl
    | some a =>
      show va_rf (some (γ' a)) = va_rf (some (γ a))
      rcases h a rfl with h | h
      · rw [hg.2 a h]
      · rw [h, hg.1]
theorem am_map_ag {γ γ' : am_A → Nat} {H : am_H} (hg : am_ag γ γ' H) {st : List am_V} (h : ∀ v ∈ st, am_lV H v) : st.map (am_cv γ') = st.map (am_cv γ) := List.map_congr_left fun v hv => am_cv_ag hg (h v hv)
/-! ===== the locals ===== -/
def am_as (γ : am_A → Nat) (ls : am_LS) : List (Nat × Value) := (List.range ls.length).filterMap (fun i => match ls[i]? with
  | some (some v) => some (i, am_cv γ v)
  | _ => none)
theorem am_as_mem {γ : am_A → Nat} {ls : am_LS} {i : Nat} {w : Value} : (i, w) ∈ am_as γ ls ↔ ∃ v, ls[i]? = some (some v) ∧ w = am_cv γ v := by
  unfold am_as
  rw [List.mem_filterMap]
  constructor
  · rintro ⟨j, -, hj⟩
    cases h : ls[j]? with
    | none => rw [h] at hj; cases hj
    | some o =>
      cases o with
      | none => rw [h] at hj; cases hj
      | some v =>
        rw [h] at hj
        cases hj
        exact ⟨v, h, rfl⟩
  · rintro ⟨v, hv, rfl⟩
    have hlt : i < ls.length := (List.getElem?_eq_some_iff.mp hv).1
    refine ⟨i, List.mem_range.mpr hlt, ?_⟩
    rw [hv]
def am_ls (γ : am_A → Nat) (ls : am_LS) (lsC : Array Slot) (nL : Nat) : Prop := lv_has lsC nL (am_as γ ls)
theorem am_ls_at {γ : am_A → Nat} {ls : am_LS} {lsC : Array Slot} {nL i : Nat} {v : am_V} (h : am_ls γ ls lsC nL) (hv : ls[i]? = some (some v)) : lsC[i]? = some (.val (am_cv γ v)) := h.2.2 (i, am_cv γ v) (am_as_mem.mpr ⟨v, hv, rfl⟩)
theorem am_ls_of {γ : am_A → Nat} {ls : am_LS} {lsC : Array Slot} {nL : Nat} {l : List (Nat × Value)} (h : lv_has lsC nL l) (hs : ∀ (i : Nat) (v : am_V), ls[i]? = some (some v) → (i, am_cv γ v) ∈ l) : am_ls γ ls lsC nL := by
  refine ⟨h.1, h.2.1, ?_⟩
  rintro ⟨i, w⟩ hq
  obtain ⟨v, hv, rfl⟩ := am_as_mem.mp hq
  exact h.2.2 _ (hs i v hv)
theorem am_ls_sub {γ : am_A → Nat} {ls ls' : am_LS} {lsC : Array Slot} {nL : Nat} (h : am_ls γ ls lsC nL) (hs : ∀ (i : Nat) (v : am_V), ls'[i]? = some (some v) → ls[i]? = some (some v)) : am_ls γ ls' lsC nL :=
  am_ls_of h fun i v hv => am_as_mem.mpr ⟨v, hs i v hv, rfl⟩
theorem am_ls_ag {γ γ' : am_A → Nat} {H : am_H} {ls : am_LS} {lsC : Array Slot} {nL : Nat} (hg : am_ag γ γ' H) (hl : ∀ (i : Nat) (v : am_V), ls[i]? = some (some v) → am_lV H v) (h : am_ls γ ls lsC nL) : am_ls γ' ls lsC nL :=
  am_ls_of h fun i v hv => am_as_mem.mpr ⟨v, hv, am_cv_ag hg (hl i v hv)⟩
def am_clr (ls : am_LS) (i : Nat) : am_LS := match i with
  | 0 => ls
  | j + 1 => match ls[j]? with
    | some (some (.inr (.inl _))) => ls.set j none
    | _ => ls
def am_sto (ls : am_LS) (i : Nat) (v : am_V) : am_LS := (am_clr ls i).set i (some v)
theorem am_set_at {ls : am_LS} {i j : Nat} {o : Option am_V} {v : am_V} (h : (ls.set i o)[j]? = some (some v)) : (j = i ∧ o = some v) ∨ (j ≠ i ∧ ls[j]? = some (some v)) := by
  rw [List.getElem?_set] at h
  by_cases hj : i = j
  · rw [if_pos hj] at h
    split at h
    · exact Or.inl ⟨hj.symm, Option.some.inj h⟩
    · cases h
  · rw [if_neg hj] at h
    exact Or.inr ⟨fun q => hj q.symm, h⟩
theorem am_clr_at {ls : am_LS} {i j : Nat} {v : am_V} (h : (am_clr ls i)[j]? = some (some v)) : ls[j]? = some (some v) ∧ (j + 1 = i → ∀ x, v ≠ .inr (.inl x)) := by
  unfold am_clr at h
  cases i with
  | zero => exact ⟨h, fun q => by omega⟩
  | succ n =>
    dsimp only at h
    split at h
    · rename_i x hx
      rcases am_set_at h with ⟨-, q⟩ | ⟨q1, q2⟩
      · cases q
      · exact ⟨q2, fun q => absurd (by omega) q1⟩
    · rename_i hx
      refine ⟨h, fun q x hv => ?_⟩
      have e : j = n := by omega
      subst e
      subst hv
      exact hx x h
theorem am_cat {γ : am_A → Nat} {v : am_V} (h : ∀ x, v ≠ .inr (.inl x)) : (am_cv γ v).category = 1 := by
  rcases v with x | x | o
  · rfl
  · exact absurd rfl (h x)
  · cases o <;> rfl
theorem am_ls_sto {γ : am_A → Nat} {ls : am_LS} {lsC : Array Slot} {nL i : Nat} {v : am_V} {w : Value} (hw : w = am_cv γ v) (h : lv_has lsC nL ((i, w) :: (am_as γ ls).filter (fun q => !(q.1 == i) && !(q.1 + 1 == i && q.2.category == 2)))) : am_ls γ (am_sto ls i v) lsC nL := by
  subst hw
  refine am_ls_of h fun j u hu => ?_
  rcases am_set_at hu with ⟨rfl, q⟩ | ⟨q1, q2⟩
  · cases q
    exact List.mem_cons_self
  · obtain ⟨q3, q4⟩ := am_clr_at q2
    refine List.mem_cons_of_mem _ (List.mem_filter.mpr ⟨am_as_mem.mpr ⟨u, q3, rfl⟩, ?_⟩)
    have hne : (j == i) = false := by simpa using q1
    by_cases hj : j + 1 = i
    · have hc : (am_cv γ u).category = 1 := am_cat (q4 hj)
      simp [hne, hc]
    · have hne2 : (j + 1 == i) = false := by simpa using hj
      simp [hne, hne2]
theorem am_lvs_sto {H : am_H} {ls : am_LS} {i : Nat} {v : am_V} (h : ∀ (j : Nat) (u : am_V), ls[j]? = some (some u) → am_lV H u) (hv : am_lV H v) : ∀ (j : Nat) (u : am_V), (am_sto ls i v)[j]? = some (some u) → am_lV H u := by
  intro j u hu
  rcases am_set_at hu with ⟨-, q⟩ | ⟨-, q2⟩
  · cases q
    exact hv
  · exact h j u (am_clr_at q2).1
def am_tr (mask : List Nat) (ls : am_LS) : am_LS := List.zipWith (fun b o => if b = 1 then o else none) mask ls
theorem am_tr_at {mask : List Nat} {ls : am_LS} {i : Nat} {v : am_V} (h : (am_tr mask ls)[i]? = some (some v)) : ls[i]? = some (some v) := by
  unfold am_tr at h
  rw [List.getElem?_zipWith] at h
  split at h
  · rename_i a b h1 h2
    split at h
    · rw [h2, Option.some.inj h]
    · cases h
  · cases h
/-- the locals at a method's entry -/
def am_en : List am_V → am_LS
  | [] => []
  | .inr (.inl x) :: t => some (.inr (.inl x)) :: none :: am_en t
  | v :: t => some v :: am_en t
def am_ent (as : List am_V) (n : Nat) : am_LS := am_en as ++ List.replicate (n - (am_en as).length) none
