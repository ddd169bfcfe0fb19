def am_kQ (j : Nat) : Prop := ((am_code 145).getD j []).all (am_okB 145) = true
theorem am_kq_0 : ∀ j, j < 0 → am_kQ j := lt_0
theorem am_kr_0 : ((am_code 145).getD 0 []).all (am_okB 145) = true := by decide +kernel
theorem am_kq_1 : ∀ j, j < 1 → am_kQ j := lt_s am_kq_0 am_kr_0
theorem am_kr_1 : ((am_code 145).getD 1 []).all (am_okB 145) = true := by decide +kernel
theorem am_kq_2 : ∀ j, j < 2 → am_kQ j := lt_s am_kq_1 am_kr_1
theorem am_kr_2 : ((am_code 145).getD 2 []).all (am_okB 145) = true := by decide +kernel
theorem am_kq_3 : ∀ j, j < 3 → am_kQ j := lt_s am_kq_2 am_kr_2
theorem am_kr_3 : ((am_code 145).getD 3 []).all (am_okB 145) = true := by decide +kernel
theorem am_kq_4 : ∀ j, j < 4 → am_kQ j := lt_s am_kq_3 am_kr_3
theorem am_kr_4 : ((am_code 145).getD 4 []).all (am_okB 145) = true := by decide +kernel
theorem am_kq_5 : ∀ j, j < 5 → am_kQ j := lt_s am_kq_4 am_kr_4
theorem am_kr_5 : ((am_code 145).getD 5 []).all (am_okB 145) = true := by decide +kernel
theorem am_kq_6 : ∀ j, j < 6 → am_kQ j := lt_s am_kq_5 am_kr_5
theorem am_kr_6 : ((am_code 145).getD 6 []).all (am_okB 145) = true := by decide +kernel
theorem am_kq_7 : ∀ j, j < 7 → am_kQ j := lt_s am_kq_6 am_kr_6
theorem am_kr_7 : ((am_code 145).getD 7 []).all (am_okB 145) = true := by decide +kernel
theorem am_kq_8 : ∀ j, j < 8 → am_kQ j := lt_s am_kq_7 am_kr_7
theorem am_kr_8 : ((am_code 145).getD 8 []).all (am_okB 145) = true := by decide +kernel
theorem am_kq_9 : ∀ j, j < 9 → am_kQ j := lt_s am_kq_8 am_kr_8
theorem am_kr_9 : ((am_code 145).getD 9 []).all (am_okB 145) = true := by decide +kernel
theorem am_kq_10 : ∀ j, j < 10 → am_kQ j := lt_s am_kq_9 am_kr_9
theorem am_kr_10 : ((am_code 145).getD 10 []).all (am_okB 145) = true := by decide +kernel
theorem am_kq_11 : ∀ j, j < 11 → am_kQ j := lt_s am_kq_10 am_kr_10
theorem am_kr_11 : ((am_code 145).getD 11 []).all (am_okB 145) = true := by decide +kernel
theorem am_kq_12 : ∀ j, j < 12 → am_kQ j := lt_s am_kq_11 am_kr_11
theorem am_kr_12 : ((am_code 145).getD 12 []).all (am_okB 145) = true := by decide +kernel
theorem am_kq_13 : ∀ j, j < 13 → am_kQ j := lt_s am_kq_12 am_kr_12
theorem am_kr_13 : ((am_code 145).getD 13 []).all (am_okB 145) = true := by decide +kernel
theorem am_kq_14 : ∀ j, j < 14 → am_kQ j := lt_s am_kq_13 am_kr_13
theorem am_kr_14 : ((am_code 145).getD 14 []).all (am_okB 145) = true := by decide +kernel
theorem am_kq_15 : ∀ j, j < 15 → am_kQ j := lt_s am_kq_14 am_kr_14
theorem am_kr_15 : ((am_code 145).getD 15 []).all (am_okB 145) = true := by decide +kernel
theorem am_kq_16 : ∀ j, j < 16 → am_kQ j := lt_s am_kq_15 am_kr_15
theorem am_kr_16 : ((am_code 145).getD 16 []).all (am_okB 145) = true := by decide +kernel
theorem am_kq_17 : ∀ j, j < 17 → am_kQ j := lt_s am_kq_16 am_kr_16
theorem am_kr_17 : ((am_code 145).getD 17 []).all (am_okB 145) = true := by decide +kernel
theorem am_kq_18 : ∀ j, j < 18 → am_kQ j := lt_s am_kq_17 am_kr_17
theorem am_kr_18 : ((am_code 145).getD 18 []).all (am_okB 145) = true := by decide +kernel
theorem am_kq_19 : ∀ j, j < 19 → am_kQ j := lt_s am_kq_18 am_kr_18
theorem am_kr_19 : ((am_code 145).getD 19 []).all (am_okB 145) = true := by decide +kernel
theorem am_kq_20 : ∀ j, j < 20 → am_kQ j := lt_s am_kq_19 am_kr_19
theorem am_kr_20 : ((am_code 145).getD 20 []).all (am_okB 145) = true := by decide +kernel
theorem am_kq_21 : ∀ j, j < 21 → am_kQ j := lt_s am_kq_20 am_kr_20
theorem am_kr_21 : ((am_code 145).getD 21 []).all (am_okB 145) = true := by decide +kernel
theorem am_kq_22 : ∀ j, j < 22 → am_kQ j := lt_s am_kq_21 am_kr_21
theorem am_kr_22 : ((am_code 145).getD 22 []).all (am_okB 145) = true := by decide +kernel
theorem am_kq_23 : ∀ j, j < 23 → am_kQ j := lt_s am_kq_22 am_kr_22
theorem am_kr_23 : ((am_code 145).getD 23 []).all (am_okB 145) = true := by decide +kernel
theorem am_kq_24 : ∀ j, j < 24 → am_kQ j := lt_s am_kq_23 am_kr_23
theorem am_kr_24 : ((am_code 145).getD 24 []).all (am_okB 145) = true := by decide +kernel
theorem am_kq_25 : ∀ j, j < 25 → am_kQ j := lt_s am_kq_24 am_kr_24
theorem am_kr_25 : ((am_code 145).getD 25 []).all (am_okB 145) = true := by decide +kernel
theorem am_kq_26 : ∀ j, j < 26 → am_kQ j := lt_s am_kq_25 am_kr_25
theorem am_kr_26 : ((am_code 145).getD 26 []).all (am_okB 145) = true := by decide +kernel
theorem am_kq_27 : ∀ j, j < 27 → am_kQ j := lt_s am_kq_26 am_kr_26
theorem am_kr_27 : ((am_code 145).getD 27 []).all (am_okB 145) = true := by decide +kernel
theorem am_kq_28 : ∀ j, j < 28 → am_kQ j := lt_s am_kq_27 am_kr_27
theorem am_kr_28 : ((am_code 145).getD 28 []).all (am_okB 145) = true := by decide +kernel
theorem am_kq_29 : ∀ j, j < 29 → am_kQ j := lt_s am_kq_28 am_kr_28
theorem am_kr_29 : ((am_code 145).getD 29 []).all (am_okB 145) = true := by decide +kernel
theorem am_kq_30 : ∀ j, j < 30 → am_kQ j := lt_s am_kq_29 am_kr_29
theorem am_kr_30 : ((am_code 145).getD 30 []).all (am_okB 145) = true := by decide +kernel
theorem am_kq_31 : ∀ j, j < 31 → am_kQ j := lt_s am_kq_30 am_kr_30
theorem am_kr_31 : ((am_code 145).getD 31 []).all (am_okB 145) = true := by decide +kernel
theorem am_kq_32 : ∀ j, j < 32 → am_kQ j := lt_s am_kq_31 am_kr_31
theorem am_kr_32 : ((am_code 145).getD 32 []).all (am_okB 145) = true := by decide +kernel
theorem am_kq_33 : ∀ j, j < 33 → am_kQ j := lt_s am_kq_32 am_kr_32
theorem am_kr_33 : ((am_code 145).getD 33 []).all (am_okB 145) = true := by decide +kernel
theorem am_kq_34 : ∀ j, j < 34 → am_kQ j := lt_s am_kq_33 am_kr_33
theorem am_kr_34 : ((am_code 145).getD 34 []).all (am_okB 145) = true := by decide +kernel
theorem am_kq_35 : ∀ j, j < 35 → am_kQ j := lt_s am_kq_34 am_kr_34
theorem am_kr_35 : ((am_code 145).getD 35 []).all (am_okB 145) = true := by decide +kernel
theorem am_kq_36 : ∀ j, j < 36 → am_kQ j := lt_s am_kq_35 am_kr_35
theorem am_kr_36 : ((am_code 145).getD 36 []).all (am_okB 145) = true := by decide +kernel
theorem am_kq_37 : ∀ j, j < 37 → am_kQ j := lt_s am_kq_36 am_kr_36
theorem am_kr_37 : ((am_code 145).getD 37 []).all (am_okB 145) = true := by decide +kernel
theorem am_kq_38 : ∀ j, j < 38 → am_kQ j := lt_s am_kq_37 am_kr_37
theorem am_kr_38 : ((am_code 145).getD 38 []).all (am_okB 145) = true := by decide +kernel
theorem am_kq_39 : ∀ j, j < 39 → am_kQ j := lt_s am_kq_38 am_kr_38
theorem am_kr_39 : ((am_code 145).getD 39 []).all (am_okB 145) = true := by decide +kernel
theorem am_kq_40 : ∀ j, j < 40 → am_kQ j := lt_s am_kq_39 am_kr_39
theorem am_kr_40 : ((am_code 145).getD 40 []).all (am_okB 145) = true := by decide +kernel
theorem am_kq_41 : ∀ j, j < 41 → am_kQ j := lt_s am_kq_40 am_kr_40
theorem am_kr_41 : ((am_code 145).getD 41 []).all (am_okB 145) = true := by decide +kernel
theorem am_kq_42 : ∀ j, j < 42 → am_kQ j := lt_s am_kq_41 am_kr_41
theorem am_kr_42 : ((am_code 145).getD 42 []).all (am_okB 145) = true := by decide +kernel
theorem am_kq_43 : ∀ j, j < 43 → am_kQ j := lt_s am_kq_42 am_kr_42
theorem am_kr_43 : ((am_code 145).getD 43 []).all (am_okB 145) = true := by decide +kernel
theorem am_kq_44 : ∀ j, j < 44 → am_kQ j := lt_s am_kq_43 am_kr_43
theorem am_kr_44 : ((am_code 145).getD 44 []).all (am_okB 145) = true := by decide +kernel
theorem am_kq_45 : ∀ j, j < 45 → am_kQ j := lt_s am_kq_44 am_kr_44
theorem am_kr_45 : ((am_code 145).getD 45 []).all (am_okB 145) = true := by decide +kernel
theorem am_kq_46 : ∀ j, j < 46 → am_kQ j := lt_s am_kq_45 am_kr_45
theorem am_kr_46 : ((am_code 145).getD 46 []).all (am_okB 145) = true := by decide +kernel
theorem am_kq_47 : ∀ j, j < 47 → am_kQ j := lt_s am_kq_46 am_kr_46
theorem am_kr_47 : ((am_code 145).getD 47 []).all (am_okB 145) = true := by decide +kernel
theorem am_kq_48 : ∀ j, j < 48 → am_kQ j := lt_s am_kq_47 am_kr_47
theorem am_kr_48 : ((am_code 145).getD 48 []).all (am_okB 145) = true := by decide +kernel
theorem am_kq_49 : ∀ j, j < 49 → am_kQ j := lt_s am_kq_48 am_kr_48
theorem am_kr_49 : ((am_code 145).getD 49 []).all (am_okB 145) = true := by decide +kernel
theorem am_kq_50 : ∀ j, j < 50 → am_kQ j := lt_s am_kq_49 am_kr_49
theorem am_kr_50 : ((am_code 145).getD 50 []).all (am_okB 145) = true := by decide +kernel
theorem am_kq_51 : ∀ j, j < 51 → am_kQ j := lt_s am_kq_50 am_kr_50
theorem am_kr_51 : ((am_code 145).getD 51 []).all (am_okB 145) = true := by decide +kernel
theorem am_kq_52 : ∀ j, j < 52 → am_kQ j := lt_s am_kq_51 am_kr_51
theorem am_kr_52 : ((am_code 145).getD 52 []).all (am_okB 145) = true := by decide +kernel
theorem am_kq_53 : ∀ j, j < 53 → am_kQ j := lt_s am_kq_52 am_kr_52
theorem am_kr_53 : ((am_code 145).getD 53 []).all (am_okB 145) = true := by decide +kernel
theorem am_kq_54 : ∀ j, j < 54 → am_kQ j := lt_s am_kq_53 am_kr_53
theorem am_ko_145 : (am_code 145).all (fun c => c.all (am_okB 145)) = true := by
  refine List.all_eq_true.mpr fun c hc => ?_
  obtain ⟨j, hj⟩ := List.getElem?_of_mem hc
  have hlt : j < (am_code 145).length := (List.getElem?_eq_some_iff.mp hj).1
  have h := am_kq_54 j hlt
  unfold am_kQ at h
  rw [List.getD_eq_getElem?_getD, hj] at h
  exact h
theorem am_lookup {α : Type} {pc : Nat} {e : α} : ∀ {l : List (Nat × α)}, l.lookup pc = some e → (pc, e) ∈ l := by
  intro l
  induction l with
  | nil => intro h; cases h
  | cons q t ih =>
    intro h
    obtain ⟨a, b⟩ := q
    rw [List.lookup_cons] at h
    by_cases hq : pc = a
    · subst hq
      simp at h
      subst h
      exact List.mem_cons_self
    · have hb : (pc == a) = false := by simpa using hq
      rw [hb] at h
      exact List.mem_cons_of_mem _ (ih h)
theorem am_kk_146 : ∀ a, a < 146 → am_kP a := lt_s am_kk_145 am_ko_145
theorem am_atOk {id pc : Nat} {e : am_E} (h : am_at id pc = some e) : am_okB id (pc, e) = true := by
  by_cases hid : id < 146
  · have h1 := am_kk_146 id hid
    unfold am_at at h
    unfold am_kP at h1
    rw [List.getD_eq_getElem?_getD] at h
    cases hc : (am_code id)[pc / 16]? with
    | none => rw [hc] at h; cases h
    | some c =>
      rw [hc] at h
      have h2 := List.all_eq_true.mp h1 c (List.mem_of_getElem? hc)
      exact List.all_eq_true.mp h2 (pc, e) (am_lookup h)
  · exfalso
    unfold am_at am_code at h
    have h3 : (am_cs.getD (id / 12) []).getD (id % 12) [] = [] := by
      by_cases h4 : id / 12 < 13
      · have h5 : id / 12 = 12 := by omega
        have h6 : 2 ≤ id % 12 := by omega
        rw [h5]
        rw [List.getD_eq_getElem?_getD, List.getElem?_eq_none]
        · rfl
        · exact h6
      · rw [List.getD_eq_getElem?_getD (l := am_cs), List.getElem?_eq_none]
        · rfl
        · show 13 ≤ id / 12
          omega
    rw [h3] at h
    cases h
