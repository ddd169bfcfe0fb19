/-! ===== truth as 1 and 0; shapes ===== -/
def am_bi (p : Prop) [Decidable p] : Int32 := if p then 1 else 0
theorem am_bi_0 {p : Prop} [Decidable p] : (am_bi p = 0) = ¬ p := by
  unfold am_bi
  by_cases h : p <;> simp [h]
theorem am_bi_1 {p : Prop} [Decidable p] : (am_bi p = 1) = p := by
  unfold am_bi
  by_cases h : p <;> simp [h]
theorem am_bi_e0 {p : Prop} [Decidable p] : (0 = am_bi p) = ¬ p := by
  unfold am_bi
  by_cases h : p <;> simp [h]
theorem am_bi_e1 {p : Prop} [Decidable p] : (1 = am_bi p) = p := by
  unfold am_bi
  by_cases h : p <;> simp [h]
theorem am_bl_0 : am_bool 0 = True := eq_true (Or.inl rfl)
theorem am_bl_1 : am_bool 1 = True := eq_true (Or.inr rfl)
theorem am_bl_b {p : Prop} [Decidable p] : am_bool (am_bi p) = True := by
  unfold am_bi
  by_cases h : p <;> simp [h, am_bl_0, am_bl_1]
theorem am_in_of {x : Int32} {n : Nat} (h0 : 0 ≤ x.toInt) (h1 : x.toInt < n) : vp_in x n := vp_in_iff.mpr ⟨h0, h1⟩
/-- the final references of each object -/
def sh_L (H : am_H) : Prop := am_gR H 0 0 1 = some (101, 0) ∧ am_gR H 0 0 2 = some (102, 0)
def sh_W (H : am_H) : Prop := am_gR H 6 0 1 = some (701, 0) ∧ am_gR H 6 0 2 = some (702, 0) ∧ am_gR H 6 0 3 = some (703, 0)
def sh_D (H : am_H) : Prop := am_gR H 2 0 1 = some (301, 0) ∧ am_gR H 2 0 2 = some (302, 0) ∧ am_gR H 2 0 3 = some (303, 0) ∧ am_gR H 2 0 4 = some (304, 0) ∧ am_gR H 2 0 5 = some (305, 0) ∧ am_gR H 2 0 6 = some (306, 0) ∧ am_gR H 2 0 7 = some (307, 0) ∧ am_gR H 2 0 8 = some (308, 0) ∧ am_gR H 2 0 9 = some (309, 0)
def sh_C (H : am_H) (j : Nat) : Prop := am_gR H 1 j 1 = some (201, j) ∧ am_gR H 1 j 2 = some (202, j) ∧ am_gR H 1 j 3 = some (203, j) ∧ am_gR H 1 j 4 = some (204, j) ∧ am_gR H 1 j 5 = some (205, j) ∧ am_gR H 1 j 6 = some (206, j) ∧ am_gR H 1 j 7 = some (207, j) ∧ am_gR H 1 j 8 = some (208, j) ∧ am_gR H 1 j 9 = some (209, j)
def sh_T (H : am_H) (j : Nat) : Prop := am_gR H 5 j 2 = some (602, j) ∧ am_gR H 5 j 3 = some (603, j) ∧ am_gR H 5 j 4 = some (604, j) ∧ am_gR H 5 j 5 = some (605, j) ∧ am_gR H 5 j 6 = some (606, j) ∧ am_gR H 5 j 7 = some (607, j) ∧ am_gR H 5 j 8 = some (608, j)
def sh_M (H : am_H) : Prop := am_gR H 3 0 0 = some (6, 0) ∧ am_gR H 3 0 1 = some (2, 0) ∧ am_gR H 3 0 2 = some (0, 0) ∧ am_gR H 3 0 4 = some (404, 0)
def sh_X (H : am_H) : Prop := am_gR H 7 0 0 = some (3, 0) ∧ am_gR H 7 0 1 = some (801, 0) ∧ am_gR H 7 0 2 = some (802, 0)
def sh_P (H : am_H) : Prop := am_gR H 4 0 0 = some (500, 0) ∧ am_gR H 4 0 4 = some (504, 0) ∧ am_gR H 4 0 6 = some (506, 0) ∧ am_gR H 4 0 8 = some (508, 0) ∧ am_gR H 4 0 10 = some (510, 0) ∧ am_gR H 4 0 11 = some (511, 0)
theorem am_i99_d {kd : Nat} {A B : Prop} : am_i99 kd A B = if kd = 99 then A else B := rfl
theorem am_i1000_d {kd : Nat} {A B : Prop} : am_i1000 kd A B = if kd = 1000 then A else B := rfl
theorem am_in_d {x : Int32} {n : Nat} (h : decide (¬ (x < 0 ∨ n ≤ x.toNatClampNeg)) = true) : vp_in x n := by
  unfold vp_in
  exact of_decide_eq_true h
theorem am_cn {n : Nat} (h : n < 30) : (nI n).toNatClampNeg = n := nI_clamp (by omega)
theorem am_vi {n : Nat} (h : n < 30) : vp_in (nI n) 30 := vp_in_nI h (by decide)
theorem cl_0 : (0 : Int32).toNatClampNeg = 0 := rfl
theorem cl_1 : (1 : Int32).toNatClampNeg = 1 := rfl
theorem cl_2 : (2 : Int32).toNatClampNeg = 2 := rfl
theorem cl_3 : (3 : Int32).toNatClampNeg = 3 := rfl
theorem cl_4 : (4 : Int32).toNatClampNeg = 4 := rfl
theorem cl_5 : (5 : Int32).toNatClampNeg = 5 := rfl
theorem cl_6 : (6 : Int32).toNatClampNeg = 6 := rfl
theorem cl_7 : (7 : Int32).toNatClampNeg = 7 := rfl
theorem cl_8 : (8 : Int32).toNatClampNeg = 8 := rfl
theorem cl_9 : (9 : Int32).toNatClampNeg = 9 := rfl
theorem cl_10 : (10 : Int32).toNatClampNeg = 10 := rfl
theorem cl_11 : (11 : Int32).toNatClampNeg = 11 := rfl
theorem cl_12 : (12 : Int32).toNatClampNeg = 12 := rfl
theorem vi_0 : vp_in 0 9 := am_in_d rfl
theorem vi_1 : vp_in 1 9 := am_in_d rfl
theorem vi_2 : vp_in 2 9 := am_in_d rfl
theorem vi_3 : vp_in 3 9 := am_in_d rfl
theorem vi_4 : vp_in 4 9 := am_in_d rfl
theorem vi_5 : vp_in 5 9 := am_in_d rfl
theorem vi_6 : vp_in 6 9 := am_in_d rfl
theorem vi_7 : vp_in 7 9 := am_in_d rfl
theorem vi_8 : vp_in 8 9 := am_in_d rfl
