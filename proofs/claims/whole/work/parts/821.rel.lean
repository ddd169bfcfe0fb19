/-! ===== what holds between the class and the reference ===== -/
section RELD
/-- DOINGS by their data D: 302 costs, 303 304 needs, 305 306 makes -/
def bh (D : Nat → Nat → Int32) (d : Nat) (x : Int32) : Int32 := (x &&& (D 305 d ^^^ -1)) ||| (D 306 d &&& D 305 d)
abbrev nd (D : Nat → Nat → Int32) (d : Nat) (x : Int32) : Prop := (x ^^^ D 304 d) &&& D 303 d = 0
abbrev ws (m b x : Int32) : Prop := (x ^^^ b) &&& m = 0
def pf (D : Nat → Nat → Int32) (P : Nat → Nat) : Nat → Nat → Int32 → Int32
  | _, 0, x => x
  | p, m + 1, x => pf D P (p + 1) m (bh D (P p) x)
/-- what a row of just so many DOINGS costs at least; 1000000: there is none -/
def pb (D : Nat → Nat → Int32) (r : Nat → Nat) (d f : Nat) : Nat := if nd D d (nI f) then (if r (bh D d (nI f)).toNatClampNeg = 1000000 then 1000000 else r (bh D d (nI f)).toNatClampNeg + (D 302 d).toNatClampNeg) else 1000000
def pm (g : Nat → Nat) : Nat → Nat
  | 0 => 1000000
  | d + 1 => if g d < pm g d then g d else pm g d
def pay (D : Nat → Nat → Int32) (K : Nat) (m b : Int32) : Nat → Nat → Nat
  | 0, f => if ws m b (nI f) then 0 else 1000000
  | j + 1, f => if ws m b (nI f) then 1000000 else pm (fun d => pb D (pay D K m b j) d f) K
variable (C M : am_H) (D : Nat → Nat → Int32) (T : Nat → Nat → Nat → Int32) (N : Nat → Nat) (K Mt TA Cn : Nat)
def R_W : Prop := am_gI C 6 0 0 = am_gI M 8 0 0 ∧ (∃ w, w ≤ 255 ∧ am_gI C 6 0 0 = nI w) ∧ ∀ k, k < 12 → am_gI C 701 0 k = am_gI M 901 0 k ∧ am_gL C 702 0 k = am_gL M 902 0 k ∧ (am_gI C 701 0 k = 3 → ∀ i, i < 6 → am_gI C 703 0 (k * 6 + i) = am_gI M 903 0 (k * 6 + i))
def R_D : Prop := K ≤ 10 ∧ am_gI C 2 0 0 = nI K ∧ am_gI M 8 0 4 = nI K ∧ (∀ i, i < 10 → am_gI C 301 0 i = am_gI M 905 0 i ∧ (am_gI C 302 0 i = D 302 i ∧ am_gI M 906 0 i = D 302 i) ∧ (am_gI C 303 0 i = D 303 i ∧ am_gI M 907 0 i = D 303 i) ∧ (am_gI C 304 0 i = D 304 i ∧ am_gI M 908 0 i = D 304 i) ∧ (am_gI C 305 0 i = D 305 i ∧ am_gI M 909 0 i = D 305 i) ∧ (am_gI C 306 0 i = D 306 i ∧ am_gI M 910 0 i = D 306 i) ∧ am_gI C 307 0 i = am_gI M 911 0 i ∧ am_gI C 308 0 i = am_gI M 912 0 i ∧ am_gI C 309 0 i = am_gI M 913 0 i) ∧
  (∀ i, i < K → (∃ a, 1 ≤ a ∧ a ≤ 20 ∧ am_gI C 301 0 i = nI a) ∧ (∃ a, a ≤ 100 ∧ D 302 i = nI a) ∧ (am_gI C 307 0 i = -4 ∨ vp_in (am_gI C 307 0 i) 12)) ∧ ∀ i, i < 10 → (∃ a, a ≤ 255 ∧ D 303 i = nI a) ∧ (∃ a, a ≤ 255 ∧ D 304 i = nI a) ∧ (∃ a, a ≤ 255 ∧ D 305 i = nI a) ∧ ∃ a, a ≤ 255 ∧ D 306 i = nI a
def TT (t : Nat) : Prop := sh_T C t ∧ am_gR C 801 0 t = some (5, t) ∧ wf_T (T t) (N t) K ∧ am_gI C 5 t 0 = nI (N t) ∧ am_gI M 917 0 t = nI (N t) ∧ ∀ n, n < 30 → (am_gI C 602 t n = T t 602 n ∧ am_gI C 603 t n = T t 603 n ∧ am_gI C 604 t n = T t 604 n ∧ am_gI C 605 t n = T t 605 n ∧ am_gI C 606 t n = T t 606 n ∧ am_gI C 607 t n = T t 607 n) ∧ (n < N t → am_gI M 918 0 (30 * t + n) = T t 602 n ∧ am_gI M 919 0 (30 * t + n) = T t 603 n ∧ am_gI M 920 0 (30 * t + n) = T t 604 n ∧ am_gI M 921 0 (30 * t + n) = T t 605 n ∧ am_gI M 922 0 (30 * t + n) = T t 606 n ∧ am_gI M 923 0 (30 * t + n) = T t 607 n)
def R_T : Prop := Mt ≤ 8 ∧ am_gI C 7 0 3 = nI Mt ∧ am_gI M 8 0 14 = nI Mt ∧ ∀ t, t < Mt → TT C M T N K t
def sm (f : Nat → Nat) : Nat → Nat
  | 0 => 0
  | n + 1 => sm f n + f n
/-- a node's own numbers are such as node takes -/
def wf_v (T : Nat → Nat → Int32) (K n : Nat) : Prop :=
  (∃ k, k ≤ 9 ∧ T 602 n = nI k) ∧
  (T 602 n = 1 ∨ T 602 n = 5 → (0 ≤ T 603 n ∧ T 603 n ≤ 4) ∧ vp_in (T 604 n) 12 ∧ (T 603 n = 4 → vp_in (T 605 n) 8)) ∧
  (T 602 n = 0 → vp_in (T 603 n) K) ∧
  (T 602 n = 2 ∨ T 602 n = 3 ∨ T 602 n = 4 ∨ T 602 n = 7 → ∃ a, 1 ≤ a ∧ a ≤ 6 ∧ T 603 n = nI a) ∧
  (T 602 n = 4 → ∃ b, 1 ≤ b ∧ b ≤ tp T n ∧ T 604 n = nI b) ∧
  (T 602 n = 6 → ∃ a, 1 ≤ a ∧ a ≤ 50 ∧ T 603 n = nI a) ∧
  (T 602 n = 9 → (∃ a, 1 ≤ a ∧ a ≤ 255 ∧ T 603 n = nI a) ∧ ∃ b, b ≤ 255 ∧ T 604 n = nI b)
/-- a tree that is begun: n nodes have come, lk n parts lack at each -/
def BS (T : Nat → Nat → Int32) (lk : Nat → Nat) (K n0 p : Nat) : Prop :=
  (n0 + p ≤ 30 ∧ 1 ≤ p) ∧ (n0 = 0 → p = 1) ∧ (0 < n0 → sm lk n0 = p ∧ tn T 0 = n0) ∧ ∀ n, n < n0 → wf_v T K n ∧ (1 ≤ tn T n ∧ T 607 n = nI (tn T n) ∧ n + tn T n ≤ n0) ∧ lk n ≤ tp T n ∧ tc T n (tp T n - lk n) = n + tn T n ∧ (∀ i, i < tp T n - lk n → tc T n i < n0 ∧ T 606 (tc T n i) = nI n) ∧ (0 < lk n → n + tn T n = n0) ∧ (n = 0 → T 606 n = -4) ∧
    (0 < n → ∃ b, b < n ∧ T 606 n = nI b ∧ n + tn T n ≤ b + tn T b ∧ ∀ a, a < n → (n < a + tn T a ↔ a ≤ b ∧ b < a + tn T a))
def BT (t : Nat) : Prop := t < TA ∧ t < 8 ∧ ∃ (n0 p : Nat) (B : Nat → Nat → Int32) (lk : Nat → Nat), BS B lk K n0 p ∧ am_gI C 5 t 0 = nI n0 ∧ am_gI C 5 t 1 = nI p ∧ am_gI M 917 0 t = nI n0 ∧ am_gI M 8 0 16 = nI p ∧ ∀ n, n < n0 → (am_gI C 602 t n = B 602 n ∧ am_gI C 603 t n = B 603 n ∧ am_gI C 604 t n = B 604 n ∧ am_gI C 605 t n = B 605 n ∧ am_gI C 606 t n = B 606 n ∧ am_gI C 608 t n = nI (lk n)) ∧ (am_gI M 918 0 (30 * t + n) = B 602 n ∧ am_gI M 919 0 (30 * t + n) = B 603 n ∧ am_gI M 920 0 (30 * t + n) = B 604 n ∧ am_gI M 921 0 (30 * t + n) = B 605 n ∧ am_gI M 922 0 (30 * t + n) = B 606 n ∧ am_gI M 923 0 (30 * t + n) = B 607 n ∧ am_gI M 924 0 (30 * t + n) = nI (lk n))
def R_B : Prop := (am_gR C 7 0 5 = none ∧ am_gI M 8 0 15 = 0) ∨ (am_gR C 7 0 5 = some (5, Mt) ∧ am_gI M 8 0 15 = 1 ∧ BT C M K TA Mt)
def R_A : Prop := Mt ≤ TA ∧ TA ≤ Mt + 1 ∧ TA ≤ 8 ∧ ∀ t, t < 8 → (t < TA → sh_T C t ∧ am_gR C 801 0 t = some (5, t)) ∧ (TA ≤ t → am_gR C 801 0 t = none)
/-- what a PLAN remembers -/
def PR (T : Nat → Nat → Int32) (c n : Nat) : Prop := am_gI C 205 c n = am_gI M 933 0 (30 * c + n) ∧ ((am_gI C 205 c n = 0 ∧ am_gI C 204 c n = 0) ∨ ∃ (L p g : Nat) (P : Nat → Nat), (1 ≤ L ∧ L ≤ 12 ∧ p ≤ L ∧ g ≤ 255) ∧ am_gI C 205 c n = nI L ∧ am_gI C 204 c n = nI p ∧ am_gI M 932 0 (30 * c + n) = nI p ∧ am_gI C 207 c n = nI g ∧ am_gI M 935 0 (30 * c + n) = nI g ∧ (∀ i, i < L → P i < K ∧ am_gI C 206 c (n * 12 + i) = nI (P i) ∧ am_gI M 934 0 (12 * (30 * c + n) + i) = nI (P i)) ∧ ws (T 603 n) (T 604 n) (pf D P p (L - p) (nI g)))
/-- what a node remembers; g: what an AGAIN and a MEMO count is held -/
def NR (T : Nat → Nat → Int32) (c n : Nat) (g : Prop) : Prop := am_gI C 201 c n = am_gI M 928 0 (30 * c + n) ∧
  ((am_gI M 930 0 (30 * c + n) = 0 ∧ am_gI C 203 c n = 0) ∨ (am_gI M 930 0 (30 * c + n) = 1 ∧ am_gI C 203 c n = am_gI M 931 0 (30 * c + n) ∧ (∃ a, 1 ≤ a ∧ a ≤ 20 ∧ am_gI C 203 c n = nI a) ∧ (T 602 n = 0 ∨ T 602 n = 9 ∧ am_gI C 204 c n < am_gI C 205 c n))) ∧
  (T 602 n = 9 → PR C M D K T c n) ∧ (T 602 n = 6 ∨ T 602 n = 7 → g → ∃ p : Nat, am_gI C 204 c n = nI p ∧ am_gI M 932 0 (30 * c + n) = nI p ∧ p < (T 603 n).toNatClampNeg) ∧ (T 602 n ≠ 6 → T 602 n ≠ 7 → T 602 n ≠ 9 → am_gI C 204 c n = 0)
def CR (c : Nat) : Prop := sh_C C c ∧ am_gR C 802 0 c = some (1, c) ∧ (∀ i, i < 8 → am_gI C 209 c i = am_gI M 927 0 (8 * c + i)) ∧ (∀ n, n < 30 → am_gI C 205 c n ≤ 12) ∧ ((am_gR C 1 c 0 = none ∧ am_gI M 926 0 c = -4 ∧ am_gI C 209 c 8 = -4) ∨ ∃ t, t < Mt ∧ am_gR C 1 c 0 = some (5, t) ∧ am_gI M 926 0 c = nI t ∧ am_gI C 209 c 8 = nI t ∧ ∀ n, n < N t → am_gI C 202 c n = am_gI M 929 0 (30 * c + n) ∧ NR C M D K (T t) c n True)
def R_C : Prop := Cn ≤ 6 ∧ am_gI C 7 0 4 = nI Cn ∧ am_gI M 8 0 25 = nI Cn ∧ (∀ c, c < Cn → CR C M D T N K Mt c) ∧ ∀ c, Cn ≤ c → c < 6 → ∀ i, i < 8 → am_gI M 927 0 (8 * c + i) = 0
def R_L : Prop := ∃ a, a ≤ 1000 ∧ am_gI C 0 0 0 = nI a ∧ am_gI M 8 0 39 = nI a ∧ ∀ i, i < 40 → am_gI C 101 0 i = am_gI M 940 0 i ∧ am_gI C 102 0 i = am_gI M 941 0 i
def R_P : Prop := ∀ k, k < 240 → am_gI M 937 0 k = 0 ∨ (am_gI M 937 0 k = 1 ∧ ∃ t n, t < Mt ∧ n < N t ∧ k = 30 * t + n ∧ ∀ j f, j ≤ 12 → f < 256 → am_gI M 936 0 (3328 * k + 256 * j + f) = nI (pay D K (T t 603 n) (T t 604 n) j f))
end RELD
def U_1 : List am_A := [(7, 0), (3, 0), (6, 0), (701, 0), (702, 0), (703, 0), (2, 0), (301, 0), (302, 0), (303, 0), (304, 0), (305, 0), (306, 0), (307, 0), (308, 0), (309, 0), (0, 0), (101, 0), (102, 0), (404, 0), (801, 0), (802, 0), (8, 0), (4, 0), (500, 0), (504, 0), (506, 0), (508, 0), (510, 0), (511, 0)] ++ L_Q.map (fun q => (q.2, 0))
def kt : List Nat := [5, 602, 603, 604, 605, 606, 607, 608]
def kr : List Nat := [1, 201, 202, 203, 204, 205, 206, 207, 208, 209]
def U_all : List am_A := U_1 ++ (List.range 8).flatMap (fun t => kt.map (fun k => (k, t))) ++ (List.range 6).flatMap (fun t => kr.map (fun k => (k, t)))
def R_V (H : am_H) (TA Cn : Nat) : Prop := (am_lv H).Nodup ∧ ∀ a ∈ am_lv H, a ∈ U_all ∧ (a.1 ∈ kt → a.2 < TA) ∧ (a.1 ∈ kr → a.2 < Cn)
/-- what holds before the call of number n -/
def RI (n : Nat) (H : am_H) : Prop := ∃ (D : Nat → Nat → Int32) (T : Nat → Nat → Nat → Int32) (N : Nat → Nat) (K Mt TA Cn : Nat), (sh_L H ∧ sh_M H ∧ sh_W H ∧ sh_D H ∧ sh_X H ∧ sh_Q H) ∧ R_V H TA Cn ∧ wf_W H ∧ wf_P H (9000 * n) ∧ R_W H H ∧ R_D H H D K ∧ R_T H H T N K Mt ∧ R_A H Mt TA ∧ R_B H H K Mt TA ∧ R_C H H D T N K Mt Cn ∧ R_L H H ∧ R_P H D T N K Mt
def am_prI (l : Launch) (RI : Nat → am_H → Prop) (c m : Nat) (f : List am_V) : Prop := ∀ n H, n < 512 → RI n H → am_XQ l c 1000 (.inr (.inr (some (7, 0))) :: f) H (fun r H1 => ∃ v : Int32, r = some (.inl v) ∧ am_XQ l m 1000 (.inr (.inr (some (8, 0))) :: f) H1 (fun r2 H2 => r2 = some (.inl v) ∧ RI (n + 1) H2))
def am_prL (l : Launch) (RI : Nat → am_H → Prop) (c m : Nat) (f : List am_V) : Prop := ∀ n H, n < 512 → RI n H → am_XQ l c 1000 (.inr (.inr (some (7, 0))) :: f) H (fun r H1 => ∃ v : Int64, r = some (.inr (.inl v)) ∧ am_XQ l m 1000 (.inr (.inr (some (8, 0))) :: f) H1 (fun r2 H2 => r2 = some (.inr (.inl v)) ∧ RI (n + 1) H2))
