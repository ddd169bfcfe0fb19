/-! ===== rows for the walks ===== -/
section AMV
variable {ls t : am_LS} {v : am_V} {o : Option am_V} {x : Int32} {y : Int64} {i : Nat} {r : Option am_A}
theorem am_sto_0 : am_sto (o :: t) 0 v = some v :: t := rfl
theorem am_sto_I : am_sto (some (.inl x) :: o :: t) 1 v = some (.inl x) :: some v :: t := rfl
theorem am_sto_R : am_sto (some (.inr (.inr r)) :: o :: t) 1 v = some (.inr (.inr r)) :: some v :: t := rfl
theorem am_sto_n : am_sto (none :: o :: t) 1 v = none :: some v :: t := rfl
theorem am_sto_L : am_sto (some (.inr (.inl y)) :: o :: t) 1 v = none :: some v :: t := rfl
theorem am_sto_s {o2 : Option am_V} : am_sto (o :: o2 :: t) (i + 2) v = o :: am_sto (o2 :: t) (i + 1) v := by
  unfold am_sto am_clr
  dsimp only
  rw [show (o :: o2 :: t)[i + 1]? = (o2 :: t)[i]? from rfl]
  cases (o2 :: t)[i]? with
  | none => rfl
  | some w =>
    cases w with
    | none => rfl
    | some u => rcases u with x | x | x <;> rfl
end AMV
theorem kc_0 : am_c 0 = 0 := rfl
theorem kn_0 : am_n 0 = 3 := rfl
theorem kc_1 : am_c 1 = 1 := rfl
theorem kn_1 : am_n 1 = 10 := rfl
theorem kc_2 : am_c 2 = 2 := rfl
theorem kn_2 : am_n 2 = 10 := rfl
theorem kc_3 : am_c 3 = 3 := rfl
theorem kn_3 : am_n 3 = 5 := rfl
theorem kc_4 : am_c 4 = 4 := rfl
theorem kn_4 : am_n 4 = 12 := rfl
theorem kc_5 : am_c 5 = 5 := rfl
theorem kn_5 : am_n 5 = 9 := rfl
theorem kc_6 : am_c 6 = 6 := rfl
theorem kn_6 : am_n 6 = 4 := rfl
theorem kc_7 : am_c 7 = 7 := rfl
theorem kn_7 : am_n 7 = 6 := rfl
theorem kc_8 : am_c 8 = 8 := rfl
theorem kn_8 : am_n 8 = 52 := rfl
theorem kc_101 : am_c 101 = 20 := rfl
theorem kn_101 : am_n 101 = 40 := rfl
theorem kc_102 : am_c 102 = 20 := rfl
theorem kn_102 : am_n 102 = 40 := rfl
theorem kc_201 : am_c 201 = 20 := rfl
theorem kn_201 : am_n 201 = 30 := rfl
theorem kc_202 : am_c 202 = 20 := rfl
theorem kn_202 : am_n 202 = 30 := rfl
theorem kc_203 : am_c 203 = 20 := rfl
theorem kn_203 : am_n 203 = 30 := rfl
theorem kc_204 : am_c 204 = 20 := rfl
theorem kn_204 : am_n 204 = 30 := rfl
theorem kc_205 : am_c 205 = 20 := rfl
theorem kn_205 : am_n 205 = 30 := rfl
theorem kc_206 : am_c 206 = 20 := rfl
theorem kn_206 : am_n 206 = 360 := rfl
theorem kc_207 : am_c 207 = 20 := rfl
theorem kn_207 : am_n 207 = 30 := rfl
theorem kc_208 : am_c 208 = 21 := rfl
theorem kn_208 : am_n 208 = 30 := rfl
theorem kc_209 : am_c 209 = 20 := rfl
theorem kn_209 : am_n 209 = 9 := rfl
theorem kc_301 : am_c 301 = 20 := rfl
theorem kn_301 : am_n 301 = 10 := rfl
theorem kc_302 : am_c 302 = 20 := rfl
theorem kn_302 : am_n 302 = 10 := rfl
theorem kc_303 : am_c 303 = 20 := rfl
theorem kn_303 : am_n 303 = 10 := rfl
theorem kc_304 : am_c 304 = 20 := rfl
theorem kn_304 : am_n 304 = 10 := rfl
theorem kc_305 : am_c 305 = 20 := rfl
theorem kn_305 : am_n 305 = 10 := rfl
theorem kc_306 : am_c 306 = 20 := rfl
theorem kn_306 : am_n 306 = 10 := rfl
theorem kc_307 : am_c 307 = 20 := rfl
theorem kn_307 : am_n 307 = 10 := rfl
theorem kc_308 : am_c 308 = 20 := rfl
theorem kn_308 : am_n 308 = 10 := rfl
theorem kc_309 : am_c 309 = 20 := rfl
theorem kn_309 : am_n 309 = 10 := rfl
theorem kc_404 : am_c 404 = 21 := rfl
theorem kn_404 : am_n 404 = 30 := rfl
theorem kc_500 : am_c 500 = 20 := rfl
theorem kn_500 : am_n 500 = 12 := rfl
theorem kc_504 : am_c 504 = 20 := rfl
theorem kn_504 : am_n 504 = 10 := rfl
theorem kc_506 : am_c 506 = 20 := rfl
theorem kn_506 : am_n 506 = 256 := rfl
theorem kc_508 : am_c 508 = 20 := rfl
theorem kn_508 : am_n 508 = 256 := rfl
theorem kc_510 : am_c 510 = 20 := rfl
theorem kn_510 : am_n 510 = 2560 := rfl
theorem kc_511 : am_c 511 = 20 := rfl
theorem kn_511 : am_n 511 = 3328 := rfl
theorem kc_602 : am_c 602 = 20 := rfl
theorem kn_602 : am_n 602 = 30 := rfl
theorem kc_603 : am_c 603 = 20 := rfl
theorem kn_603 : am_n 603 = 30 := rfl
theorem kc_604 : am_c 604 = 20 := rfl
theorem kn_604 : am_n 604 = 30 := rfl
theorem kc_605 : am_c 605 = 20 := rfl
theorem kn_605 : am_n 605 = 30 := rfl
theorem kc_606 : am_c 606 = 20 := rfl
theorem kn_606 : am_n 606 = 30 := rfl
theorem kc_607 : am_c 607 = 20 := rfl
theorem kn_607 : am_n 607 = 30 := rfl
theorem kc_608 : am_c 608 = 20 := rfl
theorem kn_608 : am_n 608 = 30 := rfl
theorem kc_701 : am_c 701 = 20 := rfl
theorem kn_701 : am_n 701 = 12 := rfl
theorem kc_702 : am_c 702 = 22 := rfl
theorem kn_702 : am_n 702 = 12 := rfl
theorem kc_703 : am_c 703 = 20 := rfl
theorem kn_703 : am_n 703 = 72 := rfl
theorem kc_801 : am_c 801 = 23 := rfl
theorem kn_801 : am_n 801 = 8 := rfl
theorem kc_802 : am_c 802 = 24 := rfl
theorem kn_802 : am_n 802 = 6 := rfl
theorem kc_901 : am_c 901 = 20 := rfl
theorem kn_901 : am_n 901 = 12 := rfl
theorem kc_902 : am_c 902 = 22 := rfl
theorem kn_902 : am_n 902 = 12 := rfl
theorem kc_903 : am_c 903 = 20 := rfl
theorem kn_903 : am_n 903 = 72 := rfl
theorem kc_905 : am_c 905 = 20 := rfl
theorem kn_905 : am_n 905 = 10 := rfl
theorem kc_906 : am_c 906 = 20 := rfl
theorem kn_906 : am_n 906 = 10 := rfl
theorem kc_907 : am_c 907 = 20 := rfl
theorem kn_907 : am_n 907 = 10 := rfl
theorem kc_908 : am_c 908 = 20 := rfl
theorem kn_908 : am_n 908 = 10 := rfl
theorem kc_909 : am_c 909 = 20 := rfl
theorem kn_909 : am_n 909 = 10 := rfl
theorem kc_910 : am_c 910 = 20 := rfl
theorem kn_910 : am_n 910 = 10 := rfl
theorem kc_911 : am_c 911 = 20 := rfl
theorem kn_911 : am_n 911 = 10 := rfl
theorem kc_912 : am_c 912 = 20 := rfl
theorem kn_912 : am_n 912 = 10 := rfl
theorem kc_913 : am_c 913 = 20 := rfl
theorem kn_913 : am_n 913 = 10 := rfl
theorem kc_917 : am_c 917 = 20 := rfl
theorem kn_917 : am_n 917 = 9 := rfl
theorem kc_918 : am_c 918 = 20 := rfl
theorem kn_918 : am_n 918 = 270 := rfl
theorem kc_919 : am_c 919 = 20 := rfl
theorem kn_919 : am_n 919 = 270 := rfl
theorem kc_920 : am_c 920 = 20 := rfl
theorem kn_920 : am_n 920 = 270 := rfl
theorem kc_921 : am_c 921 = 20 := rfl
theorem kn_921 : am_n 921 = 270 := rfl
theorem kc_922 : am_c 922 = 20 := rfl
theorem kn_922 : am_n 922 = 270 := rfl
theorem kc_923 : am_c 923 = 20 := rfl
theorem kn_923 : am_n 923 = 270 := rfl
theorem kc_924 : am_c 924 = 20 := rfl
theorem kn_924 : am_n 924 = 270 := rfl
theorem kc_926 : am_c 926 = 20 := rfl
theorem kn_926 : am_n 926 = 6 := rfl
theorem kc_927 : am_c 927 = 20 := rfl
theorem kn_927 : am_n 927 = 48 := rfl
theorem kc_928 : am_c 928 = 20 := rfl
theorem kn_928 : am_n 928 = 180 := rfl
theorem kc_929 : am_c 929 = 20 := rfl
theorem kn_929 : am_n 929 = 180 := rfl
theorem kc_930 : am_c 930 = 21 := rfl
theorem kn_930 : am_n 930 = 180 := rfl
theorem kc_931 : am_c 931 = 20 := rfl
theorem kn_931 : am_n 931 = 180 := rfl
theorem kc_932 : am_c 932 = 20 := rfl
theorem kn_932 : am_n 932 = 180 := rfl
theorem kc_933 : am_c 933 = 20 := rfl
theorem kn_933 : am_n 933 = 180 := rfl
theorem kc_934 : am_c 934 = 20 := rfl
theorem kn_934 : am_n 934 = 2160 := rfl
theorem kc_935 : am_c 935 = 20 := rfl
theorem kn_935 : am_n 935 = 180 := rfl
theorem kc_936 : am_c 936 = 20 := rfl
theorem kn_936 : am_n 936 = 798720 := rfl
theorem kc_937 : am_c 937 = 21 := rfl
theorem kn_937 : am_n 937 = 240 := rfl
theorem kc_940 : am_c 940 = 20 := rfl
theorem kn_940 : am_n 940 = 40 := rfl
theorem kc_941 : am_c 941 = 20 := rfl
theorem kn_941 : am_n 941 = 40 := rfl
theorem kc_942 : am_c 942 = 21 := rfl
theorem kn_942 : am_n 942 = 30 := rfl
theorem kc_944 : am_c 944 = 20 := rfl
theorem kn_944 : am_n 944 = 31 := rfl
theorem kc_945 : am_c 945 = 20 := rfl
theorem kn_945 : am_n 945 = 31 := rfl
theorem kc_946 : am_c 946 = 20 := rfl
theorem kn_946 : am_n 946 = 31 := rfl
theorem kc_947 : am_c 947 = 20 := rfl
theorem kn_947 : am_n 947 = 31 := rfl
theorem kc_948 : am_c 948 = 20 := rfl
theorem kn_948 : am_n 948 = 31 := rfl
