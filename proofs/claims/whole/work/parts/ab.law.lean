theorem g_L_law_18 {Q : PQ} {h : HP} {x3 : Int} 
    (o1 : -2147483648 ≤ (h 1001 0) - 6 ∧ (h 1001 0) - 6 ≤ 2147483647)
    (k2 : (h 1001 0) - 6 < x3 → Q (some (vi 1)) h)
    (o3 : ¬ (h 1001 0) - 6 < x3 → 0 ≤ x3 ∧ x3 < h 1001 0)
    (k4 : ¬ (h 1001 0) - 6 < x3 → o_and (h 1000 x3.toNat) 63 = 0 → Wp true i_L_law 296 [vr 1000, vr 0, vr 103, vi x3] [] h Q)
    (k5 : ¬ (h 1001 0) - 6 < x3 → o_and (h 1000 x3.toNat) 63 = 1 → Wp true i_L_law 309 [vr 1000, vr 0, vr 103, vi x3] [] h Q)
    (k6 : ¬ (h 1001 0) - 6 < x3 → o_and (h 1000 x3.toNat) 63 = 2 → Wp true i_L_law 323 [vr 1000, vr 0, vr 103, vi x3] [] h Q)
    (k7 : ¬ (h 1001 0) - 6 < x3 → o_and (h 1000 x3.toNat) 63 = 3 → Wp true i_L_law 337 [vr 1000, vr 0, vr 103, vi x3] [] h Q)
    (k8 : ¬ (h 1001 0) - 6 < x3 → o_and (h 1000 x3.toNat) 63 = 4 → Wp true i_L_law 380 [vr 1000, vr 0, vr 103, vi x3] [] h Q)
    (k9 : ¬ (h 1001 0) - 6 < x3 → o_and (h 1000 x3.toNat) 63 = 5 → Wp true i_L_law 453 [vr 1000, vr 0, vr 103, vi x3] [] h Q)
    (k10 : ¬ (h 1001 0) - 6 < x3 → o_and (h 1000 x3.toNat) 63 = 6 → Wp true i_L_law 487 [vr 1000, vr 0, vr 103, vi x3] [] h Q)
    (k11 : ¬ (h 1001 0) - 6 < x3 → o_and (h 1000 x3.toNat) 63 = 7 → Wp true i_L_law 550 [vr 1000, vr 0, vr 103, vi x3] [] h Q)
    (k12 : ¬ (h 1001 0) - 6 < x3 → o_and (h 1000 x3.toNat) 63 = 8 → Wp true i_L_law 613 [vr 1000, vr 0, vr 103, vi x3] [] h Q)
    (k13 : ¬ (h 1001 0) - 6 < x3 → o_and (h 1000 x3.toNat) 63 = 9 → Wp true i_L_law 636 [vr 1000, vr 0, vr 103, vi x3] [] h Q)
    (k14 : ¬ (h 1001 0) - 6 < x3 → o_and (h 1000 x3.toNat) 63 = 10 → Wp true i_L_law 659 [vr 1000, vr 0, vr 103, vi x3] [] h Q)
    (k15 : ¬ (h 1001 0) - 6 < x3 → o_and (h 1000 x3.toNat) 63 = 11 → Wp true i_L_law 682 [vr 1000, vr 0, vr 103, vi x3] [] h Q)
    (k16 : ¬ (h 1001 0) - 6 < x3 → o_and (h 1000 x3.toNat) 63 = 12 → Wp true i_L_law 705 [vr 1000, vr 0, vr 103, vi x3] [] h Q)
    (k17 : ¬ (h 1001 0) - 6 < x3 → o_and (h 1000 x3.toNat) 63 = 13 → Wp true i_L_law 728 [vr 1000, vr 0, vr 103, vi x3] [] h Q)
    (k18 : ¬ (h 1001 0) - 6 < x3 → o_and (h 1000 x3.toNat) 63 = 14 → Wp true i_L_law 761 [vr 1000, vr 0, vr 103, vi x3] [] h Q)
    (k19 : ¬ (h 1001 0) - 6 < x3 → o_and (h 1000 x3.toNat) 63 = 15 → Wp true i_L_law 794 [vr 1000, vr 0, vr 103, vi x3] [] h Q)
    (k20 : ¬ (h 1001 0) - 6 < x3 → o_and (h 1000 x3.toNat) 63 = 16 → Wp true i_L_law 827 [vr 1000, vr 0, vr 103, vi x3] [] h Q)
    (k21 : ¬ (h 1001 0) - 6 < x3 → o_and (h 1000 x3.toNat) 63 = 17 → Wp true i_L_law 850 [vr 1000, vr 0, vr 103, vi x3] [] h Q)
    (k22 : ¬ (h 1001 0) - 6 < x3 → o_and (h 1000 x3.toNat) 63 = 18 → Wp true i_L_law 873 [vr 1000, vr 0, vr 103, vi x3] [] h Q)
    (k23 : ¬ (h 1001 0) - 6 < x3 → o_and (h 1000 x3.toNat) 63 = 19 → Wp true i_L_law 896 [vr 1000, vr 0, vr 103, vi x3] [] h Q)
    (k24 : ¬ (h 1001 0) - 6 < x3 → o_and (h 1000 x3.toNat) 63 = 20 → Wp true i_L_law 919 [vr 1000, vr 0, vr 103, vi x3] [] h Q)
    (k25 : ¬ (h 1001 0) - 6 < x3 → o_and (h 1000 x3.toNat) 63 = 21 → Wp true i_L_law 942 [vr 1000, vr 0, vr 103, vi x3] [] h Q)
    (k26 : ¬ (h 1001 0) - 6 < x3 → o_and (h 1000 x3.toNat) 63 = 22 → Wp true i_L_law 955 [vr 1000, vr 0, vr 103, vi x3] [] h Q)
    (k27 : ¬ (h 1001 0) - 6 < x3 → o_and (h 1000 x3.toNat) 63 = 23 → Wp true i_L_law 968 [vr 1000, vr 0, vr 103, vi x3] [] h Q)
    (k28 : ¬ (h 1001 0) - 6 < x3 → o_and (h 1000 x3.toNat) 63 = 24 → Wp true i_L_law 981 [vr 1000, vr 0, vr 103, vi x3] [] h Q)
    (k29 : ¬ (h 1001 0) - 6 < x3 → o_and (h 1000 x3.toNat) 63 = 25 → Wp true i_L_law 1004 [vr 1000, vr 0, vr 103, vi x3] [] h Q)
    (k30 : ¬ (h 1001 0) - 6 < x3 → o_and (h 1000 x3.toNat) 63 = 26 → Wp true i_L_law 1027 [vr 1000, vr 0, vr 103, vi x3] [] h Q)
    (k31 : ¬ (h 1001 0) - 6 < x3 → o_and (h 1000 x3.toNat) 63 = 27 → Wp true i_L_law 1050 [vr 1000, vr 0, vr 103, vi x3] [] h Q)
    (k32 : ¬ (h 1001 0) - 6 < x3 → o_and (h 1000 x3.toNat) 63 = 28 → Wp true i_L_law 1073 [vr 1000, vr 0, vr 103, vi x3] [] h Q)
    (k33 : ¬ (h 1001 0) - 6 < x3 → o_and (h 1000 x3.toNat) 63 = 29 → Wp true i_L_law 1116 [vr 1000, vr 0, vr 103, vi x3] [] h Q)
    (k34 : ¬ (h 1001 0) - 6 < x3 → o_and (h 1000 x3.toNat) 63 = 30 → Wp true i_L_law 1129 [vr 1000, vr 0, vr 103, vi x3] [] h Q)
    (k35 : ¬ (h 1001 0) - 6 < x3 → o_and (h 1000 x3.toNat) 63 = 31 → Wp true i_L_law 1152 [vr 1000, vr 0, vr 103, vi x3] [] h Q)
    (k36 : ¬ (h 1001 0) - 6 < x3 → o_and (h 1000 x3.toNat) 63 = 32 → Wp true i_L_law 1195 [vr 1000, vr 0, vr 103, vi x3] [] h Q)
    (k37 : ¬ (h 1001 0) - 6 < x3 → o_and (h 1000 x3.toNat) 63 = 33 → Wp true i_L_law 1228 [vr 1000, vr 0, vr 103, vi x3] [] h Q)
    (k38 : ¬ (h 1001 0) - 6 < x3 → o_and (h 1000 x3.toNat) 63 = 34 → Wp true i_L_law 1251 [vr 1000, vr 0, vr 103, vi x3] [] h Q)
    (k39 : ¬ (h 1001 0) - 6 < x3 → o_and (h 1000 x3.toNat) 63 = 35 → Wp true i_L_law 1274 [vr 1000, vr 0, vr 103, vi x3] [] h Q)
    (k40 : ¬ (h 1001 0) - 6 < x3 → o_and (h 1000 x3.toNat) 63 = 36 → Wp true i_L_law 1297 [vr 1000, vr 0, vr 103, vi x3] [] h Q)
    (k41 : ¬ (h 1001 0) - 6 < x3 → o_and (h 1000 x3.toNat) 63 = 37 → Wp true i_L_law 1320 [vr 1000, vr 0, vr 103, vi x3] [] h Q)
    (k42 : ¬ (h 1001 0) - 6 < x3 → o_and (h 1000 x3.toNat) 63 = 38 → Wp true i_L_law 1353 [vr 1000, vr 0, vr 103, vi x3] [] h Q)
    (k43 : ¬ (h 1001 0) - 6 < x3 → o_and (h 1000 x3.toNat) 63 = 39 → Wp true i_L_law 1376 [vr 1000, vr 0, vr 103, vi x3] [] h Q)
    (k44 : ¬ (h 1001 0) - 6 < x3 → o_and (h 1000 x3.toNat) 63 = 40 → Wp true i_L_law 1429 [vr 1000, vr 0, vr 103, vi x3] [] h Q)
    (k45 : ¬ (h 1001 0) - 6 < x3 → o_and (h 1000 x3.toNat) 63 = 41 → Wp true i_L_law 1472 [vr 1000, vr 0, vr 103, vi x3] [] h Q)
    (k46 : ¬ (h 1001 0) - 6 < x3 → o_and (h 1000 x3.toNat) 63 = 42 → Wp true i_L_law 1515 [vr 1000, vr 0, vr 103, vi x3] [] h Q)
    (k47 : ¬ (h 1001 0) - 6 < x3 → o_and (h 1000 x3.toNat) 63 = 43 → Wp true i_L_law 1538 [vr 1000, vr 0, vr 103, vi x3] [] h Q)
    (k48 : ¬ (h 1001 0) - 6 < x3 → o_and (h 1000 x3.toNat) 63 = 44 → Wp true i_L_law 1561 [vr 1000, vr 0, vr 103, vi x3] [] h Q)
    (k49 : ¬ (h 1001 0) - 6 < x3 → o_and (h 1000 x3.toNat) 63 = 45 → Wp true i_L_law 1584 [vr 1000, vr 0, vr 103, vi x3] [] h Q)
    (k50 : ¬ (h 1001 0) - 6 < x3 → o_and (h 1000 x3.toNat) 63 = 46 → Wp true i_L_law 1607 [vr 1000, vr 0, vr 103, vi x3] [] h Q)
    (k51 : ¬ (h 1001 0) - 6 < x3 → o_and (h 1000 x3.toNat) 63 = 47 → Wp true i_L_law 1640 [vr 1000, vr 0, vr 103, vi x3] [] h Q)
    (k52 : ¬ (h 1001 0) - 6 < x3 → o_and (h 1000 x3.toNat) 63 = 48 → Wp true i_L_law 1683 [vr 1000, vr 0, vr 103, vi x3] [] h Q)
    (k53 : ¬ (h 1001 0) - 6 < x3 → o_and (h 1000 x3.toNat) 63 = 49 → Wp true i_L_law 1716 [vr 1000, vr 0, vr 103, vi x3] [] h Q)
    (k54 : ¬ (h 1001 0) - 6 < x3 → o_and (h 1000 x3.toNat) 63 = 50 → Wp true i_L_law 1759 [vr 1000, vr 0, vr 103, vi x3] [] h Q)
    (k55 : ¬ (h 1001 0) - 6 < x3 → o_and (h 1000 x3.toNat) 63 = 51 → Wp true i_L_law 1792 [vr 1000, vr 0, vr 103, vi x3] [] h Q)
    (k56 : ¬ (h 1001 0) - 6 < x3 → o_and (h 1000 x3.toNat) 63 = 52 → Wp true i_L_law 1825 [vr 1000, vr 0, vr 103, vi x3] [] h Q)
    (k57 : ¬ (h 1001 0) - 6 < x3 → o_and (h 1000 x3.toNat) 63 = 53 → Wp true i_L_law 1868 [vr 1000, vr 0, vr 103, vi x3] [] h Q)
    (k58 : ¬ (h 1001 0) - 6 < x3 → o_and (h 1000 x3.toNat) 63 = 54 → Wp true i_L_law 1892 [vr 1000, vr 0, vr 103, vi x3] [] h Q)
    (k59 : ¬ (h 1001 0) - 6 < x3 → o_and (h 1000 x3.toNat) 63 = 55 → Wp true i_L_law 1915 [vr 1000, vr 0, vr 103, vi x3] [] h Q)
    (k60 : ¬ (h 1001 0) - 6 < x3 → o_and (h 1000 x3.toNat) 63 = 56 → Wp true i_L_law 1938 [vr 1000, vr 0, vr 103, vi x3] [] h Q)
    (k61 : ¬ (h 1001 0) - 6 < x3 → o_and (h 1000 x3.toNat) 63 = 57 → Wp true i_L_law 1961 [vr 1000, vr 0, vr 103, vi x3] [] h Q)
    (k62 : ¬ (h 1001 0) - 6 < x3 → o_and (h 1000 x3.toNat) 63 = 58 → Wp true i_L_law 1984 [vr 1000, vr 0, vr 103, vi x3] [] h Q)
    (k63 : ¬ (h 1001 0) - 6 < x3 → o_and (h 1000 x3.toNat) 63 = 59 → Wp true i_L_law 2007 [vr 1000, vr 0, vr 103, vi x3] [] h Q)
    (k64 : ¬ (h 1001 0) - 6 < x3 → o_and (h 1000 x3.toNat) 63 = 60 → Wp true i_L_law 2050 [vr 1000, vr 0, vr 103, vi x3] [] h Q)
    (k65 : ¬ (h 1001 0) - 6 < x3 → o_and (h 1000 x3.toNat) 63 = 61 → Wp true i_L_law 2063 [vr 1000, vr 0, vr 103, vi x3] [] h Q)
    (k66 : ¬ (h 1001 0) - 6 < x3 → ¬ o_and (h 1000 x3.toNat) 63 = 0 → ¬ o_and (h 1000 x3.toNat) 63 = 1 → ¬ o_and (h 1000 x3.toNat) 63 = 2 → ¬ o_and (h 1000 x3.toNat) 63 = 3 → ¬ o_and (h 1000 x3.toNat) 63 = 4 → ¬ o_and (h 1000 x3.toNat) 63 = 5 → ¬ o_and (h 1000 x3.toNat) 63 = 6 → ¬ o_and (h 1000 x3.toNat) 63 = 7 → ¬ o_and (h 1000 x3.toNat) 63 = 8 → ¬ o_and (h 1000 x3.toNat) 63 = 9 → ¬ o_and (h 1000 x3.toNat) 63 = 10 → ¬ o_and (h 1000 x3.toNat) 63 = 11 → ¬ o_and (h 1000 x3.toNat) 63 = 12 → ¬ o_and (h 1000 x3.toNat) 63 = 13 → ¬ o_and (h 1000 x3.toNat) 63 = 14 → ¬ o_and (h 1000 x3.toNat) 63 = 15 → ¬ o_and (h 1000 x3.toNat) 63 = 16 → ¬ o_and (h 1000 x3.toNat) 63 = 17 → ¬ o_and (h 1000 x3.toNat) 63 = 18 → ¬ o_and (h 1000 x3.toNat) 63 = 19 → ¬ o_and (h 1000 x3.toNat) 63 = 20 → ¬ o_and (h 1000 x3.toNat) 63 = 21 → ¬ o_and (h 1000 x3.toNat) 63 = 22 → ¬ o_and (h 1000 x3.toNat) 63 = 23 → ¬ o_and (h 1000 x3.toNat) 63 = 24 → ¬ o_and (h 1000 x3.toNat) 63 = 25 → ¬ o_and (h 1000 x3.toNat) 63 = 26 → ¬ o_and (h 1000 x3.toNat) 63 = 27 → ¬ o_and (h 1000 x3.toNat) 63 = 28 → ¬ o_and (h 1000 x3.toNat) 63 = 29 → ¬ o_and (h 1000 x3.toNat) 63 = 30 → ¬ o_and (h 1000 x3.toNat) 63 = 31 → ¬ o_and (h 1000 x3.toNat) 63 = 32 → ¬ o_and (h 1000 x3.toNat) 63 = 33 → ¬ o_and (h 1000 x3.toNat) 63 = 34 → ¬ o_and (h 1000 x3.toNat) 63 = 35 → ¬ o_and (h 1000 x3.toNat) 63 = 36 → ¬ o_and (h 1000 x3.toNat) 63 = 37 → ¬ o_and (h 1000 x3.toNat) 63 = 38 → ¬ o_and (h 1000 x3.toNat) 63 = 39 → ¬ o_and (h 1000 x3.toNat) 63 = 40 → ¬ o_and (h 1000 x3.toNat) 63 = 41 → ¬ o_and (h 1000 x3.toNat) 63 = 42 → ¬ o_and (h 1000 x3.toNat) 63 = 43 → ¬ o_and (h 1000 x3.toNat) 63 = 44 → ¬ o_and (h 1000 x3.toNat) 63 = 45 → ¬ o_and (h 1000 x3.toNat) 63 = 46 → ¬ o_and (h 1000 x3.toNat) 63 = 47 → ¬ o_and (h 1000 x3.toNat) 63 = 48 → ¬ o_and (h 1000 x3.toNat) 63 = 49 → ¬ o_and (h 1000 x3.toNat) 63 = 50 → ¬ o_and (h 1000 x3.toNat) 63 = 51 → ¬ o_and (h 1000 x3.toNat) 63 = 52 → ¬ o_and (h 1000 x3.toNat) 63 = 53 → ¬ o_and (h 1000 x3.toNat) 63 = 54 → ¬ o_and (h 1000 x3.toNat) 63 = 55 → ¬ o_and (h 1000 x3.toNat) 63 = 56 → ¬ o_and (h 1000 x3.toNat) 63 = 57 → ¬ o_and (h 1000 x3.toNat) 63 = 58 → ¬ o_and (h 1000 x3.toNat) 63 = 59 → ¬ o_and (h 1000 x3.toNat) 63 = 60 → ¬ o_and (h 1000 x3.toNat) 63 = 61 → Wp true i_L_law 2076 [vr 1000, vr 0, vr 103, vi x3] [] h Q) :
    Wp true i_L_law 18 [vr 1000, vr 0, vr 103, vi x3] [] h Q := by
  refine r_iload_n (v := x3) f_380_18 rfl ?_
  refine r_aload_n (v := 1000) f_380_19 rfl (by decide) ?_
  refine r_slen f_380_20 ?_
  refine r_bipush f_380_21 (by decide) ?_
  refine r_isub (u := (h 1001 0) - 6) f_380_23 rfl o1 ?_
  refine r_br2 (t := 2082) f_380_24 rfl cb_gt (fun c1 => ?_) (fun c1 => ?_)
  · refine r_iconst f_380_2082 (by decide) ?_
    exact r_retz f_380_2083 rfl (by decide) (k2 c1)
  · refine r_aload_n (v := 1000) f_380_27 rfl (by decide) ?_
    refine r_iload_n (v := x3) f_380_28 rfl ?_
    refine r_saload f_380_29 (o3 c1) ?_
    refine r_bipush f_380_30 (by decide) ?_
    refine r_iand f_380_32 ?_
    by_cases c2 : o_and (h 1000 x3.toNat) 63 = 0
    · refine r_swi (t := 296) f_380_33 0 c2 (by decide) rfl rfl ?_
      exact (k4 c1 c2)
    by_cases c3 : o_and (h 1000 x3.toNat) 63 = 1
    · refine r_swi (t := 309) f_380_33 1 c3 (by decide) rfl rfl ?_
      exact (k5 c1 c3)
    by_cases c4 : o_and (h 1000 x3.toNat) 63 = 2
    · refine r_swi (t := 323) f_380_33 2 c4 (by decide) rfl rfl ?_
      exact (k6 c1 c4)
    by_cases c5 : o_and (h 1000 x3.toNat) 63 = 3
    · refine r_swi (t := 337) f_380_33 3 c5 (by decide) rfl rfl ?_
      exact (k7 c1 c5)
    by_cases c6 : o_and (h 1000 x3.toNat) 63 = 4
    · refine r_swi (t := 380) f_380_33 4 c6 (by decide) rfl rfl ?_
      exact (k8 c1 c6)
    by_cases c7 : o_and (h 1000 x3.toNat) 63 = 5
    · refine r_swi (t := 453) f_380_33 5 c7 (by decide) rfl rfl ?_
      exact (k9 c1 c7)
    by_cases c8 : o_and (h 1000 x3.toNat) 63 = 6
    · refine r_swi (t := 487) f_380_33 6 c8 (by decide) rfl rfl ?_
      exact (k10 c1 c8)
    by_cases c9 : o_and (h 1000 x3.toNat) 63 = 7
    · refine r_swi (t := 550) f_380_33 7 c9 (by decide) rfl rfl ?_
      exact (k11 c1 c9)
    by_cases c10 : o_and (h 1000 x3.toNat) 63 = 8
    · refine r_swi (t := 613) f_380_33 8 c10 (by decide) rfl rfl ?_
      exact (k12 c1 c10)
    by_cases c11 : o_and (h 1000 x3.toNat) 63 = 9
    · refine r_swi (t := 636) f_380_33 9 c11 (by decide) rfl rfl ?_
      exact (k13 c1 c11)
    by_cases c12 : o_and (h 1000 x3.toNat) 63 = 10
    · refine r_swi (t := 659) f_380_33 10 c12 (by decide) rfl rfl ?_
      exact (k14 c1 c12)
    by_cases c13 : o_and (h 1000 x3.toNat) 63 = 11
    · refine r_swi (t := 682) f_380_33 11 c13 (by decide) rfl rfl ?_
      exact (k15 c1 c13)
    by_cases c14 : o_and (h 1000 x3.toNat) 63 = 12
    · refine r_swi (t := 705) f_380_33 12 c14 (by decide) rfl rfl ?_
      exact (k16 c1 c14)
    by_cases c15 : o_and (h 1000 x3.toNat) 63 = 13
    · refine r_swi (t := 728) f_380_33 13 c15 (by decide) rfl rfl ?_
      exact (k17 c1 c15)
    by_cases c16 : o_and (h 1000 x3.toNat) 63 = 14
    · refine r_swi (t := 761) f_380_33 14 c16 (by decide) rfl rfl ?_
      exact (k18 c1 c16)
    by_cases c17 : o_and (h 1000 x3.toNat) 63 = 15
    · refine r_swi (t := 794) f_380_33 15 c17 (by decide) rfl rfl ?_
      exact (k19 c1 c17)
    by_cases c18 : o_and (h 1000 x3.toNat) 63 = 16
    · refine r_swi (t := 827) f_380_33 16 c18 (by decide) rfl rfl ?_
      exact (k20 c1 c18)
    by_cases c19 : o_and (h 1000 x3.toNat) 63 = 17
    · refine r_swi (t := 850) f_380_33 17 c19 (by decide) rfl rfl ?_
      exact (k21 c1 c19)
    by_cases c20 : o_and (h 1000 x3.toNat) 63 = 18
    · refine r_swi (t := 873) f_380_33 18 c20 (by decide) rfl rfl ?_
      exact (k22 c1 c20)
    by_cases c21 : o_and (h 1000 x3.toNat) 63 = 19
    · refine r_swi (t := 896) f_380_33 19 c21 (by decide) rfl rfl ?_
      exact (k23 c1 c21)
    by_cases c22 : o_and (h 1000 x3.toNat) 63 = 20
    · refine r_swi (t := 919) f_380_33 20 c22 (by decide) rfl rfl ?_
      exact (k24 c1 c22)
    by_cases c23 : o_and (h 1000 x3.toNat) 63 = 21
    · refine r_swi (t := 942) f_380_33 21 c23 (by decide) rfl rfl ?_
      exact (k25 c1 c23)
    by_cases c24 : o_and (h 1000 x3.toNat) 63 = 22
    · refine r_swi (t := 955) f_380_33 22 c24 (by decide) rfl rfl ?_
      exact (k26 c1 c24)
    by_cases c25 : o_and (h 1000 x3.toNat) 63 = 23
    · refine r_swi (t := 968) f_380_33 23 c25 (by decide) rfl rfl ?_
      exact (k27 c1 c25)
    by_cases c26 : o_and (h 1000 x3.toNat) 63 = 24
    · refine r_swi (t := 981) f_380_33 24 c26 (by decide) rfl rfl ?_
      exact (k28 c1 c26)
    by_cases c27 : o_and (h 1000 x3.toNat) 63 = 25
    · refine r_swi (t := 1004) f_380_33 25 c27 (by decide) rfl rfl ?_
      exact (k29 c1 c27)
    by_cases c28 : o_and (h 1000 x3.toNat) 63 = 26
    · refine r_swi (t := 1027) f_380_33 26 c28 (by decide) rfl rfl ?_
      exact (k30 c1 c28)
    by_cases c29 : o_and (h 1000 x3.toNat) 63 = 27
    · refine r_swi (t := 1050) f_380_33 27 c29 (by decide) rfl rfl ?_
      exact (k31 c1 c29)
    by_cases c30 : o_and (h 1000 x3.toNat) 63 = 28
    · refine r_swi (t := 1073) f_380_33 28 c30 (by decide) rfl rfl ?_
      exact (k32 c1 c30)
    by_cases c31 : o_and (h 1000 x3.toNat) 63 = 29
    · refine r_swi (t := 1116) f_380_33 29 c31 (by decide) rfl rfl ?_
      exact (k33 c1 c31)
    by_cases c32 : o_and (h 1000 x3.toNat) 63 = 30
    · refine r_swi (t := 1129) f_380_33 30 c32 (by decide) rfl rfl ?_
      exact (k34 c1 c32)
    by_cases c33 : o_and (h 1000 x3.toNat) 63 = 31
    · refine r_swi (t := 1152) f_380_33 31 c33 (by decide) rfl rfl ?_
      exact (k35 c1 c33)
    by_cases c34 : o_and (h 1000 x3.toNat) 63 = 32
    · refine r_swi (t := 1195) f_380_33 32 c34 (by decide) rfl rfl ?_
      exact (k36 c1 c34)
    by_cases c35 : o_and (h 1000 x3.toNat) 63 = 33
    · refine r_swi (t := 1228) f_380_33 33 c35 (by decide) rfl rfl ?_
      exact (k37 c1 c35)
    by_cases c36 : o_and (h 1000 x3.toNat) 63 = 34
    · refine r_swi (t := 1251) f_380_33 34 c36 (by decide) rfl rfl ?_
      exact (k38 c1 c36)
    by_cases c37 : o_and (h 1000 x3.toNat) 63 = 35
    · refine r_swi (t := 1274) f_380_33 35 c37 (by decide) rfl rfl ?_
      exact (k39 c1 c37)
    by_cases c38 : o_and (h 1000 x3.toNat) 63 = 36
    · refine r_swi (t := 1297) f_380_33 36 c38 (by decide) rfl rfl ?_
      exact (k40 c1 c38)
    by_cases c39 : o_and (h 1000 x3.toNat) 63 = 37
    · refine r_swi (t := 1320) f_380_33 37 c39 (by decide) rfl rfl ?_
      exact (k41 c1 c39)
    by_cases c40 : o_and (h 1000 x3.toNat) 63 = 38
    · refine r_swi (t := 1353) f_380_33 38 c40 (by decide) rfl rfl ?_
      exact (k42 c1 c40)
    by_cases c41 : o_and (h 1000 x3.toNat) 63 = 39
    · refine r_swi (t := 1376) f_380_33 39 c41 (by decide) rfl rfl ?_
      exact (k43 c1 c41)
    by_cases c42 : o_and (h 1000 x3.toNat) 63 = 40
    · refine r_swi (t := 1429) f_380_33 40 c42 (by decide) rfl rfl ?_
      exact (k44 c1 c42)
    by_cases c43 : o_and (h 1000 x3.toNat) 63 = 41
    · refine r_swi (t := 1472) f_380_33 41 c43 (by decide) rfl rfl ?_
      exact (k45 c1 c43)
    by_cases c44 : o_and (h 1000 x3.toNat) 63 = 42
    · refine r_swi (t := 1515) f_380_33 42 c44 (by decide) rfl rfl ?_
      exact (k46 c1 c44)
    by_cases c45 : o_and (h 1000 x3.toNat) 63 = 43
    · refine r_swi (t := 1538) f_380_33 43 c45 (by decide) rfl rfl ?_
      exact (k47 c1 c45)
    by_cases c46 : o_and (h 1000 x3.toNat) 63 = 44
    · refine r_swi (t := 1561) f_380_33 44 c46 (by decide) rfl rfl ?_
      exact (k48 c1 c46)
    by_cases c47 : o_and (h 1000 x3.toNat) 63 = 45
    · refine r_swi (t := 1584) f_380_33 45 c47 (by decide) rfl rfl ?_
      exact (k49 c1 c47)
    by_cases c48 : o_and (h 1000 x3.toNat) 63 = 46
    · refine r_swi (t := 1607) f_380_33 46 c48 (by decide) rfl rfl ?_
      exact (k50 c1 c48)
    by_cases c49 : o_and (h 1000 x3.toNat) 63 = 47
    · refine r_swi (t := 1640) f_380_33 47 c49 (by decide) rfl rfl ?_
      exact (k51 c1 c49)
    by_cases c50 : o_and (h 1000 x3.toNat) 63 = 48
    · refine r_swi (t := 1683) f_380_33 48 c50 (by decide) rfl rfl ?_
      exact (k52 c1 c50)
    by_cases c51 : o_and (h 1000 x3.toNat) 63 = 49
    · refine r_swi (t := 1716) f_380_33 49 c51 (by decide) rfl rfl ?_
      exact (k53 c1 c51)
    by_cases c52 : o_and (h 1000 x3.toNat) 63 = 50
    · refine r_swi (t := 1759) f_380_33 50 c52 (by decide) rfl rfl ?_
      exact (k54 c1 c52)
    by_cases c53 : o_and (h 1000 x3.toNat) 63 = 51
    · refine r_swi (t := 1792) f_380_33 51 c53 (by decide) rfl rfl ?_
      exact (k55 c1 c53)
    by_cases c54 : o_and (h 1000 x3.toNat) 63 = 52
    · refine r_swi (t := 1825) f_380_33 52 c54 (by decide) rfl rfl ?_
      exact (k56 c1 c54)
    by_cases c55 : o_and (h 1000 x3.toNat) 63 = 53
    · refine r_swi (t := 1868) f_380_33 53 c55 (by decide) rfl rfl ?_
      exact (k57 c1 c55)
    by_cases c56 : o_and (h 1000 x3.toNat) 63 = 54
    · refine r_swi (t := 1892) f_380_33 54 c56 (by decide) rfl rfl ?_
      exact (k58 c1 c56)
    by_cases c57 : o_and (h 1000 x3.toNat) 63 = 55
    · refine r_swi (t := 1915) f_380_33 55 c57 (by decide) rfl rfl ?_
      exact (k59 c1 c57)
    by_cases c58 : o_and (h 1000 x3.toNat) 63 = 56
    · refine r_swi (t := 1938) f_380_33 56 c58 (by decide) rfl rfl ?_
      exact (k60 c1 c58)
    by_cases c59 : o_and (h 1000 x3.toNat) 63 = 57
    · refine r_swi (t := 1961) f_380_33 57 c59 (by decide) rfl rfl ?_
      exact (k61 c1 c59)
    by_cases c60 : o_and (h 1000 x3.toNat) 63 = 58
    · refine r_swi (t := 1984) f_380_33 58 c60 (by decide) rfl rfl ?_
      exact (k62 c1 c60)
    by_cases c61 : o_and (h 1000 x3.toNat) 63 = 59
    · refine r_swi (t := 2007) f_380_33 59 c61 (by decide) rfl rfl ?_
      exact (k63 c1 c61)
    by_cases c62 : o_and (h 1000 x3.toNat) 63 = 60
    · refine r_swi (t := 2050) f_380_33 60 c62 (by decide) rfl rfl ?_
      exact (k64 c1 c62)
    by_cases c63 : o_and (h 1000 x3.toNat) 63 = 61
    · refine r_swi (t := 2063) f_380_33 61 c63 (by decide) rfl rfl ?_
      exact (k65 c1 c63)
    refine r_swo (t := 2076) f_380_33 (by omega) rfl ?_
    exact (k66 c1 c2 c3 c4 c5 c6 c7 c8 c9 c10 c11 c12 c13 c14 c15 c16 c17 c18 c19 c20 c21 c22 c23 c24 c25 c26 c27 c28 c29 c30 c31 c32 c33 c34 c35 c36 c37 c38 c39 c40 c41 c42 c43 c44 c45 c46 c47 c48 c49 c50 c51 c52 c53 c54 c55 c56 c57 c58 c59 c60 c61 c62 c63)

theorem g_L_law_296 {Q : PQ} {h : HP} {x3 : Int} 
    (k1 : Wp true i_C_status 0 [vr 0] [] h (fun r h' => Wp true i_L_law 300 [vr 1000, vr 0, vr 103, vi x3] (r.toList ++ []) h' Q)) :
    Wp true i_L_law 296 [vr 1000, vr 0, vr 103, vi x3] [] h Q := by
  refine r_aload_n (v := 0) f_380_296 rfl (by decide) ?_
  exact r_callv (as := [vr 0]) (st' := []) (ls0 := [vr 0]) f_380_297 (by decide) rfl rfl (Nat.le_of_ble_eq_true rfl) (Nat.le_of_ble_eq_true rfl) ⟨_, _, rfl, rfl⟩ rfl k1

theorem g_L_law_300 {Q : PQ} {h : HP} {x3 : Int} {s0 : Int} 
    (k1 : Wp true i_M_status 0 [vr 103] [] h (fun r h' => Wp true i_L_law 304 [vr 1000, vr 0, vr 103, vi x3] (r.toList ++ [vi s0]) h' Q)) :
    Wp true i_L_law 300 [vr 1000, vr 0, vr 103, vi x3] [vi s0] h Q := by
  refine r_aload_n (v := 103) f_380_300 rfl (by decide) ?_
  exact r_callv (as := [vr 103]) (st' := [vi s0]) (ls0 := [vr 103]) f_380_301 (by decide) rfl rfl (Nat.le_of_ble_eq_true rfl) (Nat.le_of_ble_eq_true rfl) ⟨_, _, rfl, rfl⟩ rfl k1

theorem g_L_law_304 {Q : PQ} {h : HP} {x3 : Int} {s0 : Int} {s1 : Int} 
    (k1 : s0 = s1 → Wp true i_L_law 2076 [vr 1000, vr 0, vr 103, vi x3] [] h Q)
    (k2 : ¬ s0 = s1 → Q (some (vi 0)) h) :
    Wp true i_L_law 304 [vr 1000, vr 0, vr 103, vi x3] [vi s1, vi s0] h Q := by
  refine r_br2 (t := 2076) f_380_304 rfl cb_eq (fun c1 => ?_) (fun c1 => ?_)
  · exact (k1 c1)
  · refine r_iconst f_380_307 (by decide) ?_
    exact r_retz f_380_308 rfl (by decide) (k2 c1)

theorem g_L_law_309 {Q : PQ} {h : HP} {x3 : Int} 
    (k1 : Wp true i_C_top 0 [vr 0] [] h (fun r h' => Wp true i_L_law 313 [vr 1000, vr 0, vr 103, vi x3] (r.toList ++ []) h' Q)) :
    Wp true i_L_law 309 [vr 1000, vr 0, vr 103, vi x3] [] h Q := by
  refine r_aload_n (v := 0) f_380_309 rfl (by decide) ?_
  exact r_callv (as := [vr 0]) (st' := []) (ls0 := [vr 0]) f_380_310 (by decide) rfl rfl (Nat.le_of_ble_eq_true rfl) (Nat.le_of_ble_eq_true rfl) ⟨_, _, rfl, rfl⟩ rfl k1

theorem g_L_law_313 {Q : PQ} {h : HP} {x3 : Int} {s0 : Int} 
    (k1 : Wp true i_M_top 0 [vr 103] [] h (fun r h' => Wp true i_L_law 317 [vr 1000, vr 0, vr 103, vi x3] (r.toList ++ [vj s0]) h' Q)) :
    Wp true i_L_law 313 [vr 1000, vr 0, vr 103, vi x3] [vj s0] h Q := by
  refine r_aload_n (v := 103) f_380_313 rfl (by decide) ?_
  exact r_callv (as := [vr 103]) (st' := [vj s0]) (ls0 := [vr 103]) f_380_314 (by decide) rfl rfl (Nat.le_of_ble_eq_true rfl) (Nat.le_of_ble_eq_true rfl) ⟨_, _, rfl, rfl⟩ rfl k1

theorem g_L_law_317 {Q : PQ} {h : HP} {x3 : Int} {s0 : Int} {s1 : Int} 
    (k1 : s0 = s1 → Wp true i_L_law 2076 [vr 1000, vr 0, vr 103, vi x3] [] h Q)
    (k2 : ¬ s0 = s1 → Q (some (vi 0)) h) :
    Wp true i_L_law 317 [vr 1000, vr 0, vr 103, vi x3] [vj s1, vj s0] h Q := by
  refine r_lcmp f_380_317 ?_
  refine r_br (t := 2076) f_380_318 rfl lc_eq (fun c1 => ?_) (fun c1 => ?_)
  · exact (k1 c1)
  · refine r_iconst f_380_321 (by decide) ?_
    exact r_retz f_380_322 rfl (by decide) (k2 c1)

theorem g_L_law_323 {Q : PQ} {h : HP} {x3 : Int} 
    (k1 : Wp true i_C_bottom 0 [vr 0] [] h (fun r h' => Wp true i_L_law 327 [vr 1000, vr 0, vr 103, vi x3] (r.toList ++ []) h' Q)) :
    Wp true i_L_law 323 [vr 1000, vr 0, vr 103, vi x3] [] h Q := by
  refine r_aload_n (v := 0) f_380_323 rfl (by decide) ?_
  exact r_callv (as := [vr 0]) (st' := []) (ls0 := [vr 0]) f_380_324 (by decide) rfl rfl (Nat.le_of_ble_eq_true rfl) (Nat.le_of_ble_eq_true rfl) ⟨_, _, rfl, rfl⟩ rfl k1

theorem g_L_law_327 {Q : PQ} {h : HP} {x3 : Int} {s0 : Int} 
    (k1 : Wp true i_M_bottom 0 [vr 103] [] h (fun r h' => Wp true i_L_law 331 [vr 1000, vr 0, vr 103, vi x3] (r.toList ++ [vj s0]) h' Q)) :
    Wp true i_L_law 327 [vr 1000, vr 0, vr 103, vi x3] [vj s0] h Q := by
  refine r_aload_n (v := 103) f_380_327 rfl (by decide) ?_
  exact r_callv (as := [vr 103]) (st' := [vj s0]) (ls0 := [vr 103]) f_380_328 (by decide) rfl rfl (Nat.le_of_ble_eq_true rfl) (Nat.le_of_ble_eq_true rfl) ⟨_, _, rfl, rfl⟩ rfl k1

theorem g_L_law_331 {Q : PQ} {h : HP} {x3 : Int} {s0 : Int} {s1 : Int} 
    (k1 : s0 = s1 → Wp true i_L_law 2076 [vr 1000, vr 0, vr 103, vi x3] [] h Q)
    (k2 : ¬ s0 = s1 → Q (some (vi 0)) h) :
    Wp true i_L_law 331 [vr 1000, vr 0, vr 103, vi x3] [vj s1, vj s0] h Q := by
  refine r_lcmp f_380_331 ?_
  refine r_br (t := 2076) f_380_332 rfl lc_eq (fun c1 => ?_) (fun c1 => ?_)
  · exact (k1 c1)
  · refine r_iconst f_380_335 (by decide) ?_
    exact r_retz f_380_336 rfl (by decide) (k2 c1)

theorem g_L_law_337 {Q : PQ} {h : HP} {x3 : Int} 
    (o1 : -2147483648 ≤ x3 + 1 ∧ x3 + 1 ≤ 2147483647)
    (o2 : 0 ≤ x3 + 1 ∧ x3 + 1 < h 1001 0)
    (o3 : -2147483648 ≤ x3 + 2 ∧ x3 + 2 ≤ 2147483647)
    (o4 : 0 ≤ x3 + 2 ∧ x3 + 2 < h 1001 0)
    (o5 : -2147483648 ≤ x3 + 3 ∧ x3 + 3 ≤ 2147483647)
    (o6 : 0 ≤ x3 + 3 ∧ x3 + 3 < h 1001 0)
    (k7 : Wp true i_C_tray 0 [vr 0, vi (h 1000 (x3 + 1).toNat), vi (h 1000 (x3 + 2).toNat), vi (h 1000 (x3 + 3).toNat)] [] h (fun r h' => Wp true i_L_law 356 [vr 1000, vr 0, vr 103, vi x3] (r.toList ++ []) h' Q)) :
    Wp true i_L_law 337 [vr 1000, vr 0, vr 103, vi x3] [] h Q := by
  refine r_aload_n (v := 0) f_380_337 rfl (by decide) ?_
  refine r_aload_n (v := 1000) f_380_338 rfl (by decide) ?_
  refine r_iload_n (v := x3) f_380_339 rfl ?_
  refine r_iconst f_380_340 (by decide) ?_
  refine r_iadd (u := x3 + 1) f_380_341 rfl o1 ?_
  refine r_saload f_380_342 o2 ?_
  refine r_aload_n (v := 1000) f_380_343 rfl (by decide) ?_
  refine r_iload_n (v := x3) f_380_344 rfl ?_
  refine r_iconst f_380_345 (by decide) ?_
  refine r_iadd (u := x3 + 2) f_380_346 rfl o3 ?_
  refine r_saload f_380_347 o4 ?_
  refine r_aload_n (v := 1000) f_380_348 rfl (by decide) ?_
  refine r_iload_n (v := x3) f_380_349 rfl ?_
  refine r_iconst f_380_350 (by decide) ?_
  refine r_iadd (u := x3 + 3) f_380_351 rfl o5 ?_
  refine r_saload f_380_352 o6 ?_
  exact r_callv (as := [vr 0, vi (h 1000 (x3 + 1).toNat), vi (h 1000 (x3 + 2).toNat), vi (h 1000 (x3 + 3).toNat)]) (st' := []) (ls0 := [vr 0, vi (h 1000 (x3 + 1).toNat), vi (h 1000 (x3 + 2).toNat), vi (h 1000 (x3 + 3).toNat)]) f_380_353 (by decide) rfl rfl (Nat.le_of_ble_eq_true rfl) (Nat.le_of_ble_eq_true rfl) ⟨_, _, rfl, rfl⟩ rfl k7

theorem g_L_law_356 {Q : PQ} {h : HP} {x3 : Int} {s0 : Int} 
    (o1 : -2147483648 ≤ x3 + 1 ∧ x3 + 1 ≤ 2147483647)
    (o2 : 0 ≤ x3 + 1 ∧ x3 + 1 < h 1001 0)
    (o3 : -2147483648 ≤ x3 + 2 ∧ x3 + 2 ≤ 2147483647)
    (o4 : 0 ≤ x3 + 2 ∧ x3 + 2 < h 1001 0)
    (o5 : -2147483648 ≤ x3 + 3 ∧ x3 + 3 ≤ 2147483647)
    (o6 : 0 ≤ x3 + 3 ∧ x3 + 3 < h 1001 0)
    (k7 : Wp true i_M_tray 0 [vr 103, vi (h 1000 (x3 + 1).toNat), vi (h 1000 (x3 + 2).toNat), vi (h 1000 (x3 + 3).toNat), vr 9999] [] h (fun r h' => Wp true i_L_law 375 [vr 1000, vr 0, vr 103, vi x3] (r.toList ++ [vi s0]) h' Q)) :
    Wp true i_L_law 356 [vr 1000, vr 0, vr 103, vi x3] [vi s0] h Q := by
  refine r_aload_n (v := 103) f_380_356 rfl (by decide) ?_
  refine r_aload_n (v := 1000) f_380_357 rfl (by decide) ?_
  refine r_iload_n (v := x3) f_380_358 rfl ?_
  refine r_iconst f_380_359 (by decide) ?_
  refine r_iadd (u := x3 + 1) f_380_360 rfl o1 ?_
  refine r_saload f_380_361 o2 ?_
  refine r_aload_n (v := 1000) f_380_362 rfl (by decide) ?_
  refine r_iload_n (v := x3) f_380_363 rfl ?_
  refine r_iconst f_380_364 (by decide) ?_
  refine r_iadd (u := x3 + 2) f_380_365 rfl o3 ?_
  refine r_saload f_380_366 o4 ?_
  refine r_aload_n (v := 1000) f_380_367 rfl (by decide) ?_
  refine r_iload_n (v := x3) f_380_368 rfl ?_
  refine r_iconst f_380_369 (by decide) ?_
  refine r_iadd (u := x3 + 3) f_380_370 rfl o5 ?_
  refine r_saload f_380_371 o6 ?_
  exact r_callv (as := [vr 103, vi (h 1000 (x3 + 1).toNat), vi (h 1000 (x3 + 2).toNat), vi (h 1000 (x3 + 3).toNat)]) (st' := [vi s0]) (ls0 := [vr 103, vi (h 1000 (x3 + 1).toNat), vi (h 1000 (x3 + 2).toNat), vi (h 1000 (x3 + 3).toNat), vr 9999]) f_380_372 (by decide) rfl rfl (Nat.le_of_ble_eq_true rfl) (Nat.le_of_ble_eq_true rfl) ⟨_, _, rfl, rfl⟩ rfl k7

theorem g_L_law_375 {Q : PQ} {h : HP} {x3 : Int} {s0 : Int} {s1 : Int} 
    (k1 : s0 = s1 → Wp true i_L_law 2076 [vr 1000, vr 0, vr 103, vi x3] [] h Q)
    (k2 : ¬ s0 = s1 → Q (some (vi 0)) h) :
    Wp true i_L_law 375 [vr 1000, vr 0, vr 103, vi x3] [vi s1, vi s0] h Q := by
  refine r_br2 (t := 2076) f_380_375 rfl cb_eq (fun c1 => ?_) (fun c1 => ?_)
  · exact (k1 c1)
  · refine r_iconst f_380_378 (by decide) ?_
    exact r_retz f_380_379 rfl (by decide) (k2 c1)

theorem g_L_law_380 {Q : PQ} {h : HP} {x3 : Int} 
    (o1 : -2147483648 ≤ x3 + 1 ∧ x3 + 1 ≤ 2147483647)
    (o2 : 0 ≤ x3 + 1 ∧ x3 + 1 < h 1001 0)
    (o3 : -2147483648 ≤ x3 + 2 ∧ x3 + 2 ≤ 2147483647)
    (o4 : 0 ≤ x3 + 2 ∧ x3 + 2 < h 1001 0)
    (o5 : -2147483648 ≤ x3 + 3 ∧ x3 + 3 ≤ 2147483647)
    (o6 : 0 ≤ x3 + 3 ∧ x3 + 3 < h 1001 0)
    (o7 : -2147483648 ≤ x3 + 4 ∧ x3 + 4 ≤ 2147483647)
    (o8 : 0 ≤ x3 + 4 ∧ x3 + 4 < h 1001 0)
    (k9 : Wp true i_C_write 0 [vr 0, vi (h 1000 (x3 + 1).toNat), vi (h 1000 (x3 + 2).toNat), vj (o_lor (o_lshl (h 1000 (x3 + 3).toNat) 32) (o_land (h 1000 (x3 + 4).toNat) 4294967295)), vr 9999, vr 9999] [] h (fun r h' => Wp true i_L_law 414 [vr 1000, vr 0, vr 103, vi x3] (r.toList ++ []) h' Q)) :
    Wp true i_L_law 380 [vr 1000, vr 0, vr 103, vi x3] [] h Q := by
  refine r_aload_n (v := 0) f_380_380 rfl (by decide) ?_
  refine r_aload_n (v := 1000) f_380_381 rfl (by decide) ?_
  refine r_iload_n (v := x3) f_380_382 rfl ?_
  refine r_iconst f_380_383 (by decide) ?_
  refine r_iadd (u := x3 + 1) f_380_384 rfl o1 ?_
  refine r_saload f_380_385 o2 ?_
  refine r_aload_n (v := 1000) f_380_386 rfl (by decide) ?_
  refine r_iload_n (v := x3) f_380_387 rfl ?_
  refine r_iconst f_380_388 (by decide) ?_
  refine r_iadd (u := x3 + 2) f_380_389 rfl o3 ?_
  refine r_saload f_380_390 o4 ?_
  refine r_aload_n (v := 1000) f_380_391 rfl (by decide) ?_
  refine r_iload_n (v := x3) f_380_392 rfl ?_
  refine r_iconst f_380_393 (by decide) ?_
  refine r_iadd (u := x3 + 3) f_380_394 rfl o5 ?_
  refine r_saload f_380_395 o6 ?_
  refine r_i2l f_380_396 ?_
  refine r_bipush f_380_397 (by decide) ?_
  refine r_lshl f_380_399 ?_
  refine r_aload_n (v := 1000) f_380_400 rfl (by decide) ?_
  refine r_iload_n (v := x3) f_380_401 rfl ?_
  refine r_iconst f_380_402 (by decide) ?_
  refine r_iadd (u := x3 + 4) f_380_403 rfl o7 ?_
  refine r_saload f_380_404 o8 ?_
  refine r_i2l f_380_405 ?_
  refine r_ldc2_w f_380_406 (by decide) ?_
  refine r_land f_380_409 ?_
  refine r_lor f_380_410 ?_
  exact r_callv (as := [vr 0, vi (h 1000 (x3 + 1).toNat), vi (h 1000 (x3 + 2).toNat), vj (o_lor (o_lshl (h 1000 (x3 + 3).toNat) 32) (o_land (h 1000 (x3 + 4).toNat) 4294967295))]) (st' := []) (ls0 := [vr 0, vi (h 1000 (x3 + 1).toNat), vi (h 1000 (x3 + 2).toNat), vj (o_lor (o_lshl (h 1000 (x3 + 3).toNat) 32) (o_land (h 1000 (x3 + 4).toNat) 4294967295)), vr 9999, vr 9999]) f_380_411 (by decide) rfl rfl (Nat.le_of_ble_eq_true rfl) (Nat.le_of_ble_eq_true rfl) ⟨_, _, rfl, rfl⟩ rfl k9

theorem g_L_law_414 {Q : PQ} {h : HP} {x3 : Int} {s0 : Int} 
    (o1 : -2147483648 ≤ x3 + 1 ∧ x3 + 1 ≤ 2147483647)
    (o2 : 0 ≤ x3 + 1 ∧ x3 + 1 < h 1001 0)
    (o3 : -2147483648 ≤ x3 + 2 ∧ x3 + 2 ≤ 2147483647)
    (o4 : 0 ≤ x3 + 2 ∧ x3 + 2 < h 1001 0)
    (o5 : -2147483648 ≤ x3 + 3 ∧ x3 + 3 ≤ 2147483647)
    (o6 : 0 ≤ x3 + 3 ∧ x3 + 3 < h 1001 0)
    (o7 : -2147483648 ≤ x3 + 4 ∧ x3 + 4 ≤ 2147483647)
    (o8 : 0 ≤ x3 + 4 ∧ x3 + 4 < h 1001 0)
    (k9 : Wp true i_M_write 0 [vr 103, vi (h 1000 (x3 + 1).toNat), vi (h 1000 (x3 + 2).toNat), vj (o_lor (o_lshl (h 1000 (x3 + 3).toNat) 32) (o_land (h 1000 (x3 + 4).toNat) 4294967295)), vr 9999, vr 9999] [] h (fun r h' => Wp true i_L_law 448 [vr 1000, vr 0, vr 103, vi x3] (r.toList ++ [vi s0]) h' Q)) :
    Wp true i_L_law 414 [vr 1000, vr 0, vr 103, vi x3] [vi s0] h Q := by
  refine r_aload_n (v := 103) f_380_414 rfl (by decide) ?_
  refine r_aload_n (v := 1000) f_380_415 rfl (by decide) ?_
  refine r_iload_n (v := x3) f_380_416 rfl ?_
  refine r_iconst f_380_417 (by decide) ?_
  refine r_iadd (u := x3 + 1) f_380_418 rfl o1 ?_
  refine r_saload f_380_419 o2 ?_
  refine r_aload_n (v := 1000) f_380_420 rfl (by decide) ?_
  refine r_iload_n (v := x3) f_380_421 rfl ?_
  refine r_iconst f_380_422 (by decide) ?_
  refine r_iadd (u := x3 + 2) f_380_423 rfl o3 ?_
  refine r_saload f_380_424 o4 ?_
  refine r_aload_n (v := 1000) f_380_425 rfl (by decide) ?_
  refine r_iload_n (v := x3) f_380_426 rfl ?_
  refine r_iconst f_380_427 (by decide) ?_
  refine r_iadd (u := x3 + 3) f_380_428 rfl o5 ?_
  refine r_saload f_380_429 o6 ?_
  refine r_i2l f_380_430 ?_
  refine r_bipush f_380_431 (by decide) ?_
  refine r_lshl f_380_433 ?_
  refine r_aload_n (v := 1000) f_380_434 rfl (by decide) ?_
  refine r_iload_n (v := x3) f_380_435 rfl ?_
  refine r_iconst f_380_436 (by decide) ?_
  refine r_iadd (u := x3 + 4) f_380_437 rfl o7 ?_
  refine r_saload f_380_438 o8 ?_
  refine r_i2l f_380_439 ?_
  refine r_ldc2_w f_380_440 (by decide) ?_
  refine r_land f_380_443 ?_
  refine r_lor f_380_444 ?_
  exact r_callv (as := [vr 103, vi (h 1000 (x3 + 1).toNat), vi (h 1000 (x3 + 2).toNat), vj (o_lor (o_lshl (h 1000 (x3 + 3).toNat) 32) (o_land (h 1000 (x3 + 4).toNat) 4294967295))]) (st' := [vi s0]) (ls0 := [vr 103, vi (h 1000 (x3 + 1).toNat), vi (h 1000 (x3 + 2).toNat), vj (o_lor (o_lshl (h 1000 (x3 + 3).toNat) 32) (o_land (h 1000 (x3 + 4).toNat) 4294967295)), vr 9999, vr 9999]) f_380_445 (by decide) rfl rfl (Nat.le_of_ble_eq_true rfl) (Nat.le_of_ble_eq_true rfl) ⟨_, _, rfl, rfl⟩ rfl k9

theorem g_L_law_448 {Q : PQ} {h : HP} {x3 : Int} {s0 : Int} {s1 : Int} 
    (k1 : s0 = s1 → Wp true i_L_law 2076 [vr 1000, vr 0, vr 103, vi x3] [] h Q)
    (k2 : ¬ s0 = s1 → Q (some (vi 0)) h) :
    Wp true i_L_law 448 [vr 1000, vr 0, vr 103, vi x3] [vi s1, vi s0] h Q := by
  refine r_br2 (t := 2076) f_380_448 rfl cb_eq (fun c1 => ?_) (fun c1 => ?_)
  · exact (k1 c1)
  · refine r_iconst f_380_451 (by decide) ?_
    exact r_retz f_380_452 rfl (by decide) (k2 c1)

theorem g_L_law_453 {Q : PQ} {h : HP} {x3 : Int} 
    (o1 : -2147483648 ≤ x3 + 1 ∧ x3 + 1 ≤ 2147483647)
    (o2 : 0 ≤ x3 + 1 ∧ x3 + 1 < h 1001 0)
    (o3 : -2147483648 ≤ x3 + 2 ∧ x3 + 2 ≤ 2147483647)
    (o4 : 0 ≤ x3 + 2 ∧ x3 + 2 < h 1001 0)
    (k5 : Wp true i_C_read 0 [vr 0, vi (h 1000 (x3 + 1).toNat), vi (h 1000 (x3 + 2).toNat), vr 9999] [] h (fun r h' => Wp true i_L_law 467 [vr 1000, vr 0, vr 103, vi x3] (r.toList ++ []) h' Q)) :
    Wp true i_L_law 453 [vr 1000, vr 0, vr 103, vi x3] [] h Q := by
  refine r_aload_n (v := 0) f_380_453 rfl (by decide) ?_
  refine r_aload_n (v := 1000) f_380_454 rfl (by decide) ?_
  refine r_iload_n (v := x3) f_380_455 rfl ?_
  refine r_iconst f_380_456 (by decide) ?_
  refine r_iadd (u := x3 + 1) f_380_457 rfl o1 ?_
  refine r_saload f_380_458 o2 ?_
  refine r_aload_n (v := 1000) f_380_459 rfl (by decide) ?_
  refine r_iload_n (v := x3) f_380_460 rfl ?_
  refine r_iconst f_380_461 (by decide) ?_
  refine r_iadd (u := x3 + 2) f_380_462 rfl o3 ?_
  refine r_saload f_380_463 o4 ?_
  exact r_callv (as := [vr 0, vi (h 1000 (x3 + 1).toNat), vi (h 1000 (x3 + 2).toNat)]) (st' := []) (ls0 := [vr 0, vi (h 1000 (x3 + 1).toNat), vi (h 1000 (x3 + 2).toNat), vr 9999]) f_380_464 (by decide) rfl rfl (Nat.le_of_ble_eq_true rfl) (Nat.le_of_ble_eq_true rfl) ⟨_, _, rfl, rfl⟩ rfl k5

theorem g_L_law_467 {Q : PQ} {h : HP} {x3 : Int} {s0 : Int} 
    (o1 : -2147483648 ≤ x3 + 1 ∧ x3 + 1 ≤ 2147483647)
    (o2 : 0 ≤ x3 + 1 ∧ x3 + 1 < h 1001 0)
    (o3 : -2147483648 ≤ x3 + 2 ∧ x3 + 2 ≤ 2147483647)
    (o4 : 0 ≤ x3 + 2 ∧ x3 + 2 < h 1001 0)
    (k5 : Wp true i_M_read 0 [vr 103, vi (h 1000 (x3 + 1).toNat), vi (h 1000 (x3 + 2).toNat)] [] h (fun r h' => Wp true i_L_law 481 [vr 1000, vr 0, vr 103, vi x3] (r.toList ++ [vj s0]) h' Q)) :
    Wp true i_L_law 467 [vr 1000, vr 0, vr 103, vi x3] [vj s0] h Q := by
  refine r_aload_n (v := 103) f_380_467 rfl (by decide) ?_
  refine r_aload_n (v := 1000) f_380_468 rfl (by decide) ?_
  refine r_iload_n (v := x3) f_380_469 rfl ?_
  refine r_iconst f_380_470 (by decide) ?_
  refine r_iadd (u := x3 + 1) f_380_471 rfl o1 ?_
  refine r_saload f_380_472 o2 ?_
  refine r_aload_n (v := 1000) f_380_473 rfl (by decide) ?_
  refine r_iload_n (v := x3) f_380_474 rfl ?_
  refine r_iconst f_380_475 (by decide) ?_
  refine r_iadd (u := x3 + 2) f_380_476 rfl o3 ?_
  refine r_saload f_380_477 o4 ?_
  exact r_callv (as := [vr 103, vi (h 1000 (x3 + 1).toNat), vi (h 1000 (x3 + 2).toNat)]) (st' := [vj s0]) (ls0 := [vr 103, vi (h 1000 (x3 + 1).toNat), vi (h 1000 (x3 + 2).toNat)]) f_380_478 (by decide) rfl rfl (Nat.le_of_ble_eq_true rfl) (Nat.le_of_ble_eq_true rfl) ⟨_, _, rfl, rfl⟩ rfl k5

theorem g_L_law_481 {Q : PQ} {h : HP} {x3 : Int} {s0 : Int} {s1 : Int} 
    (k1 : s0 = s1 → Wp true i_L_law 2076 [vr 1000, vr 0, vr 103, vi x3] [] h Q)
    (k2 : ¬ s0 = s1 → Q (some (vi 0)) h) :
    Wp true i_L_law 481 [vr 1000, vr 0, vr 103, vi x3] [vj s1, vj s0] h Q := by
  refine r_lcmp f_380_481 ?_
  refine r_br (t := 2076) f_380_482 rfl lc_eq (fun c1 => ?_) (fun c1 => ?_)
  · exact (k1 c1)
  · refine r_iconst f_380_485 (by decide) ?_
    exact r_retz f_380_486 rfl (by decide) (k2 c1)

theorem g_L_law_487 {Q : PQ} {h : HP} {x3 : Int} 
    (o1 : -2147483648 ≤ x3 + 1 ∧ x3 + 1 ≤ 2147483647)
    (o2 : 0 ≤ x3 + 1 ∧ x3 + 1 < h 1001 0)
    (o3 : -2147483648 ≤ x3 + 2 ∧ x3 + 2 ≤ 2147483647)
    (o4 : 0 ≤ x3 + 2 ∧ x3 + 2 < h 1001 0)
    (o5 : -2147483648 ≤ x3 + 3 ∧ x3 + 3 ≤ 2147483647)
    (o6 : 0 ≤ x3 + 3 ∧ x3 + 3 < h 1001 0)
    (o7 : -2147483648 ≤ x3 + 4 ∧ x3 + 4 ≤ 2147483647)
    (o8 : 0 ≤ x3 + 4 ∧ x3 + 4 < h 1001 0)
    (o9 : -2147483648 ≤ x3 + 5 ∧ x3 + 5 ≤ 2147483647)
    (o10 : 0 ≤ x3 + 5 ∧ x3 + 5 < h 1001 0)
    (k11 : Wp true i_C_pour 0 [vr 0, vi (h 1000 (x3 + 1).toNat), vi (h 1000 (x3 + 2).toNat), vi (h 1000 (x3 + 3).toNat), vi (h 1000 (x3 + 4).toNat), vi (h 1000 (x3 + 5).toNat)] [] h (fun r h' => Wp true i_L_law 516 [vr 1000, vr 0, vr 103, vi x3] (r.toList ++ []) h' Q)) :
    Wp true i_L_law 487 [vr 1000, vr 0, vr 103, vi x3] [] h Q := by
  refine r_aload_n (v := 0) f_380_487 rfl (by decide) ?_
  refine r_aload_n (v := 1000) f_380_488 rfl (by decide) ?_
  refine r_iload_n (v := x3) f_380_489 rfl ?_
  refine r_iconst f_380_490 (by decide) ?_
  refine r_iadd (u := x3 + 1) f_380_491 rfl o1 ?_
  refine r_saload f_380_492 o2 ?_
  refine r_aload_n (v := 1000) f_380_493 rfl (by decide) ?_
  refine r_iload_n (v := x3) f_380_494 rfl ?_
  refine r_iconst f_380_495 (by decide) ?_
  refine r_iadd (u := x3 + 2) f_380_496 rfl o3 ?_
  refine r_saload f_380_497 o4 ?_
  refine r_aload_n (v := 1000) f_380_498 rfl (by decide) ?_
  refine r_iload_n (v := x3) f_380_499 rfl ?_
  refine r_iconst f_380_500 (by decide) ?_
  refine r_iadd (u := x3 + 3) f_380_501 rfl o5 ?_
  refine r_saload f_380_502 o6 ?_
  refine r_aload_n (v := 1000) f_380_503 rfl (by decide) ?_
  refine r_iload_n (v := x3) f_380_504 rfl ?_
  refine r_iconst f_380_505 (by decide) ?_
  refine r_iadd (u := x3 + 4) f_380_506 rfl o7 ?_
  refine r_saload f_380_507 o8 ?_
  refine r_aload_n (v := 1000) f_380_508 rfl (by decide) ?_
  refine r_iload_n (v := x3) f_380_509 rfl ?_
  refine r_iconst f_380_510 (by decide) ?_
  refine r_iadd (u := x3 + 5) f_380_511 rfl o9 ?_
  refine r_saload f_380_512 o10 ?_
  exact r_callv (as := [vr 0, vi (h 1000 (x3 + 1).toNat), vi (h 1000 (x3 + 2).toNat), vi (h 1000 (x3 + 3).toNat), vi (h 1000 (x3 + 4).toNat), vi (h 1000 (x3 + 5).toNat)]) (st' := []) (ls0 := [vr 0, vi (h 1000 (x3 + 1).toNat), vi (h 1000 (x3 + 2).toNat), vi (h 1000 (x3 + 3).toNat), vi (h 1000 (x3 + 4).toNat), vi (h 1000 (x3 + 5).toNat)]) f_380_513 (by decide) rfl rfl (Nat.le_of_ble_eq_true rfl) (Nat.le_of_ble_eq_true rfl) ⟨_, _, rfl, rfl⟩ rfl k11

theorem g_L_law_516 {Q : PQ} {h : HP} {x3 : Int} {s0 : Int} 
    (o1 : -2147483648 ≤ x3 + 1 ∧ x3 + 1 ≤ 2147483647)
    (o2 : 0 ≤ x3 + 1 ∧ x3 + 1 < h 1001 0)
    (o3 : -2147483648 ≤ x3 + 2 ∧ x3 + 2 ≤ 2147483647)
    (o4 : 0 ≤ x3 + 2 ∧ x3 + 2 < h 1001 0)
    (o5 : -2147483648 ≤ x3 + 3 ∧ x3 + 3 ≤ 2147483647)
    (o6 : 0 ≤ x3 + 3 ∧ x3 + 3 < h 1001 0)
    (o7 : -2147483648 ≤ x3 + 4 ∧ x3 + 4 ≤ 2147483647)
    (o8 : 0 ≤ x3 + 4 ∧ x3 + 4 < h 1001 0)
    (o9 : -2147483648 ≤ x3 + 5 ∧ x3 + 5 ≤ 2147483647)
    (o10 : 0 ≤ x3 + 5 ∧ x3 + 5 < h 1001 0)
    (k11 : Wp true i_M_pour 0 [vr 103, vi (h 1000 (x3 + 1).toNat), vi (h 1000 (x3 + 2).toNat), vi (h 1000 (x3 + 3).toNat), vi (h 1000 (x3 + 4).toNat), vi (h 1000 (x3 + 5).toNat), vr 9999, vr 9999] [] h (fun r h' => Wp true i_L_law 545 [vr 1000, vr 0, vr 103, vi x3] (r.toList ++ [vi s0]) h' Q)) :
    Wp true i_L_law 516 [vr 1000, vr 0, vr 103, vi x3] [vi s0] h Q := by
  refine r_aload_n (v := 103) f_380_516 rfl (by decide) ?_
  refine r_aload_n (v := 1000) f_380_517 rfl (by decide) ?_
  refine r_iload_n (v := x3) f_380_518 rfl ?_
  refine r_iconst f_380_519 (by decide) ?_
  refine r_iadd (u := x3 + 1) f_380_520 rfl o1 ?_
  refine r_saload f_380_521 o2 ?_
  refine r_aload_n (v := 1000) f_380_522 rfl (by decide) ?_
  refine r_iload_n (v := x3) f_380_523 rfl ?_
  refine r_iconst f_380_524 (by decide) ?_
  refine r_iadd (u := x3 + 2) f_380_525 rfl o3 ?_
  refine r_saload f_380_526 o4 ?_
  refine r_aload_n (v := 1000) f_380_527 rfl (by decide) ?_
  refine r_iload_n (v := x3) f_380_528 rfl ?_
  refine r_iconst f_380_529 (by decide) ?_
  refine r_iadd (u := x3 + 3) f_380_530 rfl o5 ?_
  refine r_saload f_380_531 o6 ?_
  refine r_aload_n (v := 1000) f_380_532 rfl (by decide) ?_
  refine r_iload_n (v := x3) f_380_533 rfl ?_
  refine r_iconst f_380_534 (by decide) ?_
  refine r_iadd (u := x3 + 4) f_380_535 rfl o7 ?_
  refine r_saload f_380_536 o8 ?_
  refine r_aload_n (v := 1000) f_380_537 rfl (by decide) ?_
  refine r_iload_n (v := x3) f_380_538 rfl ?_
  refine r_iconst f_380_539 (by decide) ?_
  refine r_iadd (u := x3 + 5) f_380_540 rfl o9 ?_
  refine r_saload f_380_541 o10 ?_
  exact r_callv (as := [vr 103, vi (h 1000 (x3 + 1).toNat), vi (h 1000 (x3 + 2).toNat), vi (h 1000 (x3 + 3).toNat), vi (h 1000 (x3 + 4).toNat), vi (h 1000 (x3 + 5).toNat)]) (st' := [vi s0]) (ls0 := [vr 103, vi (h 1000 (x3 + 1).toNat), vi (h 1000 (x3 + 2).toNat), vi (h 1000 (x3 + 3).toNat), vi (h 1000 (x3 + 4).toNat), vi (h 1000 (x3 + 5).toNat), vr 9999, vr 9999]) f_380_542 (by decide) rfl rfl (Nat.le_of_ble_eq_true rfl) (Nat.le_of_ble_eq_true rfl) ⟨_, _, rfl, rfl⟩ rfl k11

theorem g_L_law_545 {Q : PQ} {h : HP} {x3 : Int} {s0 : Int} {s1 : Int} 
    (k1 : s0 = s1 → Wp true i_L_law 2076 [vr 1000, vr 0, vr 103, vi x3] [] h Q)
    (k2 : ¬ s0 = s1 → Q (some (vi 0)) h) :
    Wp true i_L_law 545 [vr 1000, vr 0, vr 103, vi x3] [vi s1, vi s0] h Q := by
  refine r_br2 (t := 2076) f_380_545 rfl cb_eq (fun c1 => ?_) (fun c1 => ?_)
  · exact (k1 c1)
  · refine r_iconst f_380_548 (by decide) ?_
    exact r_retz f_380_549 rfl (by decide) (k2 c1)

theorem g_L_law_550 {Q : PQ} {h : HP} {x3 : Int} 
    (o1 : -2147483648 ≤ x3 + 1 ∧ x3 + 1 ≤ 2147483647)
    (o2 : 0 ≤ x3 + 1 ∧ x3 + 1 < h 1001 0)
    (o3 : -2147483648 ≤ x3 + 2 ∧ x3 + 2 ≤ 2147483647)
    (o4 : 0 ≤ x3 + 2 ∧ x3 + 2 < h 1001 0)
    (o5 : -2147483648 ≤ x3 + 3 ∧ x3 + 3 ≤ 2147483647)
    (o6 : 0 ≤ x3 + 3 ∧ x3 + 3 < h 1001 0)
    (o7 : -2147483648 ≤ x3 + 4 ∧ x3 + 4 ≤ 2147483647)
    (o8 : 0 ≤ x3 + 4 ∧ x3 + 4 < h 1001 0)
    (o9 : -2147483648 ≤ x3 + 5 ∧ x3 + 5 ≤ 2147483647)
    (o10 : 0 ≤ x3 + 5 ∧ x3 + 5 < h 1001 0)
    (k11 : Wp true i_C_feed 0 [vr 0, vi (h 1000 (x3 + 1).toNat), vi (h 1000 (x3 + 2).toNat), vi (h 1000 (x3 + 3).toNat), vi (h 1000 (x3 + 4).toNat), vi (h 1000 (x3 + 5).toNat)] [] h (fun r h' => Wp true i_L_law 579 [vr 1000, vr 0, vr 103, vi x3] (r.toList ++ []) h' Q)) :
    Wp true i_L_law 550 [vr 1000, vr 0, vr 103, vi x3] [] h Q := by
  refine r_aload_n (v := 0) f_380_550 rfl (by decide) ?_
  refine r_aload_n (v := 1000) f_380_551 rfl (by decide) ?_
  refine r_iload_n (v := x3) f_380_552 rfl ?_
  refine r_iconst f_380_553 (by decide) ?_
  refine r_iadd (u := x3 + 1) f_380_554 rfl o1 ?_
  refine r_saload f_380_555 o2 ?_
  refine r_aload_n (v := 1000) f_380_556 rfl (by decide) ?_
  refine r_iload_n (v := x3) f_380_557 rfl ?_
  refine r_iconst f_380_558 (by decide) ?_
  refine r_iadd (u := x3 + 2) f_380_559 rfl o3 ?_
  refine r_saload f_380_560 o4 ?_
  refine r_aload_n (v := 1000) f_380_561 rfl (by decide) ?_
  refine r_iload_n (v := x3) f_380_562 rfl ?_
  refine r_iconst f_380_563 (by decide) ?_
  refine r_iadd (u := x3 + 3) f_380_564 rfl o5 ?_
  refine r_saload f_380_565 o6 ?_
  refine r_aload_n (v := 1000) f_380_566 rfl (by decide) ?_
  refine r_iload_n (v := x3) f_380_567 rfl ?_
  refine r_iconst f_380_568 (by decide) ?_
  refine r_iadd (u := x3 + 4) f_380_569 rfl o7 ?_
  refine r_saload f_380_570 o8 ?_
  refine r_aload_n (v := 1000) f_380_571 rfl (by decide) ?_
  refine r_iload_n (v := x3) f_380_572 rfl ?_
  refine r_iconst f_380_573 (by decide) ?_
  refine r_iadd (u := x3 + 5) f_380_574 rfl o9 ?_
  refine r_saload f_380_575 o10 ?_
  exact r_callv (as := [vr 0, vi (h 1000 (x3 + 1).toNat), vi (h 1000 (x3 + 2).toNat), vi (h 1000 (x3 + 3).toNat), vi (h 1000 (x3 + 4).toNat), vi (h 1000 (x3 + 5).toNat)]) (st' := []) (ls0 := [vr 0, vi (h 1000 (x3 + 1).toNat), vi (h 1000 (x3 + 2).toNat), vi (h 1000 (x3 + 3).toNat), vi (h 1000 (x3 + 4).toNat), vi (h 1000 (x3 + 5).toNat)]) f_380_576 (by decide) rfl rfl (Nat.le_of_ble_eq_true rfl) (Nat.le_of_ble_eq_true rfl) ⟨_, _, rfl, rfl⟩ rfl k11

theorem g_L_law_579 {Q : PQ} {h : HP} {x3 : Int} {s0 : Int} 
    (o1 : -2147483648 ≤ x3 + 1 ∧ x3 + 1 ≤ 2147483647)
    (o2 : 0 ≤ x3 + 1 ∧ x3 + 1 < h 1001 0)
    (o3 : -2147483648 ≤ x3 + 2 ∧ x3 + 2 ≤ 2147483647)
    (o4 : 0 ≤ x3 + 2 ∧ x3 + 2 < h 1001 0)
    (o5 : -2147483648 ≤ x3 + 3 ∧ x3 + 3 ≤ 2147483647)
    (o6 : 0 ≤ x3 + 3 ∧ x3 + 3 < h 1001 0)
    (o7 : -2147483648 ≤ x3 + 4 ∧ x3 + 4 ≤ 2147483647)
    (o8 : 0 ≤ x3 + 4 ∧ x3 + 4 < h 1001 0)
    (o9 : -2147483648 ≤ x3 + 5 ∧ x3 + 5 ≤ 2147483647)
    (o10 : 0 ≤ x3 + 5 ∧ x3 + 5 < h 1001 0)
    (k11 : Wp true i_M_feed 0 [vr 103, vi (h 1000 (x3 + 1).toNat), vi (h 1000 (x3 + 2).toNat), vi (h 1000 (x3 + 3).toNat), vi (h 1000 (x3 + 4).toNat), vi (h 1000 (x3 + 5).toNat)] [] h (fun r h' => Wp true i_L_law 608 [vr 1000, vr 0, vr 103, vi x3] (r.toList ++ [vi s0]) h' Q)) :
    Wp true i_L_law 579 [vr 1000, vr 0, vr 103, vi x3] [vi s0] h Q := by
  refine r_aload_n (v := 103) f_380_579 rfl (by decide) ?_
  refine r_aload_n (v := 1000) f_380_580 rfl (by decide) ?_
  refine r_iload_n (v := x3) f_380_581 rfl ?_
  refine r_iconst f_380_582 (by decide) ?_
  refine r_iadd (u := x3 + 1) f_380_583 rfl o1 ?_
  refine r_saload f_380_584 o2 ?_
  refine r_aload_n (v := 1000) f_380_585 rfl (by decide) ?_
  refine r_iload_n (v := x3) f_380_586 rfl ?_
  refine r_iconst f_380_587 (by decide) ?_
  refine r_iadd (u := x3 + 2) f_380_588 rfl o3 ?_
  refine r_saload f_380_589 o4 ?_
  refine r_aload_n (v := 1000) f_380_590 rfl (by decide) ?_
  refine r_iload_n (v := x3) f_380_591 rfl ?_
  refine r_iconst f_380_592 (by decide) ?_
  refine r_iadd (u := x3 + 3) f_380_593 rfl o5 ?_
  refine r_saload f_380_594 o6 ?_
  refine r_aload_n (v := 1000) f_380_595 rfl (by decide) ?_
  refine r_iload_n (v := x3) f_380_596 rfl ?_
  refine r_iconst f_380_597 (by decide) ?_
  refine r_iadd (u := x3 + 4) f_380_598 rfl o7 ?_
  refine r_saload f_380_599 o8 ?_
  refine r_aload_n (v := 1000) f_380_600 rfl (by decide) ?_
  refine r_iload_n (v := x3) f_380_601 rfl ?_
  refine r_iconst f_380_602 (by decide) ?_
  refine r_iadd (u := x3 + 5) f_380_603 rfl o9 ?_
  refine r_saload f_380_604 o10 ?_
  exact r_callv (as := [vr 103, vi (h 1000 (x3 + 1).toNat), vi (h 1000 (x3 + 2).toNat), vi (h 1000 (x3 + 3).toNat), vi (h 1000 (x3 + 4).toNat), vi (h 1000 (x3 + 5).toNat)]) (st' := [vi s0]) (ls0 := [vr 103, vi (h 1000 (x3 + 1).toNat), vi (h 1000 (x3 + 2).toNat), vi (h 1000 (x3 + 3).toNat), vi (h 1000 (x3 + 4).toNat), vi (h 1000 (x3 + 5).toNat)]) f_380_605 (by decide) rfl rfl (Nat.le_of_ble_eq_true rfl) (Nat.le_of_ble_eq_true rfl) ⟨_, _, rfl, rfl⟩ rfl k11

theorem g_L_law_608 {Q : PQ} {h : HP} {x3 : Int} {s0 : Int} {s1 : Int} 
    (k1 : s0 = s1 → Wp true i_L_law 2076 [vr 1000, vr 0, vr 103, vi x3] [] h Q)
    (k2 : ¬ s0 = s1 → Q (some (vi 0)) h) :
    Wp true i_L_law 608 [vr 1000, vr 0, vr 103, vi x3] [vi s1, vi s0] h Q := by
  refine r_br2 (t := 2076) f_380_608 rfl cb_eq (fun c1 => ?_) (fun c1 => ?_)
  · exact (k1 c1)
  · refine r_iconst f_380_611 (by decide) ?_
    exact r_retz f_380_612 rfl (by decide) (k2 c1)

theorem g_L_law_613 {Q : PQ} {h : HP} {x3 : Int} 
    (o1 : -2147483648 ≤ x3 + 1 ∧ x3 + 1 ≤ 2147483647)
    (o2 : 0 ≤ x3 + 1 ∧ x3 + 1 < h 1001 0)
    (k3 : Wp true i_C_room 0 [vr 0, vi (h 1000 (x3 + 1).toNat), vr 9999] [] h (fun r h' => Wp true i_L_law 622 [vr 1000, vr 0, vr 103, vi x3] (r.toList ++ []) h' Q)) :
    Wp true i_L_law 613 [vr 1000, vr 0, vr 103, vi x3] [] h Q := by
  refine r_aload_n (v := 0) f_380_613 rfl (by decide) ?_
  refine r_aload_n (v := 1000) f_380_614 rfl (by decide) ?_
  refine r_iload_n (v := x3) f_380_615 rfl ?_
  refine r_iconst f_380_616 (by decide) ?_
  refine r_iadd (u := x3 + 1) f_380_617 rfl o1 ?_
  refine r_saload f_380_618 o2 ?_
  exact r_callv (as := [vr 0, vi (h 1000 (x3 + 1).toNat)]) (st' := []) (ls0 := [vr 0, vi (h 1000 (x3 + 1).toNat), vr 9999]) f_380_619 (by decide) rfl rfl (Nat.le_of_ble_eq_true rfl) (Nat.le_of_ble_eq_true rfl) ⟨_, _, rfl, rfl⟩ rfl k3

theorem g_L_law_622 {Q : PQ} {h : HP} {x3 : Int} {s0 : Int} 
    (o1 : -2147483648 ≤ x3 + 1 ∧ x3 + 1 ≤ 2147483647)
    (o2 : 0 ≤ x3 + 1 ∧ x3 + 1 < h 1001 0)
    (k3 : Wp true i_M_room 0 [vr 103, vi (h 1000 (x3 + 1).toNat), vr 9999, vr 9999] [] h (fun r h' => Wp true i_L_law 631 [vr 1000, vr 0, vr 103, vi x3] (r.toList ++ [vi s0]) h' Q)) :
    Wp true i_L_law 622 [vr 1000, vr 0, vr 103, vi x3] [vi s0] h Q := by
  refine r_aload_n (v := 103) f_380_622 rfl (by decide) ?_
  refine r_aload_n (v := 1000) f_380_623 rfl (by decide) ?_
  refine r_iload_n (v := x3) f_380_624 rfl ?_
  refine r_iconst f_380_625 (by decide) ?_
  refine r_iadd (u := x3 + 1) f_380_626 rfl o1 ?_
  refine r_saload f_380_627 o2 ?_
  exact r_callv (as := [vr 103, vi (h 1000 (x3 + 1).toNat)]) (st' := [vi s0]) (ls0 := [vr 103, vi (h 1000 (x3 + 1).toNat), vr 9999, vr 9999]) f_380_628 (by decide) rfl rfl (Nat.le_of_ble_eq_true rfl) (Nat.le_of_ble_eq_true rfl) ⟨_, _, rfl, rfl⟩ rfl k3

theorem g_L_law_631 {Q : PQ} {h : HP} {x3 : Int} {s0 : Int} {s1 : Int} 
    (k1 : s0 = s1 → Wp true i_L_law 2076 [vr 1000, vr 0, vr 103, vi x3] [] h Q)
    (k2 : ¬ s0 = s1 → Q (some (vi 0)) h) :
    Wp true i_L_law 631 [vr 1000, vr 0, vr 103, vi x3] [vi s1, vi s0] h Q := by
  refine r_br2 (t := 2076) f_380_631 rfl cb_eq (fun c1 => ?_) (fun c1 => ?_)
  · exact (k1 c1)
  · refine r_iconst f_380_634 (by decide) ?_
    exact r_retz f_380_635 rfl (by decide) (k2 c1)

theorem g_L_law_636 {Q : PQ} {h : HP} {x3 : Int} 
    (o1 : -2147483648 ≤ x3 + 1 ∧ x3 + 1 ≤ 2147483647)
    (o2 : 0 ≤ x3 + 1 ∧ x3 + 1 < h 1001 0)
    (k3 : Wp true i_C_talks 0 [vr 0, vi (h 1000 (x3 + 1).toNat), vr 9999] [] h (fun r h' => Wp true i_L_law 645 [vr 1000, vr 0, vr 103, vi x3] (r.toList ++ []) h' Q)) :
    Wp true i_L_law 636 [vr 1000, vr 0, vr 103, vi x3] [] h Q := by
  refine r_aload_n (v := 0) f_380_636 rfl (by decide) ?_
  refine r_aload_n (v := 1000) f_380_637 rfl (by decide) ?_
  refine r_iload_n (v := x3) f_380_638 rfl ?_
  refine r_iconst f_380_639 (by decide) ?_
  refine r_iadd (u := x3 + 1) f_380_640 rfl o1 ?_
  refine r_saload f_380_641 o2 ?_
  exact r_callv (as := [vr 0, vi (h 1000 (x3 + 1).toNat)]) (st' := []) (ls0 := [vr 0, vi (h 1000 (x3 + 1).toNat), vr 9999]) f_380_642 (by decide) rfl rfl (Nat.le_of_ble_eq_true rfl) (Nat.le_of_ble_eq_true rfl) ⟨_, _, rfl, rfl⟩ rfl k3

theorem g_L_law_645 {Q : PQ} {h : HP} {x3 : Int} {s0 : Int} 
    (o1 : -2147483648 ≤ x3 + 1 ∧ x3 + 1 ≤ 2147483647)
    (o2 : 0 ≤ x3 + 1 ∧ x3 + 1 < h 1001 0)
    (k3 : Wp true i_M_talks 0 [vr 103, vi (h 1000 (x3 + 1).toNat), vr 9999, vr 9999] [] h (fun r h' => Wp true i_L_law 654 [vr 1000, vr 0, vr 103, vi x3] (r.toList ++ [vi s0]) h' Q)) :
    Wp true i_L_law 645 [vr 1000, vr 0, vr 103, vi x3] [vi s0] h Q := by
  refine r_aload_n (v := 103) f_380_645 rfl (by decide) ?_
  refine r_aload_n (v := 1000) f_380_646 rfl (by decide) ?_
  refine r_iload_n (v := x3) f_380_647 rfl ?_
  refine r_iconst f_380_648 (by decide) ?_
  refine r_iadd (u := x3 + 1) f_380_649 rfl o1 ?_
  refine r_saload f_380_650 o2 ?_
  exact r_callv (as := [vr 103, vi (h 1000 (x3 + 1).toNat)]) (st' := [vi s0]) (ls0 := [vr 103, vi (h 1000 (x3 + 1).toNat), vr 9999, vr 9999]) f_380_651 (by decide) rfl rfl (Nat.le_of_ble_eq_true rfl) (Nat.le_of_ble_eq_true rfl) ⟨_, _, rfl, rfl⟩ rfl k3

theorem g_L_law_654 {Q : PQ} {h : HP} {x3 : Int} {s0 : Int} {s1 : Int} 
    (k1 : s0 = s1 → Wp true i_L_law 2076 [vr 1000, vr 0, vr 103, vi x3] [] h Q)
    (k2 : ¬ s0 = s1 → Q (some (vi 0)) h) :
    Wp true i_L_law 654 [vr 1000, vr 0, vr 103, vi x3] [vi s1, vi s0] h Q := by
  refine r_br2 (t := 2076) f_380_654 rfl cb_eq (fun c1 => ?_) (fun c1 => ?_)
  · exact (k1 c1)
  · refine r_iconst f_380_657 (by decide) ?_
    exact r_retz f_380_658 rfl (by decide) (k2 c1)

theorem g_L_law_659 {Q : PQ} {h : HP} {x3 : Int} 
    (o1 : -2147483648 ≤ x3 + 1 ∧ x3 + 1 ≤ 2147483647)
    (o2 : 0 ≤ x3 + 1 ∧ x3 + 1 < h 1001 0)
    (k3 : Wp true i_C_fault 0 [vr 0, vi (h 1000 (x3 + 1).toNat)] [] h (fun r h' => Wp true i_L_law 668 [vr 1000, vr 0, vr 103, vi x3] (r.toList ++ []) h' Q)) :
    Wp true i_L_law 659 [vr 1000, vr 0, vr 103, vi x3] [] h Q := by
  refine r_aload_n (v := 0) f_380_659 rfl (by decide) ?_
  refine r_aload_n (v := 1000) f_380_660 rfl (by decide) ?_
  refine r_iload_n (v := x3) f_380_661 rfl ?_
  refine r_iconst f_380_662 (by decide) ?_
  refine r_iadd (u := x3 + 1) f_380_663 rfl o1 ?_
  refine r_saload f_380_664 o2 ?_
  exact r_callv (as := [vr 0, vi (h 1000 (x3 + 1).toNat)]) (st' := []) (ls0 := [vr 0, vi (h 1000 (x3 + 1).toNat)]) f_380_665 (by decide) rfl rfl (Nat.le_of_ble_eq_true rfl) (Nat.le_of_ble_eq_true rfl) ⟨_, _, rfl, rfl⟩ rfl k3

theorem g_L_law_668 {Q : PQ} {h : HP} {x3 : Int} {s0 : Int} 
    (o1 : -2147483648 ≤ x3 + 1 ∧ x3 + 1 ≤ 2147483647)
    (o2 : 0 ≤ x3 + 1 ∧ x3 + 1 < h 1001 0)
    (k3 : Wp true i_M_fault 0 [vr 103, vi (h 1000 (x3 + 1).toNat)] [] h (fun r h' => Wp true i_L_law 677 [vr 1000, vr 0, vr 103, vi x3] (r.toList ++ [vi s0]) h' Q)) :
    Wp true i_L_law 668 [vr 1000, vr 0, vr 103, vi x3] [vi s0] h Q := by
  refine r_aload_n (v := 103) f_380_668 rfl (by decide) ?_
  refine r_aload_n (v := 1000) f_380_669 rfl (by decide) ?_
  refine r_iload_n (v := x3) f_380_670 rfl ?_
  refine r_iconst f_380_671 (by decide) ?_
  refine r_iadd (u := x3 + 1) f_380_672 rfl o1 ?_
  refine r_saload f_380_673 o2 ?_
  exact r_callv (as := [vr 103, vi (h 1000 (x3 + 1).toNat)]) (st' := [vi s0]) (ls0 := [vr 103, vi (h 1000 (x3 + 1).toNat)]) f_380_674 (by decide) rfl rfl (Nat.le_of_ble_eq_true rfl) (Nat.le_of_ble_eq_true rfl) ⟨_, _, rfl, rfl⟩ rfl k3

theorem g_L_law_677 {Q : PQ} {h : HP} {x3 : Int} {s0 : Int} {s1 : Int} 
    (k1 : s0 = s1 → Wp true i_L_law 2076 [vr 1000, vr 0, vr 103, vi x3] [] h Q)
    (k2 : ¬ s0 = s1 → Q (some (vi 0)) h) :
    Wp true i_L_law 677 [vr 1000, vr 0, vr 103, vi x3] [vi s1, vi s0] h Q := by
  refine r_br2 (t := 2076) f_380_677 rfl cb_eq (fun c1 => ?_) (fun c1 => ?_)
  · exact (k1 c1)
  · refine r_iconst f_380_680 (by decide) ?_
    exact r_retz f_380_681 rfl (by decide) (k2 c1)

theorem g_L_law_682 {Q : PQ} {h : HP} {x3 : Int} 
    (o1 : -2147483648 ≤ x3 + 1 ∧ x3 + 1 ≤ 2147483647)
    (o2 : 0 ≤ x3 + 1 ∧ x3 + 1 < h 1001 0)
    (k3 : Wp true i_C_told 0 [vr 0, vi (h 1000 (x3 + 1).toNat)] [] h (fun r h' => Wp true i_L_law 691 [vr 1000, vr 0, vr 103, vi x3] (r.toList ++ []) h' Q)) :
    Wp true i_L_law 682 [vr 1000, vr 0, vr 103, vi x3] [] h Q := by
  refine r_aload_n (v := 0) f_380_682 rfl (by decide) ?_
  refine r_aload_n (v := 1000) f_380_683 rfl (by decide) ?_
  refine r_iload_n (v := x3) f_380_684 rfl ?_
  refine r_iconst f_380_685 (by decide) ?_
  refine r_iadd (u := x3 + 1) f_380_686 rfl o1 ?_
  refine r_saload f_380_687 o2 ?_
  exact r_callv (as := [vr 0, vi (h 1000 (x3 + 1).toNat)]) (st' := []) (ls0 := [vr 0, vi (h 1000 (x3 + 1).toNat)]) f_380_688 (by decide) rfl rfl (Nat.le_of_ble_eq_true rfl) (Nat.le_of_ble_eq_true rfl) ⟨_, _, rfl, rfl⟩ rfl k3

theorem g_L_law_691 {Q : PQ} {h : HP} {x3 : Int} {s0 : Int} 
    (o1 : -2147483648 ≤ x3 + 1 ∧ x3 + 1 ≤ 2147483647)
    (o2 : 0 ≤ x3 + 1 ∧ x3 + 1 < h 1001 0)
    (k3 : Wp true i_M_told 0 [vr 103, vi (h 1000 (x3 + 1).toNat)] [] h (fun r h' => Wp true i_L_law 700 [vr 1000, vr 0, vr 103, vi x3] (r.toList ++ [vi s0]) h' Q)) :
    Wp true i_L_law 691 [vr 1000, vr 0, vr 103, vi x3] [vi s0] h Q := by
  refine r_aload_n (v := 103) f_380_691 rfl (by decide) ?_
  refine r_aload_n (v := 1000) f_380_692 rfl (by decide) ?_
  refine r_iload_n (v := x3) f_380_693 rfl ?_
  refine r_iconst f_380_694 (by decide) ?_
  refine r_iadd (u := x3 + 1) f_380_695 rfl o1 ?_
  refine r_saload f_380_696 o2 ?_
  exact r_callv (as := [vr 103, vi (h 1000 (x3 + 1).toNat)]) (st' := [vi s0]) (ls0 := [vr 103, vi (h 1000 (x3 + 1).toNat)]) f_380_697 (by decide) rfl rfl (Nat.le_of_ble_eq_true rfl) (Nat.le_of_ble_eq_true rfl) ⟨_, _, rfl, rfl⟩ rfl k3

theorem g_L_law_700 {Q : PQ} {h : HP} {x3 : Int} {s0 : Int} {s1 : Int} 
    (k1 : s0 = s1 → Wp true i_L_law 2076 [vr 1000, vr 0, vr 103, vi x3] [] h Q)
    (k2 : ¬ s0 = s1 → Q (some (vi 0)) h) :
    Wp true i_L_law 700 [vr 1000, vr 0, vr 103, vi x3] [vi s1, vi s0] h Q := by
  refine r_br2 (t := 2076) f_380_700 rfl cb_eq (fun c1 => ?_) (fun c1 => ?_)
  · exact (k1 c1)
  · refine r_iconst f_380_703 (by decide) ?_
    exact r_retz f_380_704 rfl (by decide) (k2 c1)

theorem g_L_law_705 {Q : PQ} {h : HP} {x3 : Int} 
    (o1 : -2147483648 ≤ x3 + 1 ∧ x3 + 1 ≤ 2147483647)
    (o2 : 0 ≤ x3 + 1 ∧ x3 + 1 < h 1001 0)
    (k3 : Wp true i_C_line 0 [vr 0, vi (h 1000 (x3 + 1).toNat)] [] h (fun r h' => Wp true i_L_law 714 [vr 1000, vr 0, vr 103, vi x3] (r.toList ++ []) h' Q)) :
    Wp true i_L_law 705 [vr 1000, vr 0, vr 103, vi x3] [] h Q := by
  refine r_aload_n (v := 0) f_380_705 rfl (by decide) ?_
  refine r_aload_n (v := 1000) f_380_706 rfl (by decide) ?_
  refine r_iload_n (v := x3) f_380_707 rfl ?_
  refine r_iconst f_380_708 (by decide) ?_
  refine r_iadd (u := x3 + 1) f_380_709 rfl o1 ?_
  refine r_saload f_380_710 o2 ?_
  exact r_callv (as := [vr 0, vi (h 1000 (x3 + 1).toNat)]) (st' := []) (ls0 := [vr 0, vi (h 1000 (x3 + 1).toNat)]) f_380_711 (by decide) rfl rfl (Nat.le_of_ble_eq_true rfl) (Nat.le_of_ble_eq_true rfl) ⟨_, _, rfl, rfl⟩ rfl k3

theorem g_L_law_714 {Q : PQ} {h : HP} {x3 : Int} {s0 : Int} 
    (o1 : -2147483648 ≤ x3 + 1 ∧ x3 + 1 ≤ 2147483647)
    (o2 : 0 ≤ x3 + 1 ∧ x3 + 1 < h 1001 0)
    (k3 : Wp true i_M_line 0 [vr 103, vi (h 1000 (x3 + 1).toNat)] [] h (fun r h' => Wp true i_L_law 723 [vr 1000, vr 0, vr 103, vi x3] (r.toList ++ [vi s0]) h' Q)) :
    Wp true i_L_law 714 [vr 1000, vr 0, vr 103, vi x3] [vi s0] h Q := by
  refine r_aload_n (v := 103) f_380_714 rfl (by decide) ?_
  refine r_aload_n (v := 1000) f_380_715 rfl (by decide) ?_
  refine r_iload_n (v := x3) f_380_716 rfl ?_
  refine r_iconst f_380_717 (by decide) ?_
  refine r_iadd (u := x3 + 1) f_380_718 rfl o1 ?_
  refine r_saload f_380_719 o2 ?_
  exact r_callv (as := [vr 103, vi (h 1000 (x3 + 1).toNat)]) (st' := [vi s0]) (ls0 := [vr 103, vi (h 1000 (x3 + 1).toNat)]) f_380_720 (by decide) rfl rfl (Nat.le_of_ble_eq_true rfl) (Nat.le_of_ble_eq_true rfl) ⟨_, _, rfl, rfl⟩ rfl k3

theorem g_L_law_723 {Q : PQ} {h : HP} {x3 : Int} {s0 : Int} {s1 : Int} 
    (k1 : s0 = s1 → Wp true i_L_law 2076 [vr 1000, vr 0, vr 103, vi x3] [] h Q)
    (k2 : ¬ s0 = s1 → Q (some (vi 0)) h) :
    Wp true i_L_law 723 [vr 1000, vr 0, vr 103, vi x3] [vi s1, vi s0] h Q := by
  refine r_br2 (t := 2076) f_380_723 rfl cb_eq (fun c1 => ?_) (fun c1 => ?_)
  · exact (k1 c1)
  · refine r_iconst f_380_726 (by decide) ?_
    exact r_retz f_380_727 rfl (by decide) (k2 c1)

theorem g_L_law_728 {Q : PQ} {h : HP} {x3 : Int} 
    (o1 : -2147483648 ≤ x3 + 1 ∧ x3 + 1 ≤ 2147483647)
    (o2 : 0 ≤ x3 + 1 ∧ x3 + 1 < h 1001 0)
    (o3 : -2147483648 ≤ x3 + 2 ∧ x3 + 2 ≤ 2147483647)
    (o4 : 0 ≤ x3 + 2 ∧ x3 + 2 < h 1001 0)
    (k5 : Wp true i_C_thing 0 [vr 0, vi (h 1000 (x3 + 1).toNat), vi (h 1000 (x3 + 2).toNat)] [] h (fun r h' => Wp true i_L_law 742 [vr 1000, vr 0, vr 103, vi x3] (r.toList ++ []) h' Q)) :
    Wp true i_L_law 728 [vr 1000, vr 0, vr 103, vi x3] [] h Q := by
  refine r_aload_n (v := 0) f_380_728 rfl (by decide) ?_
  refine r_aload_n (v := 1000) f_380_729 rfl (by decide) ?_
  refine r_iload_n (v := x3) f_380_730 rfl ?_
  refine r_iconst f_380_731 (by decide) ?_
  refine r_iadd (u := x3 + 1) f_380_732 rfl o1 ?_
  refine r_saload f_380_733 o2 ?_
  refine r_aload_n (v := 1000) f_380_734 rfl (by decide) ?_
  refine r_iload_n (v := x3) f_380_735 rfl ?_
  refine r_iconst f_380_736 (by decide) ?_
  refine r_iadd (u := x3 + 2) f_380_737 rfl o3 ?_
  refine r_saload f_380_738 o4 ?_
  exact r_callv (as := [vr 0, vi (h 1000 (x3 + 1).toNat), vi (h 1000 (x3 + 2).toNat)]) (st' := []) (ls0 := [vr 0, vi (h 1000 (x3 + 1).toNat), vi (h 1000 (x3 + 2).toNat)]) f_380_739 (by decide) rfl rfl (Nat.le_of_ble_eq_true rfl) (Nat.le_of_ble_eq_true rfl) ⟨_, _, rfl, rfl⟩ rfl k5

theorem g_L_law_742 {Q : PQ} {h : HP} {x3 : Int} {s0 : Int} 
    (o1 : -2147483648 ≤ x3 + 1 ∧ x3 + 1 ≤ 2147483647)
    (o2 : 0 ≤ x3 + 1 ∧ x3 + 1 < h 1001 0)
    (o3 : -2147483648 ≤ x3 + 2 ∧ x3 + 2 ≤ 2147483647)
    (o4 : 0 ≤ x3 + 2 ∧ x3 + 2 < h 1001 0)
    (k5 : Wp true i_M_thing 0 [vr 103, vi (h 1000 (x3 + 1).toNat), vi (h 1000 (x3 + 2).toNat)] [] h (fun r h' => Wp true i_L_law 756 [vr 1000, vr 0, vr 103, vi x3] (r.toList ++ [vi s0]) h' Q)) :
    Wp true i_L_law 742 [vr 1000, vr 0, vr 103, vi x3] [vi s0] h Q := by
  refine r_aload_n (v := 103) f_380_742 rfl (by decide) ?_
  refine r_aload_n (v := 1000) f_380_743 rfl (by decide) ?_
  refine r_iload_n (v := x3) f_380_744 rfl ?_
  refine r_iconst f_380_745 (by decide) ?_
  refine r_iadd (u := x3 + 1) f_380_746 rfl o1 ?_
  refine r_saload f_380_747 o2 ?_
  refine r_aload_n (v := 1000) f_380_748 rfl (by decide) ?_
  refine r_iload_n (v := x3) f_380_749 rfl ?_
  refine r_iconst f_380_750 (by decide) ?_
  refine r_iadd (u := x3 + 2) f_380_751 rfl o3 ?_
  refine r_saload f_380_752 o4 ?_
  exact r_callv (as := [vr 103, vi (h 1000 (x3 + 1).toNat), vi (h 1000 (x3 + 2).toNat)]) (st' := [vi s0]) (ls0 := [vr 103, vi (h 1000 (x3 + 1).toNat), vi (h 1000 (x3 + 2).toNat)]) f_380_753 (by decide) rfl rfl (Nat.le_of_ble_eq_true rfl) (Nat.le_of_ble_eq_true rfl) ⟨_, _, rfl, rfl⟩ rfl k5

theorem g_L_law_756 {Q : PQ} {h : HP} {x3 : Int} {s0 : Int} {s1 : Int} 
    (k1 : s0 = s1 → Wp true i_L_law 2076 [vr 1000, vr 0, vr 103, vi x3] [] h Q)
    (k2 : ¬ s0 = s1 → Q (some (vi 0)) h) :
    Wp true i_L_law 756 [vr 1000, vr 0, vr 103, vi x3] [vi s1, vi s0] h Q := by
  refine r_br2 (t := 2076) f_380_756 rfl cb_eq (fun c1 => ?_) (fun c1 => ?_)
  · exact (k1 c1)
  · refine r_iconst f_380_759 (by decide) ?_
    exact r_retz f_380_760 rfl (by decide) (k2 c1)

theorem g_L_law_761 {Q : PQ} {h : HP} {x3 : Int} 
    (o1 : -2147483648 ≤ x3 + 1 ∧ x3 + 1 ≤ 2147483647)
    (o2 : 0 ≤ x3 + 1 ∧ x3 + 1 < h 1001 0)
    (o3 : -2147483648 ≤ x3 + 2 ∧ x3 + 2 ≤ 2147483647)
    (o4 : 0 ≤ x3 + 2 ∧ x3 + 2 < h 1001 0)
    (k5 : Wp true i_C_on 0 [vr 0, vi (h 1000 (x3 + 1).toNat), vi (h 1000 (x3 + 2).toNat)] [] h (fun r h' => Wp true i_L_law 775 [vr 1000, vr 0, vr 103, vi x3] (r.toList ++ []) h' Q)) :
    Wp true i_L_law 761 [vr 1000, vr 0, vr 103, vi x3] [] h Q := by
  refine r_aload_n (v := 0) f_380_761 rfl (by decide) ?_
  refine r_aload_n (v := 1000) f_380_762 rfl (by decide) ?_
  refine r_iload_n (v := x3) f_380_763 rfl ?_
  refine r_iconst f_380_764 (by decide) ?_
  refine r_iadd (u := x3 + 1) f_380_765 rfl o1 ?_
  refine r_saload f_380_766 o2 ?_
  refine r_aload_n (v := 1000) f_380_767 rfl (by decide) ?_
  refine r_iload_n (v := x3) f_380_768 rfl ?_
  refine r_iconst f_380_769 (by decide) ?_
  refine r_iadd (u := x3 + 2) f_380_770 rfl o3 ?_
  refine r_saload f_380_771 o4 ?_
  exact r_callv (as := [vr 0, vi (h 1000 (x3 + 1).toNat), vi (h 1000 (x3 + 2).toNat)]) (st' := []) (ls0 := [vr 0, vi (h 1000 (x3 + 1).toNat), vi (h 1000 (x3 + 2).toNat)]) f_380_772 (by decide) rfl rfl (Nat.le_of_ble_eq_true rfl) (Nat.le_of_ble_eq_true rfl) ⟨_, _, rfl, rfl⟩ rfl k5

theorem g_L_law_775 {Q : PQ} {h : HP} {x3 : Int} {s0 : Int} 
    (o1 : -2147483648 ≤ x3 + 1 ∧ x3 + 1 ≤ 2147483647)
    (o2 : 0 ≤ x3 + 1 ∧ x3 + 1 < h 1001 0)
    (o3 : -2147483648 ≤ x3 + 2 ∧ x3 + 2 ≤ 2147483647)
    (o4 : 0 ≤ x3 + 2 ∧ x3 + 2 < h 1001 0)
    (k5 : Wp true i_M_on 0 [vr 103, vi (h 1000 (x3 + 1).toNat), vi (h 1000 (x3 + 2).toNat)] [] h (fun r h' => Wp true i_L_law 789 [vr 1000, vr 0, vr 103, vi x3] (r.toList ++ [vi s0]) h' Q)) :
    Wp true i_L_law 775 [vr 1000, vr 0, vr 103, vi x3] [vi s0] h Q := by
  refine r_aload_n (v := 103) f_380_775 rfl (by decide) ?_
  refine r_aload_n (v := 1000) f_380_776 rfl (by decide) ?_
  refine r_iload_n (v := x3) f_380_777 rfl ?_
  refine r_iconst f_380_778 (by decide) ?_
  refine r_iadd (u := x3 + 1) f_380_779 rfl o1 ?_
  refine r_saload f_380_780 o2 ?_
  refine r_aload_n (v := 1000) f_380_781 rfl (by decide) ?_
  refine r_iload_n (v := x3) f_380_782 rfl ?_
  refine r_iconst f_380_783 (by decide) ?_
  refine r_iadd (u := x3 + 2) f_380_784 rfl o3 ?_
  refine r_saload f_380_785 o4 ?_
  exact r_callv (as := [vr 103, vi (h 1000 (x3 + 1).toNat), vi (h 1000 (x3 + 2).toNat)]) (st' := [vi s0]) (ls0 := [vr 103, vi (h 1000 (x3 + 1).toNat), vi (h 1000 (x3 + 2).toNat)]) f_380_786 (by decide) rfl rfl (Nat.le_of_ble_eq_true rfl) (Nat.le_of_ble_eq_true rfl) ⟨_, _, rfl, rfl⟩ rfl k5

theorem g_L_law_789 {Q : PQ} {h : HP} {x3 : Int} {s0 : Int} {s1 : Int} 
    (k1 : s0 = s1 → Wp true i_L_law 2076 [vr 1000, vr 0, vr 103, vi x3] [] h Q)
    (k2 : ¬ s0 = s1 → Q (some (vi 0)) h) :
    Wp true i_L_law 789 [vr 1000, vr 0, vr 103, vi x3] [vi s1, vi s0] h Q := by
  refine r_br2 (t := 2076) f_380_789 rfl cb_eq (fun c1 => ?_) (fun c1 => ?_)
  · exact (k1 c1)
  · refine r_iconst f_380_792 (by decide) ?_
    exact r_retz f_380_793 rfl (by decide) (k2 c1)

theorem g_L_law_794 {Q : PQ} {h : HP} {x3 : Int} 
    (o1 : -2147483648 ≤ x3 + 1 ∧ x3 + 1 ≤ 2147483647)
    (o2 : 0 ≤ x3 + 1 ∧ x3 + 1 < h 1001 0)
    (o3 : -2147483648 ≤ x3 + 2 ∧ x3 + 2 ≤ 2147483647)
    (o4 : 0 ≤ x3 + 2 ∧ x3 + 2 < h 1001 0)
    (k5 : Wp true i_C_land 0 [vr 0, vi (h 1000 (x3 + 1).toNat), vi (h 1000 (x3 + 2).toNat)] [] h (fun r h' => Wp true i_L_law 808 [vr 1000, vr 0, vr 103, vi x3] (r.toList ++ []) h' Q)) :
    Wp true i_L_law 794 [vr 1000, vr 0, vr 103, vi x3] [] h Q := by
  refine r_aload_n (v := 0) f_380_794 rfl (by decide) ?_
  refine r_aload_n (v := 1000) f_380_795 rfl (by decide) ?_
  refine r_iload_n (v := x3) f_380_796 rfl ?_
  refine r_iconst f_380_797 (by decide) ?_
  refine r_iadd (u := x3 + 1) f_380_798 rfl o1 ?_
  refine r_saload f_380_799 o2 ?_
  refine r_aload_n (v := 1000) f_380_800 rfl (by decide) ?_
  refine r_iload_n (v := x3) f_380_801 rfl ?_
  refine r_iconst f_380_802 (by decide) ?_
  refine r_iadd (u := x3 + 2) f_380_803 rfl o3 ?_
  refine r_saload f_380_804 o4 ?_
  exact r_callv (as := [vr 0, vi (h 1000 (x3 + 1).toNat), vi (h 1000 (x3 + 2).toNat)]) (st' := []) (ls0 := [vr 0, vi (h 1000 (x3 + 1).toNat), vi (h 1000 (x3 + 2).toNat)]) f_380_805 (by decide) rfl rfl (Nat.le_of_ble_eq_true rfl) (Nat.le_of_ble_eq_true rfl) ⟨_, _, rfl, rfl⟩ rfl k5

theorem g_L_law_808 {Q : PQ} {h : HP} {x3 : Int} {s0 : Int} 
    (o1 : -2147483648 ≤ x3 + 1 ∧ x3 + 1 ≤ 2147483647)
    (o2 : 0 ≤ x3 + 1 ∧ x3 + 1 < h 1001 0)
    (o3 : -2147483648 ≤ x3 + 2 ∧ x3 + 2 ≤ 2147483647)
    (o4 : 0 ≤ x3 + 2 ∧ x3 + 2 < h 1001 0)
    (k5 : Wp true i_M_land 0 [vr 103, vi (h 1000 (x3 + 1).toNat), vi (h 1000 (x3 + 2).toNat)] [] h (fun r h' => Wp true i_L_law 822 [vr 1000, vr 0, vr 103, vi x3] (r.toList ++ [vi s0]) h' Q)) :
    Wp true i_L_law 808 [vr 1000, vr 0, vr 103, vi x3] [vi s0] h Q := by
  refine r_aload_n (v := 103) f_380_808 rfl (by decide) ?_
  refine r_aload_n (v := 1000) f_380_809 rfl (by decide) ?_
  refine r_iload_n (v := x3) f_380_810 rfl ?_
  refine r_iconst f_380_811 (by decide) ?_
  refine r_iadd (u := x3 + 1) f_380_812 rfl o1 ?_
  refine r_saload f_380_813 o2 ?_
  refine r_aload_n (v := 1000) f_380_814 rfl (by decide) ?_
  refine r_iload_n (v := x3) f_380_815 rfl ?_
  refine r_iconst f_380_816 (by decide) ?_
  refine r_iadd (u := x3 + 2) f_380_817 rfl o3 ?_
  refine r_saload f_380_818 o4 ?_
  exact r_callv (as := [vr 103, vi (h 1000 (x3 + 1).toNat), vi (h 1000 (x3 + 2).toNat)]) (st' := [vi s0]) (ls0 := [vr 103, vi (h 1000 (x3 + 1).toNat), vi (h 1000 (x3 + 2).toNat)]) f_380_819 (by decide) rfl rfl (Nat.le_of_ble_eq_true rfl) (Nat.le_of_ble_eq_true rfl) ⟨_, _, rfl, rfl⟩ rfl k5

theorem g_L_law_822 {Q : PQ} {h : HP} {x3 : Int} {s0 : Int} {s1 : Int} 
    (k1 : s0 = s1 → Wp true i_L_law 2076 [vr 1000, vr 0, vr 103, vi x3] [] h Q)
    (k2 : ¬ s0 = s1 → Q (some (vi 0)) h) :
    Wp true i_L_law 822 [vr 1000, vr 0, vr 103, vi x3] [vi s1, vi s0] h Q := by
  refine r_br2 (t := 2076) f_380_822 rfl cb_eq (fun c1 => ?_) (fun c1 => ?_)
  · exact (k1 c1)
  · refine r_iconst f_380_825 (by decide) ?_
    exact r_retz f_380_826 rfl (by decide) (k2 c1)

theorem g_L_law_827 {Q : PQ} {h : HP} {x3 : Int} 
    (o1 : -2147483648 ≤ x3 + 1 ∧ x3 + 1 ≤ 2147483647)
    (o2 : 0 ≤ x3 + 1 ∧ x3 + 1 < h 1001 0)
    (k3 : Wp true i_C_boards 0 [vr 0, vi (h 1000 (x3 + 1).toNat)] [] h (fun r h' => Wp true i_L_law 836 [vr 1000, vr 0, vr 103, vi x3] (r.toList ++ []) h' Q)) :
    Wp true i_L_law 827 [vr 1000, vr 0, vr 103, vi x3] [] h Q := by
  refine r_aload_n (v := 0) f_380_827 rfl (by decide) ?_
  refine r_aload_n (v := 1000) f_380_828 rfl (by decide) ?_
  refine r_iload_n (v := x3) f_380_829 rfl ?_
  refine r_iconst f_380_830 (by decide) ?_
  refine r_iadd (u := x3 + 1) f_380_831 rfl o1 ?_
  refine r_saload f_380_832 o2 ?_
  exact r_callv (as := [vr 0, vi (h 1000 (x3 + 1).toNat)]) (st' := []) (ls0 := [vr 0, vi (h 1000 (x3 + 1).toNat)]) f_380_833 (by decide) rfl rfl (Nat.le_of_ble_eq_true rfl) (Nat.le_of_ble_eq_true rfl) ⟨_, _, rfl, rfl⟩ rfl k3

theorem g_L_law_836 {Q : PQ} {h : HP} {x3 : Int} {s0 : Int} 
    (o1 : -2147483648 ≤ x3 + 1 ∧ x3 + 1 ≤ 2147483647)
    (o2 : 0 ≤ x3 + 1 ∧ x3 + 1 < h 1001 0)
    (k3 : Wp true i_M_boards 0 [vr 103, vi (h 1000 (x3 + 1).toNat)] [] h (fun r h' => Wp true i_L_law 845 [vr 1000, vr 0, vr 103, vi x3] (r.toList ++ [vi s0]) h' Q)) :
    Wp true i_L_law 836 [vr 1000, vr 0, vr 103, vi x3] [vi s0] h Q := by
  refine r_aload_n (v := 103) f_380_836 rfl (by decide) ?_
  refine r_aload_n (v := 1000) f_380_837 rfl (by decide) ?_
  refine r_iload_n (v := x3) f_380_838 rfl ?_
  refine r_iconst f_380_839 (by decide) ?_
  refine r_iadd (u := x3 + 1) f_380_840 rfl o1 ?_
  refine r_saload f_380_841 o2 ?_
  exact r_callv (as := [vr 103, vi (h 1000 (x3 + 1).toNat)]) (st' := [vi s0]) (ls0 := [vr 103, vi (h 1000 (x3 + 1).toNat)]) f_380_842 (by decide) rfl rfl (Nat.le_of_ble_eq_true rfl) (Nat.le_of_ble_eq_true rfl) ⟨_, _, rfl, rfl⟩ rfl k3

theorem g_L_law_845 {Q : PQ} {h : HP} {x3 : Int} {s0 : Int} {s1 : Int} 
    (k1 : s0 = s1 → Wp true i_L_law 2076 [vr 1000, vr 0, vr 103, vi x3] [] h Q)
    (k2 : ¬ s0 = s1 → Q (some (vi 0)) h) :
    Wp true i_L_law 845 [vr 1000, vr 0, vr 103, vi x3] [vi s1, vi s0] h Q := by
  refine r_br2 (t := 2076) f_380_845 rfl cb_eq (fun c1 => ?_) (fun c1 => ?_)
  · exact (k1 c1)
  · refine r_iconst f_380_848 (by decide) ?_
    exact r_retz f_380_849 rfl (by decide) (k2 c1)

theorem g_L_law_850 {Q : PQ} {h : HP} {x3 : Int} 
    (o1 : -2147483648 ≤ x3 + 1 ∧ x3 + 1 ≤ 2147483647)
    (o2 : 0 ≤ x3 + 1 ∧ x3 + 1 < h 1001 0)
    (k3 : Wp true i_C_value 0 [vr 0, vi (h 1000 (x3 + 1).toNat)] [] h (fun r h' => Wp true i_L_law 859 [vr 1000, vr 0, vr 103, vi x3] (r.toList ++ []) h' Q)) :
    Wp true i_L_law 850 [vr 1000, vr 0, vr 103, vi x3] [] h Q := by
  refine r_aload_n (v := 0) f_380_850 rfl (by decide) ?_
  refine r_aload_n (v := 1000) f_380_851 rfl (by decide) ?_
  refine r_iload_n (v := x3) f_380_852 rfl ?_
  refine r_iconst f_380_853 (by decide) ?_
  refine r_iadd (u := x3 + 1) f_380_854 rfl o1 ?_
  refine r_saload f_380_855 o2 ?_
  exact r_callv (as := [vr 0, vi (h 1000 (x3 + 1).toNat)]) (st' := []) (ls0 := [vr 0, vi (h 1000 (x3 + 1).toNat)]) f_380_856 (by decide) rfl rfl (Nat.le_of_ble_eq_true rfl) (Nat.le_of_ble_eq_true rfl) ⟨_, _, rfl, rfl⟩ rfl k3

theorem g_L_law_859 {Q : PQ} {h : HP} {x3 : Int} {s0 : Int} 
    (o1 : -2147483648 ≤ x3 + 1 ∧ x3 + 1 ≤ 2147483647)
    (o2 : 0 ≤ x3 + 1 ∧ x3 + 1 < h 1001 0)
    (k3 : Wp true i_M_value 0 [vr 103, vi (h 1000 (x3 + 1).toNat)] [] h (fun r h' => Wp true i_L_law 868 [vr 1000, vr 0, vr 103, vi x3] (r.toList ++ [vi s0]) h' Q)) :
    Wp true i_L_law 859 [vr 1000, vr 0, vr 103, vi x3] [vi s0] h Q := by
  refine r_aload_n (v := 103) f_380_859 rfl (by decide) ?_
  refine r_aload_n (v := 1000) f_380_860 rfl (by decide) ?_
  refine r_iload_n (v := x3) f_380_861 rfl ?_
  refine r_iconst f_380_862 (by decide) ?_
  refine r_iadd (u := x3 + 1) f_380_863 rfl o1 ?_
  refine r_saload f_380_864 o2 ?_
  exact r_callv (as := [vr 103, vi (h 1000 (x3 + 1).toNat)]) (st' := [vi s0]) (ls0 := [vr 103, vi (h 1000 (x3 + 1).toNat)]) f_380_865 (by decide) rfl rfl (Nat.le_of_ble_eq_true rfl) (Nat.le_of_ble_eq_true rfl) ⟨_, _, rfl, rfl⟩ rfl k3

theorem g_L_law_868 {Q : PQ} {h : HP} {x3 : Int} {s0 : Int} {s1 : Int} 
    (k1 : s0 = s1 → Wp true i_L_law 2076 [vr 1000, vr 0, vr 103, vi x3] [] h Q)
    (k2 : ¬ s0 = s1 → Q (some (vi 0)) h) :
    Wp true i_L_law 868 [vr 1000, vr 0, vr 103, vi x3] [vi s1, vi s0] h Q := by
  refine r_br2 (t := 2076) f_380_868 rfl cb_eq (fun c1 => ?_) (fun c1 => ?_)
  · exact (k1 c1)
  · refine r_iconst f_380_871 (by decide) ?_
    exact r_retz f_380_872 rfl (by decide) (k2 c1)

theorem g_L_law_873 {Q : PQ} {h : HP} {x3 : Int} 
    (o1 : -2147483648 ≤ x3 + 1 ∧ x3 + 1 ≤ 2147483647)
    (o2 : 0 ≤ x3 + 1 ∧ x3 + 1 < h 1001 0)
    (k3 : Wp true i_C_things 0 [vr 0, vi (h 1000 (x3 + 1).toNat)] [] h (fun r h' => Wp true i_L_law 882 [vr 1000, vr 0, vr 103, vi x3] (r.toList ++ []) h' Q)) :
    Wp true i_L_law 873 [vr 1000, vr 0, vr 103, vi x3] [] h Q := by
  refine r_aload_n (v := 0) f_380_873 rfl (by decide) ?_
  refine r_aload_n (v := 1000) f_380_874 rfl (by decide) ?_
  refine r_iload_n (v := x3) f_380_875 rfl ?_
  refine r_iconst f_380_876 (by decide) ?_
  refine r_iadd (u := x3 + 1) f_380_877 rfl o1 ?_
  refine r_saload f_380_878 o2 ?_
  exact r_callv (as := [vr 0, vi (h 1000 (x3 + 1).toNat)]) (st' := []) (ls0 := [vr 0, vi (h 1000 (x3 + 1).toNat)]) f_380_879 (by decide) rfl rfl (Nat.le_of_ble_eq_true rfl) (Nat.le_of_ble_eq_true rfl) ⟨_, _, rfl, rfl⟩ rfl k3

theorem g_L_law_882 {Q : PQ} {h : HP} {x3 : Int} {s0 : Int} 
    (o1 : -2147483648 ≤ x3 + 1 ∧ x3 + 1 ≤ 2147483647)
    (o2 : 0 ≤ x3 + 1 ∧ x3 + 1 < h 1001 0)
    (k3 : Wp true i_M_things 0 [vr 103, vi (h 1000 (x3 + 1).toNat), vr 9999, vr 9999] [] h (fun r h' => Wp true i_L_law 891 [vr 1000, vr 0, vr 103, vi x3] (r.toList ++ [vi s0]) h' Q)) :
    Wp true i_L_law 882 [vr 1000, vr 0, vr 103, vi x3] [vi s0] h Q := by
  refine r_aload_n (v := 103) f_380_882 rfl (by decide) ?_
  refine r_aload_n (v := 1000) f_380_883 rfl (by decide) ?_
  refine r_iload_n (v := x3) f_380_884 rfl ?_
  refine r_iconst f_380_885 (by decide) ?_
  refine r_iadd (u := x3 + 1) f_380_886 rfl o1 ?_
  refine r_saload f_380_887 o2 ?_
  exact r_callv (as := [vr 103, vi (h 1000 (x3 + 1).toNat)]) (st' := [vi s0]) (ls0 := [vr 103, vi (h 1000 (x3 + 1).toNat), vr 9999, vr 9999]) f_380_888 (by decide) rfl rfl (Nat.le_of_ble_eq_true rfl) (Nat.le_of_ble_eq_true rfl) ⟨_, _, rfl, rfl⟩ rfl k3

theorem g_L_law_891 {Q : PQ} {h : HP} {x3 : Int} {s0 : Int} {s1 : Int} 
    (k1 : s0 = s1 → Wp true i_L_law 2076 [vr 1000, vr 0, vr 103, vi x3] [] h Q)
    (k2 : ¬ s0 = s1 → Q (some (vi 0)) h) :
    Wp true i_L_law 891 [vr 1000, vr 0, vr 103, vi x3] [vi s1, vi s0] h Q := by
  refine r_br2 (t := 2076) f_380_891 rfl cb_eq (fun c1 => ?_) (fun c1 => ?_)
  · exact (k1 c1)
  · refine r_iconst f_380_894 (by decide) ?_
    exact r_retz f_380_895 rfl (by decide) (k2 c1)

theorem g_L_law_896 {Q : PQ} {h : HP} {x3 : Int} 
    (o1 : -2147483648 ≤ x3 + 1 ∧ x3 + 1 ≤ 2147483647)
    (o2 : 0 ≤ x3 + 1 ∧ x3 + 1 < h 1001 0)
    (k3 : Wp true i_C_share 0 [vr 0, vi (h 1000 (x3 + 1).toNat), vr 9999] [] h (fun r h' => Wp true i_L_law 905 [vr 1000, vr 0, vr 103, vi x3] (r.toList ++ []) h' Q)) :
    Wp true i_L_law 896 [vr 1000, vr 0, vr 103, vi x3] [] h Q := by
  refine r_aload_n (v := 0) f_380_896 rfl (by decide) ?_
  refine r_aload_n (v := 1000) f_380_897 rfl (by decide) ?_
  refine r_iload_n (v := x3) f_380_898 rfl ?_
  refine r_iconst f_380_899 (by decide) ?_
  refine r_iadd (u := x3 + 1) f_380_900 rfl o1 ?_
  refine r_saload f_380_901 o2 ?_
  exact r_callv (as := [vr 0, vi (h 1000 (x3 + 1).toNat)]) (st' := []) (ls0 := [vr 0, vi (h 1000 (x3 + 1).toNat), vr 9999]) f_380_902 (by decide) rfl rfl (Nat.le_of_ble_eq_true rfl) (Nat.le_of_ble_eq_true rfl) ⟨_, _, rfl, rfl⟩ rfl k3

theorem g_L_law_905 {Q : PQ} {h : HP} {x3 : Int} {s0 : Int} 
    (o1 : -2147483648 ≤ x3 + 1 ∧ x3 + 1 ≤ 2147483647)
    (o2 : 0 ≤ x3 + 1 ∧ x3 + 1 < h 1001 0)
    (k3 : Wp true i_M_share 0 [vr 103, vi (h 1000 (x3 + 1).toNat)] [] h (fun r h' => Wp true i_L_law 914 [vr 1000, vr 0, vr 103, vi x3] (r.toList ++ [vi s0]) h' Q)) :
    Wp true i_L_law 905 [vr 1000, vr 0, vr 103, vi x3] [vi s0] h Q := by
  refine r_aload_n (v := 103) f_380_905 rfl (by decide) ?_
  refine r_aload_n (v := 1000) f_380_906 rfl (by decide) ?_
  refine r_iload_n (v := x3) f_380_907 rfl ?_
  refine r_iconst f_380_908 (by decide) ?_
  refine r_iadd (u := x3 + 1) f_380_909 rfl o1 ?_
  refine r_saload f_380_910 o2 ?_
  exact r_callv (as := [vr 103, vi (h 1000 (x3 + 1).toNat)]) (st' := [vi s0]) (ls0 := [vr 103, vi (h 1000 (x3 + 1).toNat)]) f_380_911 (by decide) rfl rfl (Nat.le_of_ble_eq_true rfl) (Nat.le_of_ble_eq_true rfl) ⟨_, _, rfl, rfl⟩ rfl k3

theorem g_L_law_914 {Q : PQ} {h : HP} {x3 : Int} {s0 : Int} {s1 : Int} 
    (k1 : s0 = s1 → Wp true i_L_law 2076 [vr 1000, vr 0, vr 103, vi x3] [] h Q)
    (k2 : ¬ s0 = s1 → Q (some (vi 0)) h) :
    Wp true i_L_law 914 [vr 1000, vr 0, vr 103, vi x3] [vi s1, vi s0] h Q := by
  refine r_br2 (t := 2076) f_380_914 rfl cb_eq (fun c1 => ?_) (fun c1 => ?_)
  · exact (k1 c1)
  · refine r_iconst f_380_917 (by decide) ?_
    exact r_retz f_380_918 rfl (by decide) (k2 c1)

theorem g_L_law_919 {Q : PQ} {h : HP} {x3 : Int} 
    (o1 : -2147483648 ≤ x3 + 1 ∧ x3 + 1 ≤ 2147483647)
    (o2 : 0 ≤ x3 + 1 ∧ x3 + 1 < h 1001 0)
    (k3 : Wp true i_C_envy 0 [vr 0, vi (h 1000 (x3 + 1).toNat)] [] h (fun r h' => Wp true i_L_law 928 [vr 1000, vr 0, vr 103, vi x3] (r.toList ++ []) h' Q)) :
    Wp true i_L_law 919 [vr 1000, vr 0, vr 103, vi x3] [] h Q := by
  refine r_aload_n (v := 0) f_380_919 rfl (by decide) ?_
  refine r_aload_n (v := 1000) f_380_920 rfl (by decide) ?_
  refine r_iload_n (v := x3) f_380_921 rfl ?_
  refine r_iconst f_380_922 (by decide) ?_
  refine r_iadd (u := x3 + 1) f_380_923 rfl o1 ?_
  refine r_saload f_380_924 o2 ?_
  exact r_callv (as := [vr 0, vi (h 1000 (x3 + 1).toNat)]) (st' := []) (ls0 := [vr 0, vi (h 1000 (x3 + 1).toNat)]) f_380_925 (by decide) rfl rfl (Nat.le_of_ble_eq_true rfl) (Nat.le_of_ble_eq_true rfl) ⟨_, _, rfl, rfl⟩ rfl k3

theorem g_L_law_928 {Q : PQ} {h : HP} {x3 : Int} {s0 : Int} 
    (o1 : -2147483648 ≤ x3 + 1 ∧ x3 + 1 ≤ 2147483647)
    (o2 : 0 ≤ x3 + 1 ∧ x3 + 1 < h 1001 0)
    (k3 : Wp true i_M_envy 0 [vr 103, vi (h 1000 (x3 + 1).toNat)] [] h (fun r h' => Wp true i_L_law 937 [vr 1000, vr 0, vr 103, vi x3] (r.toList ++ [vi s0]) h' Q)) :
    Wp true i_L_law 928 [vr 1000, vr 0, vr 103, vi x3] [vi s0] h Q := by
  refine r_aload_n (v := 103) f_380_928 rfl (by decide) ?_
  refine r_aload_n (v := 1000) f_380_929 rfl (by decide) ?_
  refine r_iload_n (v := x3) f_380_930 rfl ?_
  refine r_iconst f_380_931 (by decide) ?_
  refine r_iadd (u := x3 + 1) f_380_932 rfl o1 ?_
  refine r_saload f_380_933 o2 ?_
  exact r_callv (as := [vr 103, vi (h 1000 (x3 + 1).toNat)]) (st' := [vi s0]) (ls0 := [vr 103, vi (h 1000 (x3 + 1).toNat)]) f_380_934 (by decide) rfl rfl (Nat.le_of_ble_eq_true rfl) (Nat.le_of_ble_eq_true rfl) ⟨_, _, rfl, rfl⟩ rfl k3

theorem g_L_law_937 {Q : PQ} {h : HP} {x3 : Int} {s0 : Int} {s1 : Int} 
    (k1 : s0 = s1 → Wp true i_L_law 2076 [vr 1000, vr 0, vr 103, vi x3] [] h Q)
    (k2 : ¬ s0 = s1 → Q (some (vi 0)) h) :
    Wp true i_L_law 937 [vr 1000, vr 0, vr 103, vi x3] [vi s1, vi s0] h Q := by
  refine r_br2 (t := 2076) f_380_937 rfl cb_eq (fun c1 => ?_) (fun c1 => ?_)
  · exact (k1 c1)
  · refine r_iconst f_380_940 (by decide) ?_
    exact r_retz f_380_941 rfl (by decide) (k2 c1)

theorem g_L_law_942 {Q : PQ} {h : HP} {x3 : Int} 
    (k1 : Wp true i_C_fair 0 [vr 0] [] h (fun r h' => Wp true i_L_law 946 [vr 1000, vr 0, vr 103, vi x3] (r.toList ++ []) h' Q)) :
    Wp true i_L_law 942 [vr 1000, vr 0, vr 103, vi x3] [] h Q := by
  refine r_aload_n (v := 0) f_380_942 rfl (by decide) ?_
  exact r_callv (as := [vr 0]) (st' := []) (ls0 := [vr 0]) f_380_943 (by decide) rfl rfl (Nat.le_of_ble_eq_true rfl) (Nat.le_of_ble_eq_true rfl) ⟨_, _, rfl, rfl⟩ rfl k1

theorem g_L_law_946 {Q : PQ} {h : HP} {x3 : Int} {s0 : Int} 
    (k1 : Wp true i_M_fair 0 [vr 103] [] h (fun r h' => Wp true i_L_law 950 [vr 1000, vr 0, vr 103, vi x3] (r.toList ++ [vi s0]) h' Q)) :
    Wp true i_L_law 946 [vr 1000, vr 0, vr 103, vi x3] [vi s0] h Q := by
  refine r_aload_n (v := 103) f_380_946 rfl (by decide) ?_
  exact r_callv (as := [vr 103]) (st' := [vi s0]) (ls0 := [vr 103]) f_380_947 (by decide) rfl rfl (Nat.le_of_ble_eq_true rfl) (Nat.le_of_ble_eq_true rfl) ⟨_, _, rfl, rfl⟩ rfl k1

theorem g_L_law_950 {Q : PQ} {h : HP} {x3 : Int} {s0 : Int} {s1 : Int} 
    (k1 : s0 = s1 → Wp true i_L_law 2076 [vr 1000, vr 0, vr 103, vi x3] [] h Q)
    (k2 : ¬ s0 = s1 → Q (some (vi 0)) h) :
    Wp true i_L_law 950 [vr 1000, vr 0, vr 103, vi x3] [vi s1, vi s0] h Q := by
  refine r_br2 (t := 2076) f_380_950 rfl cb_eq (fun c1 => ?_) (fun c1 => ?_)
  · exact (k1 c1)
  · refine r_iconst f_380_953 (by decide) ?_
    exact r_retz f_380_954 rfl (by decide) (k2 c1)

theorem g_L_law_955 {Q : PQ} {h : HP} {x3 : Int} 
    (k1 : Wp true i_C_chalk 0 [vr 0] [] h (fun r h' => Wp true i_L_law 959 [vr 1000, vr 0, vr 103, vi x3] (r.toList ++ []) h' Q)) :
    Wp true i_L_law 955 [vr 1000, vr 0, vr 103, vi x3] [] h Q := by
  refine r_aload_n (v := 0) f_380_955 rfl (by decide) ?_
  exact r_callv (as := [vr 0]) (st' := []) (ls0 := [vr 0]) f_380_956 (by decide) rfl rfl (Nat.le_of_ble_eq_true rfl) (Nat.le_of_ble_eq_true rfl) ⟨_, _, rfl, rfl⟩ rfl k1

theorem g_L_law_959 {Q : PQ} {h : HP} {x3 : Int} {s0 : Int} 
    (k1 : Wp true i_M_chalk 0 [vr 103, vr 9999, vr 9999] [] h (fun r h' => Wp true i_L_law 963 [vr 1000, vr 0, vr 103, vi x3] (r.toList ++ [vi s0]) h' Q)) :
    Wp true i_L_law 959 [vr 1000, vr 0, vr 103, vi x3] [vi s0] h Q := by
  refine r_aload_n (v := 103) f_380_959 rfl (by decide) ?_
  exact r_callv (as := [vr 103]) (st' := [vi s0]) (ls0 := [vr 103, vr 9999, vr 9999]) f_380_960 (by decide) rfl rfl (Nat.le_of_ble_eq_true rfl) (Nat.le_of_ble_eq_true rfl) ⟨_, _, rfl, rfl⟩ rfl k1

theorem g_L_law_963 {Q : PQ} {h : HP} {x3 : Int} {s0 : Int} {s1 : Int} 
    (k1 : s0 = s1 → Wp true i_L_law 2076 [vr 1000, vr 0, vr 103, vi x3] [] h Q)
    (k2 : ¬ s0 = s1 → Q (some (vi 0)) h) :
    Wp true i_L_law 963 [vr 1000, vr 0, vr 103, vi x3] [vi s1, vi s0] h Q := by
  refine r_br2 (t := 2076) f_380_963 rfl cb_eq (fun c1 => ?_) (fun c1 => ?_)
  · exact (k1 c1)
  · refine r_iconst f_380_966 (by decide) ?_
    exact r_retz f_380_967 rfl (by decide) (k2 c1)

theorem g_L_law_968 {Q : PQ} {h : HP} {x3 : Int} 
    (k1 : Wp true i_C_bulges 0 [vr 0] [] h (fun r h' => Wp true i_L_law 972 [vr 1000, vr 0, vr 103, vi x3] (r.toList ++ []) h' Q)) :
    Wp true i_L_law 968 [vr 1000, vr 0, vr 103, vi x3] [] h Q := by
  refine r_aload_n (v := 0) f_380_968 rfl (by decide) ?_
  exact r_callv (as := [vr 0]) (st' := []) (ls0 := [vr 0]) f_380_969 (by decide) rfl rfl (Nat.le_of_ble_eq_true rfl) (Nat.le_of_ble_eq_true rfl) ⟨_, _, rfl, rfl⟩ rfl k1

theorem g_L_law_972 {Q : PQ} {h : HP} {x3 : Int} {s0 : Int} 
    (k1 : Wp true i_M_bulges 0 [vr 103, vr 9999, vr 9999] [] h (fun r h' => Wp true i_L_law 976 [vr 1000, vr 0, vr 103, vi x3] (r.toList ++ [vi s0]) h' Q)) :
    Wp true i_L_law 972 [vr 1000, vr 0, vr 103, vi x3] [vi s0] h Q := by
  refine r_aload_n (v := 103) f_380_972 rfl (by decide) ?_
  exact r_callv (as := [vr 103]) (st' := [vi s0]) (ls0 := [vr 103, vr 9999, vr 9999]) f_380_973 (by decide) rfl rfl (Nat.le_of_ble_eq_true rfl) (Nat.le_of_ble_eq_true rfl) ⟨_, _, rfl, rfl⟩ rfl k1

theorem g_L_law_976 {Q : PQ} {h : HP} {x3 : Int} {s0 : Int} {s1 : Int} 
    (k1 : s0 = s1 → Wp true i_L_law 2076 [vr 1000, vr 0, vr 103, vi x3] [] h Q)
    (k2 : ¬ s0 = s1 → Q (some (vi 0)) h) :
    Wp true i_L_law 976 [vr 1000, vr 0, vr 103, vi x3] [vi s1, vi s0] h Q := by
  refine r_br2 (t := 2076) f_380_976 rfl cb_eq (fun c1 => ?_) (fun c1 => ?_)
  · exact (k1 c1)
  · refine r_iconst f_380_979 (by decide) ?_
    exact r_retz f_380_980 rfl (by decide) (k2 c1)

theorem g_L_law_981 {Q : PQ} {h : HP} {x3 : Int} 
    (o1 : -2147483648 ≤ x3 + 1 ∧ x3 + 1 ≤ 2147483647)
    (o2 : 0 ≤ x3 + 1 ∧ x3 + 1 < h 1001 0)
    (k3 : Wp true i_C_border 0 [vr 0, vi (h 1000 (x3 + 1).toNat)] [] h (fun r h' => Wp true i_L_law 990 [vr 1000, vr 0, vr 103, vi x3] (r.toList ++ []) h' Q)) :
    Wp true i_L_law 981 [vr 1000, vr 0, vr 103, vi x3] [] h Q := by
  refine r_aload_n (v := 0) f_380_981 rfl (by decide) ?_
  refine r_aload_n (v := 1000) f_380_982 rfl (by decide) ?_
  refine r_iload_n (v := x3) f_380_983 rfl ?_
  refine r_iconst f_380_984 (by decide) ?_
  refine r_iadd (u := x3 + 1) f_380_985 rfl o1 ?_
  refine r_saload f_380_986 o2 ?_
  exact r_callv (as := [vr 0, vi (h 1000 (x3 + 1).toNat)]) (st' := []) (ls0 := [vr 0, vi (h 1000 (x3 + 1).toNat)]) f_380_987 (by decide) rfl rfl (Nat.le_of_ble_eq_true rfl) (Nat.le_of_ble_eq_true rfl) ⟨_, _, rfl, rfl⟩ rfl k3

theorem g_L_law_990 {Q : PQ} {h : HP} {x3 : Int} {s0 : Int} 
    (o1 : -2147483648 ≤ x3 + 1 ∧ x3 + 1 ≤ 2147483647)
    (o2 : 0 ≤ x3 + 1 ∧ x3 + 1 < h 1001 0)
    (k3 : Wp true i_M_border 0 [vr 103, vi (h 1000 (x3 + 1).toNat), vr 9999, vr 9999, vr 9999, vr 9999] [] h (fun r h' => Wp true i_L_law 999 [vr 1000, vr 0, vr 103, vi x3] (r.toList ++ [vi s0]) h' Q)) :
    Wp true i_L_law 990 [vr 1000, vr 0, vr 103, vi x3] [vi s0] h Q := by
  refine r_aload_n (v := 103) f_380_990 rfl (by decide) ?_
  refine r_aload_n (v := 1000) f_380_991 rfl (by decide) ?_
  refine r_iload_n (v := x3) f_380_992 rfl ?_
  refine r_iconst f_380_993 (by decide) ?_
  refine r_iadd (u := x3 + 1) f_380_994 rfl o1 ?_
  refine r_saload f_380_995 o2 ?_
  exact r_callv (as := [vr 103, vi (h 1000 (x3 + 1).toNat)]) (st' := [vi s0]) (ls0 := [vr 103, vi (h 1000 (x3 + 1).toNat), vr 9999, vr 9999, vr 9999, vr 9999]) f_380_996 (by decide) rfl rfl (Nat.le_of_ble_eq_true rfl) (Nat.le_of_ble_eq_true rfl) ⟨_, _, rfl, rfl⟩ rfl k3

theorem g_L_law_999 {Q : PQ} {h : HP} {x3 : Int} {s0 : Int} {s1 : Int} 
    (k1 : s0 = s1 → Wp true i_L_law 2076 [vr 1000, vr 0, vr 103, vi x3] [] h Q)
    (k2 : ¬ s0 = s1 → Q (some (vi 0)) h) :
    Wp true i_L_law 999 [vr 1000, vr 0, vr 103, vi x3] [vi s1, vi s0] h Q := by
  refine r_br2 (t := 2076) f_380_999 rfl cb_eq (fun c1 => ?_) (fun c1 => ?_)
  · exact (k1 c1)
  · refine r_iconst f_380_1002 (by decide) ?_
    exact r_retz f_380_1003 rfl (by decide) (k2 c1)

theorem g_L_law_1004 {Q : PQ} {h : HP} {x3 : Int} 
    (o1 : -2147483648 ≤ x3 + 1 ∧ x3 + 1 ≤ 2147483647)
    (o2 : 0 ≤ x3 + 1 ∧ x3 + 1 < h 1001 0)
    (k3 : Wp true i_C_strongest 0 [vr 0, vi (h 1000 (x3 + 1).toNat)] [] h (fun r h' => Wp true i_L_law 1013 [vr 1000, vr 0, vr 103, vi x3] (r.toList ++ []) h' Q)) :
    Wp true i_L_law 1004 [vr 1000, vr 0, vr 103, vi x3] [] h Q := by
  refine r_aload_n (v := 0) f_380_1004 rfl (by decide) ?_
  refine r_aload_n (v := 1000) f_380_1005 rfl (by decide) ?_
  refine r_iload_n (v := x3) f_380_1006 rfl ?_
  refine r_iconst f_380_1007 (by decide) ?_
  refine r_iadd (u := x3 + 1) f_380_1008 rfl o1 ?_
  refine r_saload f_380_1009 o2 ?_
  exact r_callv (as := [vr 0, vi (h 1000 (x3 + 1).toNat)]) (st' := []) (ls0 := [vr 0, vi (h 1000 (x3 + 1).toNat)]) f_380_1010 (by decide) rfl rfl (Nat.le_of_ble_eq_true rfl) (Nat.le_of_ble_eq_true rfl) ⟨_, _, rfl, rfl⟩ rfl k3

theorem g_L_law_1013 {Q : PQ} {h : HP} {x3 : Int} {s0 : Int} 
    (o1 : -2147483648 ≤ x3 + 1 ∧ x3 + 1 ≤ 2147483647)
    (o2 : 0 ≤ x3 + 1 ∧ x3 + 1 < h 1001 0)
    (k3 : Wp true i_M_strongest 0 [vr 103, vi (h 1000 (x3 + 1).toNat), vr 9999, vr 9999] [] h (fun r h' => Wp true i_L_law 1022 [vr 1000, vr 0, vr 103, vi x3] (r.toList ++ [vi s0]) h' Q)) :
    Wp true i_L_law 1013 [vr 1000, vr 0, vr 103, vi x3] [vi s0] h Q := by
  refine r_aload_n (v := 103) f_380_1013 rfl (by decide) ?_
  refine r_aload_n (v := 1000) f_380_1014 rfl (by decide) ?_
  refine r_iload_n (v := x3) f_380_1015 rfl ?_
  refine r_iconst f_380_1016 (by decide) ?_
  refine r_iadd (u := x3 + 1) f_380_1017 rfl o1 ?_
  refine r_saload f_380_1018 o2 ?_
  exact r_callv (as := [vr 103, vi (h 1000 (x3 + 1).toNat)]) (st' := [vi s0]) (ls0 := [vr 103, vi (h 1000 (x3 + 1).toNat), vr 9999, vr 9999]) f_380_1019 (by decide) rfl rfl (Nat.le_of_ble_eq_true rfl) (Nat.le_of_ble_eq_true rfl) ⟨_, _, rfl, rfl⟩ rfl k3

theorem g_L_law_1022 {Q : PQ} {h : HP} {x3 : Int} {s0 : Int} {s1 : Int} 
    (k1 : s0 = s1 → Wp true i_L_law 2076 [vr 1000, vr 0, vr 103, vi x3] [] h Q)
    (k2 : ¬ s0 = s1 → Q (some (vi 0)) h) :
    Wp true i_L_law 1022 [vr 1000, vr 0, vr 103, vi x3] [vi s1, vi s0] h Q := by
  refine r_br2 (t := 2076) f_380_1022 rfl cb_eq (fun c1 => ?_) (fun c1 => ?_)
  · exact (k1 c1)
  · refine r_iconst f_380_1025 (by decide) ?_
    exact r_retz f_380_1026 rfl (by decide) (k2 c1)

theorem g_L_law_1027 {Q : PQ} {h : HP} {x3 : Int} 
    (o1 : -2147483648 ≤ x3 + 1 ∧ x3 + 1 ≤ 2147483647)
    (o2 : 0 ≤ x3 + 1 ∧ x3 + 1 < h 1001 0)
    (k3 : Wp true i_C_least 0 [vr 0, vi (h 1000 (x3 + 1).toNat)] [] h (fun r h' => Wp true i_L_law 1036 [vr 1000, vr 0, vr 103, vi x3] (r.toList ++ []) h' Q)) :
    Wp true i_L_law 1027 [vr 1000, vr 0, vr 103, vi x3] [] h Q := by
  refine r_aload_n (v := 0) f_380_1027 rfl (by decide) ?_
  refine r_aload_n (v := 1000) f_380_1028 rfl (by decide) ?_
  refine r_iload_n (v := x3) f_380_1029 rfl ?_
  refine r_iconst f_380_1030 (by decide) ?_
  refine r_iadd (u := x3 + 1) f_380_1031 rfl o1 ?_
  refine r_saload f_380_1032 o2 ?_
  exact r_callv (as := [vr 0, vi (h 1000 (x3 + 1).toNat)]) (st' := []) (ls0 := [vr 0, vi (h 1000 (x3 + 1).toNat)]) f_380_1033 (by decide) rfl rfl (Nat.le_of_ble_eq_true rfl) (Nat.le_of_ble_eq_true rfl) ⟨_, _, rfl, rfl⟩ rfl k3

theorem g_L_law_1036 {Q : PQ} {h : HP} {x3 : Int} {s0 : Int} 
    (o1 : -2147483648 ≤ x3 + 1 ∧ x3 + 1 ≤ 2147483647)
    (o2 : 0 ≤ x3 + 1 ∧ x3 + 1 < h 1001 0)
    (k3 : Wp true i_M_least 0 [vr 103, vi (h 1000 (x3 + 1).toNat), vr 9999, vr 9999] [] h (fun r h' => Wp true i_L_law 1045 [vr 1000, vr 0, vr 103, vi x3] (r.toList ++ [vi s0]) h' Q)) :
    Wp true i_L_law 1036 [vr 1000, vr 0, vr 103, vi x3] [vi s0] h Q := by
  refine r_aload_n (v := 103) f_380_1036 rfl (by decide) ?_
  refine r_aload_n (v := 1000) f_380_1037 rfl (by decide) ?_
  refine r_iload_n (v := x3) f_380_1038 rfl ?_
  refine r_iconst f_380_1039 (by decide) ?_
  refine r_iadd (u := x3 + 1) f_380_1040 rfl o1 ?_
  refine r_saload f_380_1041 o2 ?_
  exact r_callv (as := [vr 103, vi (h 1000 (x3 + 1).toNat)]) (st' := [vi s0]) (ls0 := [vr 103, vi (h 1000 (x3 + 1).toNat), vr 9999, vr 9999]) f_380_1042 (by decide) rfl rfl (Nat.le_of_ble_eq_true rfl) (Nat.le_of_ble_eq_true rfl) ⟨_, _, rfl, rfl⟩ rfl k3

theorem g_L_law_1045 {Q : PQ} {h : HP} {x3 : Int} {s0 : Int} {s1 : Int} 
    (k1 : s0 = s1 → Wp true i_L_law 2076 [vr 1000, vr 0, vr 103, vi x3] [] h Q)
    (k2 : ¬ s0 = s1 → Q (some (vi 0)) h) :
    Wp true i_L_law 1045 [vr 1000, vr 0, vr 103, vi x3] [vi s1, vi s0] h Q := by
  refine r_br2 (t := 2076) f_380_1045 rfl cb_eq (fun c1 => ?_) (fun c1 => ?_)
  · exact (k1 c1)
  · refine r_iconst f_380_1048 (by decide) ?_
    exact r_retz f_380_1049 rfl (by decide) (k2 c1)

theorem g_L_law_1050 {Q : PQ} {h : HP} {x3 : Int} 
    (o1 : -2147483648 ≤ x3 + 1 ∧ x3 + 1 ≤ 2147483647)
    (o2 : 0 ≤ x3 + 1 ∧ x3 + 1 < h 1001 0)
    (k3 : Wp true i_C_wanted 0 [vr 0, vi (h 1000 (x3 + 1).toNat)] [] h (fun r h' => Wp true i_L_law 1059 [vr 1000, vr 0, vr 103, vi x3] (r.toList ++ []) h' Q)) :
    Wp true i_L_law 1050 [vr 1000, vr 0, vr 103, vi x3] [] h Q := by
  refine r_aload_n (v := 0) f_380_1050 rfl (by decide) ?_
  refine r_aload_n (v := 1000) f_380_1051 rfl (by decide) ?_
  refine r_iload_n (v := x3) f_380_1052 rfl ?_
  refine r_iconst f_380_1053 (by decide) ?_
  refine r_iadd (u := x3 + 1) f_380_1054 rfl o1 ?_
  refine r_saload f_380_1055 o2 ?_
  exact r_callv (as := [vr 0, vi (h 1000 (x3 + 1).toNat)]) (st' := []) (ls0 := [vr 0, vi (h 1000 (x3 + 1).toNat)]) f_380_1056 (by decide) rfl rfl (Nat.le_of_ble_eq_true rfl) (Nat.le_of_ble_eq_true rfl) ⟨_, _, rfl, rfl⟩ rfl k3

theorem g_L_law_1059 {Q : PQ} {h : HP} {x3 : Int} {s0 : Int} 
    (o1 : -2147483648 ≤ x3 + 1 ∧ x3 + 1 ≤ 2147483647)
    (o2 : 0 ≤ x3 + 1 ∧ x3 + 1 < h 1001 0)
    (k3 : Wp true i_M_wanted 0 [vr 103, vi (h 1000 (x3 + 1).toNat), vr 9999, vr 9999] [] h (fun r h' => Wp true i_L_law 1068 [vr 1000, vr 0, vr 103, vi x3] (r.toList ++ [vi s0]) h' Q)) :
    Wp true i_L_law 1059 [vr 1000, vr 0, vr 103, vi x3] [vi s0] h Q := by
  refine r_aload_n (v := 103) f_380_1059 rfl (by decide) ?_
  refine r_aload_n (v := 1000) f_380_1060 rfl (by decide) ?_
  refine r_iload_n (v := x3) f_380_1061 rfl ?_
  refine r_iconst f_380_1062 (by decide) ?_
  refine r_iadd (u := x3 + 1) f_380_1063 rfl o1 ?_
  refine r_saload f_380_1064 o2 ?_
  exact r_callv (as := [vr 103, vi (h 1000 (x3 + 1).toNat)]) (st' := [vi s0]) (ls0 := [vr 103, vi (h 1000 (x3 + 1).toNat), vr 9999, vr 9999]) f_380_1065 (by decide) rfl rfl (Nat.le_of_ble_eq_true rfl) (Nat.le_of_ble_eq_true rfl) ⟨_, _, rfl, rfl⟩ rfl k3

theorem g_L_law_1068 {Q : PQ} {h : HP} {x3 : Int} {s0 : Int} {s1 : Int} 
    (k1 : s0 = s1 → Wp true i_L_law 2076 [vr 1000, vr 0, vr 103, vi x3] [] h Q)
    (k2 : ¬ s0 = s1 → Q (some (vi 0)) h) :
    Wp true i_L_law 1068 [vr 1000, vr 0, vr 103, vi x3] [vi s1, vi s0] h Q := by
  refine r_br2 (t := 2076) f_380_1068 rfl cb_eq (fun c1 => ?_) (fun c1 => ?_)
  · exact (k1 c1)
  · refine r_iconst f_380_1071 (by decide) ?_
    exact r_retz f_380_1072 rfl (by decide) (k2 c1)

theorem g_L_law_1073 {Q : PQ} {h : HP} {x3 : Int} 
    (o1 : -2147483648 ≤ x3 + 1 ∧ x3 + 1 ≤ 2147483647)
    (o2 : 0 ≤ x3 + 1 ∧ x3 + 1 < h 1001 0)
    (o3 : -2147483648 ≤ x3 + 2 ∧ x3 + 2 ≤ 2147483647)
    (o4 : 0 ≤ x3 + 2 ∧ x3 + 2 < h 1001 0)
    (o5 : -2147483648 ≤ x3 + 3 ∧ x3 + 3 ≤ 2147483647)
    (o6 : 0 ≤ x3 + 3 ∧ x3 + 3 < h 1001 0)
    (k7 : Wp true i_C_cede 0 [vr 0, vi (h 1000 (x3 + 1).toNat), vi (h 1000 (x3 + 2).toNat), vi (h 1000 (x3 + 3).toNat), vr 9999] [] h (fun r h' => Wp true i_L_law 1092 [vr 1000, vr 0, vr 103, vi x3] (r.toList ++ []) h' Q)) :
    Wp true i_L_law 1073 [vr 1000, vr 0, vr 103, vi x3] [] h Q := by
  refine r_aload_n (v := 0) f_380_1073 rfl (by decide) ?_
  refine r_aload_n (v := 1000) f_380_1074 rfl (by decide) ?_
  refine r_iload_n (v := x3) f_380_1075 rfl ?_
  refine r_iconst f_380_1076 (by decide) ?_
  refine r_iadd (u := x3 + 1) f_380_1077 rfl o1 ?_
  refine r_saload f_380_1078 o2 ?_
  refine r_aload_n (v := 1000) f_380_1079 rfl (by decide) ?_
  refine r_iload_n (v := x3) f_380_1080 rfl ?_
  refine r_iconst f_380_1081 (by decide) ?_
  refine r_iadd (u := x3 + 2) f_380_1082 rfl o3 ?_
  refine r_saload f_380_1083 o4 ?_
  refine r_aload_n (v := 1000) f_380_1084 rfl (by decide) ?_
  refine r_iload_n (v := x3) f_380_1085 rfl ?_
  refine r_iconst f_380_1086 (by decide) ?_
  refine r_iadd (u := x3 + 3) f_380_1087 rfl o5 ?_
  refine r_saload f_380_1088 o6 ?_
  exact r_callv (as := [vr 0, vi (h 1000 (x3 + 1).toNat), vi (h 1000 (x3 + 2).toNat), vi (h 1000 (x3 + 3).toNat)]) (st' := []) (ls0 := [vr 0, vi (h 1000 (x3 + 1).toNat), vi (h 1000 (x3 + 2).toNat), vi (h 1000 (x3 + 3).toNat), vr 9999]) f_380_1089 (by decide) rfl rfl (Nat.le_of_ble_eq_true rfl) (Nat.le_of_ble_eq_true rfl) ⟨_, _, rfl, rfl⟩ rfl k7

theorem g_L_law_1092 {Q : PQ} {h : HP} {x3 : Int} {s0 : Int} 
    (o1 : -2147483648 ≤ x3 + 1 ∧ x3 + 1 ≤ 2147483647)
    (o2 : 0 ≤ x3 + 1 ∧ x3 + 1 < h 1001 0)
    (o3 : -2147483648 ≤ x3 + 2 ∧ x3 + 2 ≤ 2147483647)
    (o4 : 0 ≤ x3 + 2 ∧ x3 + 2 < h 1001 0)
    (o5 : -2147483648 ≤ x3 + 3 ∧ x3 + 3 ≤ 2147483647)
    (o6 : 0 ≤ x3 + 3 ∧ x3 + 3 < h 1001 0)
    (k7 : Wp true i_M_cede 0 [vr 103, vi (h 1000 (x3 + 1).toNat), vi (h 1000 (x3 + 2).toNat), vi (h 1000 (x3 + 3).toNat), vr 9999] [] h (fun r h' => Wp true i_L_law 1111 [vr 1000, vr 0, vr 103, vi x3] (r.toList ++ [vi s0]) h' Q)) :
    Wp true i_L_law 1092 [vr 1000, vr 0, vr 103, vi x3] [vi s0] h Q := by
  refine r_aload_n (v := 103) f_380_1092 rfl (by decide) ?_
  refine r_aload_n (v := 1000) f_380_1093 rfl (by decide) ?_
  refine r_iload_n (v := x3) f_380_1094 rfl ?_
  refine r_iconst f_380_1095 (by decide) ?_
  refine r_iadd (u := x3 + 1) f_380_1096 rfl o1 ?_
  refine r_saload f_380_1097 o2 ?_
  refine r_aload_n (v := 1000) f_380_1098 rfl (by decide) ?_
  refine r_iload_n (v := x3) f_380_1099 rfl ?_
  refine r_iconst f_380_1100 (by decide) ?_
  refine r_iadd (u := x3 + 2) f_380_1101 rfl o3 ?_
  refine r_saload f_380_1102 o4 ?_
  refine r_aload_n (v := 1000) f_380_1103 rfl (by decide) ?_
  refine r_iload_n (v := x3) f_380_1104 rfl ?_
  refine r_iconst f_380_1105 (by decide) ?_
  refine r_iadd (u := x3 + 3) f_380_1106 rfl o5 ?_
  refine r_saload f_380_1107 o6 ?_
  exact r_callv (as := [vr 103, vi (h 1000 (x3 + 1).toNat), vi (h 1000 (x3 + 2).toNat), vi (h 1000 (x3 + 3).toNat)]) (st' := [vi s0]) (ls0 := [vr 103, vi (h 1000 (x3 + 1).toNat), vi (h 1000 (x3 + 2).toNat), vi (h 1000 (x3 + 3).toNat), vr 9999]) f_380_1108 (by decide) rfl rfl (Nat.le_of_ble_eq_true rfl) (Nat.le_of_ble_eq_true rfl) ⟨_, _, rfl, rfl⟩ rfl k7

theorem g_L_law_1111 {Q : PQ} {h : HP} {x3 : Int} {s0 : Int} {s1 : Int} 
    (k1 : s0 = s1 → Wp true i_L_law 2076 [vr 1000, vr 0, vr 103, vi x3] [] h Q)
    (k2 : ¬ s0 = s1 → Q (some (vi 0)) h) :
    Wp true i_L_law 1111 [vr 1000, vr 0, vr 103, vi x3] [vi s1, vi s0] h Q := by
  refine r_br2 (t := 2076) f_380_1111 rfl cb_eq (fun c1 => ?_) (fun c1 => ?_)
  · exact (k1 c1)
  · refine r_iconst f_380_1114 (by decide) ?_
    exact r_retz f_380_1115 rfl (by decide) (k2 c1)

theorem g_L_law_1116 {Q : PQ} {h : HP} {x3 : Int} 
    (k1 : Wp true i_C_night 0 [vr 0] [] h (fun r h' => Wp true i_L_law 1120 [vr 1000, vr 0, vr 103, vi x3] (r.toList ++ []) h' Q)) :
    Wp true i_L_law 1116 [vr 1000, vr 0, vr 103, vi x3] [] h Q := by
  refine r_aload_n (v := 0) f_380_1116 rfl (by decide) ?_
  exact r_callv (as := [vr 0]) (st' := []) (ls0 := [vr 0]) f_380_1117 (by decide) rfl rfl (Nat.le_of_ble_eq_true rfl) (Nat.le_of_ble_eq_true rfl) ⟨_, _, rfl, rfl⟩ rfl k1

theorem g_L_law_1120 {Q : PQ} {h : HP} {x3 : Int} {s0 : Int} 
    (k1 : Wp true i_M_night 0 [vr 103] [] h (fun r h' => Wp true i_L_law 1124 [vr 1000, vr 0, vr 103, vi x3] (r.toList ++ [vi s0]) h' Q)) :
    Wp true i_L_law 1120 [vr 1000, vr 0, vr 103, vi x3] [vi s0] h Q := by
  refine r_aload_n (v := 103) f_380_1120 rfl (by decide) ?_
  exact r_callv (as := [vr 103]) (st' := [vi s0]) (ls0 := [vr 103]) f_380_1121 (by decide) rfl rfl (Nat.le_of_ble_eq_true rfl) (Nat.le_of_ble_eq_true rfl) ⟨_, _, rfl, rfl⟩ rfl k1

theorem g_L_law_1124 {Q : PQ} {h : HP} {x3 : Int} {s0 : Int} {s1 : Int} 
    (k1 : s0 = s1 → Wp true i_L_law 2076 [vr 1000, vr 0, vr 103, vi x3] [] h Q)
    (k2 : ¬ s0 = s1 → Q (some (vi 0)) h) :
    Wp true i_L_law 1124 [vr 1000, vr 0, vr 103, vi x3] [vi s1, vi s0] h Q := by
  refine r_br2 (t := 2076) f_380_1124 rfl cb_eq (fun c1 => ?_) (fun c1 => ?_)
  · exact (k1 c1)
  · refine r_iconst f_380_1127 (by decide) ?_
    exact r_retz f_380_1128 rfl (by decide) (k2 c1)

theorem g_L_law_1129 {Q : PQ} {h : HP} {x3 : Int} 
    (o1 : -2147483648 ≤ x3 + 1 ∧ x3 + 1 ≤ 2147483647)
    (o2 : 0 ≤ x3 + 1 ∧ x3 + 1 < h 1001 0)
    (k3 : Wp true i_C_sweep 0 [vr 0, vi (h 1000 (x3 + 1).toNat)] [] h (fun r h' => Wp true i_L_law 1138 [vr 1000, vr 0, vr 103, vi x3] (r.toList ++ []) h' Q)) :
    Wp true i_L_law 1129 [vr 1000, vr 0, vr 103, vi x3] [] h Q := by
  refine r_aload_n (v := 0) f_380_1129 rfl (by decide) ?_
  refine r_aload_n (v := 1000) f_380_1130 rfl (by decide) ?_
  refine r_iload_n (v := x3) f_380_1131 rfl ?_
  refine r_iconst f_380_1132 (by decide) ?_
  refine r_iadd (u := x3 + 1) f_380_1133 rfl o1 ?_
  refine r_saload f_380_1134 o2 ?_
  exact r_callv (as := [vr 0, vi (h 1000 (x3 + 1).toNat)]) (st' := []) (ls0 := [vr 0, vi (h 1000 (x3 + 1).toNat)]) f_380_1135 (by decide) rfl rfl (Nat.le_of_ble_eq_true rfl) (Nat.le_of_ble_eq_true rfl) ⟨_, _, rfl, rfl⟩ rfl k3

theorem g_L_law_1138 {Q : PQ} {h : HP} {x3 : Int} {s0 : Int} 
    (o1 : -2147483648 ≤ x3 + 1 ∧ x3 + 1 ≤ 2147483647)
    (o2 : 0 ≤ x3 + 1 ∧ x3 + 1 < h 1001 0)
    (k3 : Wp true i_M_sweep 0 [vr 103, vi (h 1000 (x3 + 1).toNat)] [] h (fun r h' => Wp true i_L_law 1147 [vr 1000, vr 0, vr 103, vi x3] (r.toList ++ [vi s0]) h' Q)) :
    Wp true i_L_law 1138 [vr 1000, vr 0, vr 103, vi x3] [vi s0] h Q := by
  refine r_aload_n (v := 103) f_380_1138 rfl (by decide) ?_
  refine r_aload_n (v := 1000) f_380_1139 rfl (by decide) ?_
  refine r_iload_n (v := x3) f_380_1140 rfl ?_
  refine r_iconst f_380_1141 (by decide) ?_
  refine r_iadd (u := x3 + 1) f_380_1142 rfl o1 ?_
  refine r_saload f_380_1143 o2 ?_
  exact r_callv (as := [vr 103, vi (h 1000 (x3 + 1).toNat)]) (st' := [vi s0]) (ls0 := [vr 103, vi (h 1000 (x3 + 1).toNat)]) f_380_1144 (by decide) rfl rfl (Nat.le_of_ble_eq_true rfl) (Nat.le_of_ble_eq_true rfl) ⟨_, _, rfl, rfl⟩ rfl k3

theorem g_L_law_1147 {Q : PQ} {h : HP} {x3 : Int} {s0 : Int} {s1 : Int} 
    (k1 : s0 = s1 → Wp true i_L_law 2076 [vr 1000, vr 0, vr 103, vi x3] [] h Q)
    (k2 : ¬ s0 = s1 → Q (some (vi 0)) h) :
    Wp true i_L_law 1147 [vr 1000, vr 0, vr 103, vi x3] [vi s1, vi s0] h Q := by
  refine r_br2 (t := 2076) f_380_1147 rfl cb_eq (fun c1 => ?_) (fun c1 => ?_)
  · exact (k1 c1)
  · refine r_iconst f_380_1150 (by decide) ?_
    exact r_retz f_380_1151 rfl (by decide) (k2 c1)

theorem g_L_law_1152 {Q : PQ} {h : HP} {x3 : Int} 
    (o1 : -2147483648 ≤ x3 + 1 ∧ x3 + 1 ≤ 2147483647)
    (o2 : 0 ≤ x3 + 1 ∧ x3 + 1 < h 1001 0)
    (o3 : -2147483648 ≤ x3 + 2 ∧ x3 + 2 ≤ 2147483647)
    (o4 : 0 ≤ x3 + 2 ∧ x3 + 2 < h 1001 0)
    (o5 : -2147483648 ≤ x3 + 3 ∧ x3 + 3 ≤ 2147483647)
    (o6 : 0 ≤ x3 + 3 ∧ x3 + 3 < h 1001 0)
    (k7 : Wp true i_C_move 0 [vr 0, vi (h 1000 (x3 + 1).toNat), vi (h 1000 (x3 + 2).toNat), vi (h 1000 (x3 + 3).toNat)] [] h (fun r h' => Wp true i_L_law 1171 [vr 1000, vr 0, vr 103, vi x3] (r.toList ++ []) h' Q)) :
    Wp true i_L_law 1152 [vr 1000, vr 0, vr 103, vi x3] [] h Q := by
  refine r_aload_n (v := 0) f_380_1152 rfl (by decide) ?_
  refine r_aload_n (v := 1000) f_380_1153 rfl (by decide) ?_
  refine r_iload_n (v := x3) f_380_1154 rfl ?_
  refine r_iconst f_380_1155 (by decide) ?_
  refine r_iadd (u := x3 + 1) f_380_1156 rfl o1 ?_
  refine r_saload f_380_1157 o2 ?_
  refine r_aload_n (v := 1000) f_380_1158 rfl (by decide) ?_
  refine r_iload_n (v := x3) f_380_1159 rfl ?_
  refine r_iconst f_380_1160 (by decide) ?_
  refine r_iadd (u := x3 + 2) f_380_1161 rfl o3 ?_
  refine r_saload f_380_1162 o4 ?_
  refine r_aload_n (v := 1000) f_380_1163 rfl (by decide) ?_
  refine r_iload_n (v := x3) f_380_1164 rfl ?_
  refine r_iconst f_380_1165 (by decide) ?_
  refine r_iadd (u := x3 + 3) f_380_1166 rfl o5 ?_
  refine r_saload f_380_1167 o6 ?_
  exact r_callv (as := [vr 0, vi (h 1000 (x3 + 1).toNat), vi (h 1000 (x3 + 2).toNat), vi (h 1000 (x3 + 3).toNat)]) (st' := []) (ls0 := [vr 0, vi (h 1000 (x3 + 1).toNat), vi (h 1000 (x3 + 2).toNat), vi (h 1000 (x3 + 3).toNat)]) f_380_1168 (by decide) rfl rfl (Nat.le_of_ble_eq_true rfl) (Nat.le_of_ble_eq_true rfl) ⟨_, _, rfl, rfl⟩ rfl k7

theorem g_L_law_1171 {Q : PQ} {h : HP} {x3 : Int} {s0 : Int} 
    (o1 : -2147483648 ≤ x3 + 1 ∧ x3 + 1 ≤ 2147483647)
    (o2 : 0 ≤ x3 + 1 ∧ x3 + 1 < h 1001 0)
    (o3 : -2147483648 ≤ x3 + 2 ∧ x3 + 2 ≤ 2147483647)
    (o4 : 0 ≤ x3 + 2 ∧ x3 + 2 < h 1001 0)
    (o5 : -2147483648 ≤ x3 + 3 ∧ x3 + 3 ≤ 2147483647)
    (o6 : 0 ≤ x3 + 3 ∧ x3 + 3 < h 1001 0)
    (k7 : Wp true i_M_move 0 [vr 103, vi (h 1000 (x3 + 1).toNat), vi (h 1000 (x3 + 2).toNat), vi (h 1000 (x3 + 3).toNat)] [] h (fun r h' => Wp true i_L_law 1190 [vr 1000, vr 0, vr 103, vi x3] (r.toList ++ [vi s0]) h' Q)) :
    Wp true i_L_law 1171 [vr 1000, vr 0, vr 103, vi x3] [vi s0] h Q := by
  refine r_aload_n (v := 103) f_380_1171 rfl (by decide) ?_
  refine r_aload_n (v := 1000) f_380_1172 rfl (by decide) ?_
  refine r_iload_n (v := x3) f_380_1173 rfl ?_
  refine r_iconst f_380_1174 (by decide) ?_
  refine r_iadd (u := x3 + 1) f_380_1175 rfl o1 ?_
  refine r_saload f_380_1176 o2 ?_
  refine r_aload_n (v := 1000) f_380_1177 rfl (by decide) ?_
  refine r_iload_n (v := x3) f_380_1178 rfl ?_
  refine r_iconst f_380_1179 (by decide) ?_
  refine r_iadd (u := x3 + 2) f_380_1180 rfl o3 ?_
  refine r_saload f_380_1181 o4 ?_
  refine r_aload_n (v := 1000) f_380_1182 rfl (by decide) ?_
  refine r_iload_n (v := x3) f_380_1183 rfl ?_
  refine r_iconst f_380_1184 (by decide) ?_
  refine r_iadd (u := x3 + 3) f_380_1185 rfl o5 ?_
  refine r_saload f_380_1186 o6 ?_
  exact r_callv (as := [vr 103, vi (h 1000 (x3 + 1).toNat), vi (h 1000 (x3 + 2).toNat), vi (h 1000 (x3 + 3).toNat)]) (st' := [vi s0]) (ls0 := [vr 103, vi (h 1000 (x3 + 1).toNat), vi (h 1000 (x3 + 2).toNat), vi (h 1000 (x3 + 3).toNat)]) f_380_1187 (by decide) rfl rfl (Nat.le_of_ble_eq_true rfl) (Nat.le_of_ble_eq_true rfl) ⟨_, _, rfl, rfl⟩ rfl k7

theorem g_L_law_1190 {Q : PQ} {h : HP} {x3 : Int} {s0 : Int} {s1 : Int} 
    (k1 : s0 = s1 → Wp true i_L_law 2076 [vr 1000, vr 0, vr 103, vi x3] [] h Q)
    (k2 : ¬ s0 = s1 → Q (some (vi 0)) h) :
    Wp true i_L_law 1190 [vr 1000, vr 0, vr 103, vi x3] [vi s1, vi s0] h Q := by
  refine r_br2 (t := 2076) f_380_1190 rfl cb_eq (fun c1 => ?_) (fun c1 => ?_)
  · exact (k1 c1)
  · refine r_iconst f_380_1193 (by decide) ?_
    exact r_retz f_380_1194 rfl (by decide) (k2 c1)

theorem g_L_law_1195 {Q : PQ} {h : HP} {x3 : Int} 
    (o1 : -2147483648 ≤ x3 + 1 ∧ x3 + 1 ≤ 2147483647)
    (o2 : 0 ≤ x3 + 1 ∧ x3 + 1 < h 1001 0)
    (o3 : -2147483648 ≤ x3 + 2 ∧ x3 + 2 ≤ 2147483647)
    (o4 : 0 ≤ x3 + 2 ∧ x3 + 2 < h 1001 0)
    (k5 : Wp true i_C_leg 0 [vr 0, vi (h 1000 (x3 + 1).toNat), vi (h 1000 (x3 + 2).toNat)] [] h (fun r h' => Wp true i_L_law 1209 [vr 1000, vr 0, vr 103, vi x3] (r.toList ++ []) h' Q)) :
    Wp true i_L_law 1195 [vr 1000, vr 0, vr 103, vi x3] [] h Q := by
  refine r_aload_n (v := 0) f_380_1195 rfl (by decide) ?_
  refine r_aload_n (v := 1000) f_380_1196 rfl (by decide) ?_
  refine r_iload_n (v := x3) f_380_1197 rfl ?_
  refine r_iconst f_380_1198 (by decide) ?_
  refine r_iadd (u := x3 + 1) f_380_1199 rfl o1 ?_
  refine r_saload f_380_1200 o2 ?_
  refine r_aload_n (v := 1000) f_380_1201 rfl (by decide) ?_
  refine r_iload_n (v := x3) f_380_1202 rfl ?_
  refine r_iconst f_380_1203 (by decide) ?_
  refine r_iadd (u := x3 + 2) f_380_1204 rfl o3 ?_
  refine r_saload f_380_1205 o4 ?_
  exact r_callv (as := [vr 0, vi (h 1000 (x3 + 1).toNat), vi (h 1000 (x3 + 2).toNat)]) (st' := []) (ls0 := [vr 0, vi (h 1000 (x3 + 1).toNat), vi (h 1000 (x3 + 2).toNat)]) f_380_1206 (by decide) rfl rfl (Nat.le_of_ble_eq_true rfl) (Nat.le_of_ble_eq_true rfl) ⟨_, _, rfl, rfl⟩ rfl k5

theorem g_L_law_1209 {Q : PQ} {h : HP} {x3 : Int} {s0 : Int} 
    (o1 : -2147483648 ≤ x3 + 1 ∧ x3 + 1 ≤ 2147483647)
    (o2 : 0 ≤ x3 + 1 ∧ x3 + 1 < h 1001 0)
    (o3 : -2147483648 ≤ x3 + 2 ∧ x3 + 2 ≤ 2147483647)
    (o4 : 0 ≤ x3 + 2 ∧ x3 + 2 < h 1001 0)
    (k5 : Wp true i_M_leg 0 [vr 103, vi (h 1000 (x3 + 1).toNat), vi (h 1000 (x3 + 2).toNat)] [] h (fun r h' => Wp true i_L_law 1223 [vr 1000, vr 0, vr 103, vi x3] (r.toList ++ [vi s0]) h' Q)) :
    Wp true i_L_law 1209 [vr 1000, vr 0, vr 103, vi x3] [vi s0] h Q := by
  refine r_aload_n (v := 103) f_380_1209 rfl (by decide) ?_
  refine r_aload_n (v := 1000) f_380_1210 rfl (by decide) ?_
  refine r_iload_n (v := x3) f_380_1211 rfl ?_
  refine r_iconst f_380_1212 (by decide) ?_
  refine r_iadd (u := x3 + 1) f_380_1213 rfl o1 ?_
  refine r_saload f_380_1214 o2 ?_
  refine r_aload_n (v := 1000) f_380_1215 rfl (by decide) ?_
  refine r_iload_n (v := x3) f_380_1216 rfl ?_
  refine r_iconst f_380_1217 (by decide) ?_
  refine r_iadd (u := x3 + 2) f_380_1218 rfl o3 ?_
  refine r_saload f_380_1219 o4 ?_
  exact r_callv (as := [vr 103, vi (h 1000 (x3 + 1).toNat), vi (h 1000 (x3 + 2).toNat)]) (st' := [vi s0]) (ls0 := [vr 103, vi (h 1000 (x3 + 1).toNat), vi (h 1000 (x3 + 2).toNat)]) f_380_1220 (by decide) rfl rfl (Nat.le_of_ble_eq_true rfl) (Nat.le_of_ble_eq_true rfl) ⟨_, _, rfl, rfl⟩ rfl k5

theorem g_L_law_1223 {Q : PQ} {h : HP} {x3 : Int} {s0 : Int} {s1 : Int} 
    (k1 : s0 = s1 → Wp true i_L_law 2076 [vr 1000, vr 0, vr 103, vi x3] [] h Q)
    (k2 : ¬ s0 = s1 → Q (some (vi 0)) h) :
    Wp true i_L_law 1223 [vr 1000, vr 0, vr 103, vi x3] [vi s1, vi s0] h Q := by
  refine r_br2 (t := 2076) f_380_1223 rfl cb_eq (fun c1 => ?_) (fun c1 => ?_)
  · exact (k1 c1)
  · refine r_iconst f_380_1226 (by decide) ?_
    exact r_retz f_380_1227 rfl (by decide) (k2 c1)

theorem g_L_law_1228 {Q : PQ} {h : HP} {x3 : Int} 
    (o1 : -2147483648 ≤ x3 + 1 ∧ x3 + 1 ≤ 2147483647)
    (o2 : 0 ≤ x3 + 1 ∧ x3 + 1 < h 1001 0)
    (k3 : Wp true i_C_bends 0 [vr 0, vi (h 1000 (x3 + 1).toNat)] [] h (fun r h' => Wp true i_L_law 1237 [vr 1000, vr 0, vr 103, vi x3] (r.toList ++ []) h' Q)) :
    Wp true i_L_law 1228 [vr 1000, vr 0, vr 103, vi x3] [] h Q := by
  refine r_aload_n (v := 0) f_380_1228 rfl (by decide) ?_
  refine r_aload_n (v := 1000) f_380_1229 rfl (by decide) ?_
  refine r_iload_n (v := x3) f_380_1230 rfl ?_
  refine r_iconst f_380_1231 (by decide) ?_
  refine r_iadd (u := x3 + 1) f_380_1232 rfl o1 ?_
  refine r_saload f_380_1233 o2 ?_
  exact r_callv (as := [vr 0, vi (h 1000 (x3 + 1).toNat)]) (st' := []) (ls0 := [vr 0, vi (h 1000 (x3 + 1).toNat)]) f_380_1234 (by decide) rfl rfl (Nat.le_of_ble_eq_true rfl) (Nat.le_of_ble_eq_true rfl) ⟨_, _, rfl, rfl⟩ rfl k3

theorem g_L_law_1237 {Q : PQ} {h : HP} {x3 : Int} {s0 : Int} 
    (o1 : -2147483648 ≤ x3 + 1 ∧ x3 + 1 ≤ 2147483647)
    (o2 : 0 ≤ x3 + 1 ∧ x3 + 1 < h 1001 0)
    (k3 : Wp true i_M_bends 0 [vr 103, vi (h 1000 (x3 + 1).toNat)] [] h (fun r h' => Wp true i_L_law 1246 [vr 1000, vr 0, vr 103, vi x3] (r.toList ++ [vi s0]) h' Q)) :
    Wp true i_L_law 1237 [vr 1000, vr 0, vr 103, vi x3] [vi s0] h Q := by
  refine r_aload_n (v := 103) f_380_1237 rfl (by decide) ?_
  refine r_aload_n (v := 1000) f_380_1238 rfl (by decide) ?_
  refine r_iload_n (v := x3) f_380_1239 rfl ?_
  refine r_iconst f_380_1240 (by decide) ?_
  refine r_iadd (u := x3 + 1) f_380_1241 rfl o1 ?_
  refine r_saload f_380_1242 o2 ?_
  exact r_callv (as := [vr 103, vi (h 1000 (x3 + 1).toNat)]) (st' := [vi s0]) (ls0 := [vr 103, vi (h 1000 (x3 + 1).toNat)]) f_380_1243 (by decide) rfl rfl (Nat.le_of_ble_eq_true rfl) (Nat.le_of_ble_eq_true rfl) ⟨_, _, rfl, rfl⟩ rfl k3

theorem g_L_law_1246 {Q : PQ} {h : HP} {x3 : Int} {s0 : Int} {s1 : Int} 
    (k1 : s0 = s1 → Wp true i_L_law 2076 [vr 1000, vr 0, vr 103, vi x3] [] h Q)
    (k2 : ¬ s0 = s1 → Q (some (vi 0)) h) :
    Wp true i_L_law 1246 [vr 1000, vr 0, vr 103, vi x3] [vi s1, vi s0] h Q := by
  refine r_br2 (t := 2076) f_380_1246 rfl cb_eq (fun c1 => ?_) (fun c1 => ?_)
  · exact (k1 c1)
  · refine r_iconst f_380_1249 (by decide) ?_
    exact r_retz f_380_1250 rfl (by decide) (k2 c1)

theorem g_L_law_1251 {Q : PQ} {h : HP} {x3 : Int} 
    (o1 : -2147483648 ≤ x3 + 1 ∧ x3 + 1 ≤ 2147483647)
    (o2 : 0 ≤ x3 + 1 ∧ x3 + 1 < h 1001 0)
    (k3 : Wp true i_C_draw 0 [vr 0, vi (h 1000 (x3 + 1).toNat), vr 9999, vr 9999, vr 9999, vr 9999] [] h (fun r h' => Wp true i_L_law 1260 [vr 1000, vr 0, vr 103, vi x3] (r.toList ++ []) h' Q)) :
    Wp true i_L_law 1251 [vr 1000, vr 0, vr 103, vi x3] [] h Q := by
  refine r_aload_n (v := 0) f_380_1251 rfl (by decide) ?_
  refine r_aload_n (v := 1000) f_380_1252 rfl (by decide) ?_
  refine r_iload_n (v := x3) f_380_1253 rfl ?_
  refine r_iconst f_380_1254 (by decide) ?_
  refine r_iadd (u := x3 + 1) f_380_1255 rfl o1 ?_
  refine r_saload f_380_1256 o2 ?_
  exact r_callv (as := [vr 0, vi (h 1000 (x3 + 1).toNat)]) (st' := []) (ls0 := [vr 0, vi (h 1000 (x3 + 1).toNat), vr 9999, vr 9999, vr 9999, vr 9999]) f_380_1257 (by decide) rfl rfl (Nat.le_of_ble_eq_true rfl) (Nat.le_of_ble_eq_true rfl) ⟨_, _, rfl, rfl⟩ rfl k3

theorem g_L_law_1260 {Q : PQ} {h : HP} {x3 : Int} {s0 : Int} 
    (o1 : -2147483648 ≤ x3 + 1 ∧ x3 + 1 ≤ 2147483647)
    (o2 : 0 ≤ x3 + 1 ∧ x3 + 1 < h 1001 0)
    (k3 : Wp true i_M_draw 0 [vr 103, vi (h 1000 (x3 + 1).toNat), vr 9999] [] h (fun r h' => Wp true i_L_law 1269 [vr 1000, vr 0, vr 103, vi x3] (r.toList ++ [vi s0]) h' Q)) :
    Wp true i_L_law 1260 [vr 1000, vr 0, vr 103, vi x3] [vi s0] h Q := by
  refine r_aload_n (v := 103) f_380_1260 rfl (by decide) ?_
  refine r_aload_n (v := 1000) f_380_1261 rfl (by decide) ?_
  refine r_iload_n (v := x3) f_380_1262 rfl ?_
  refine r_iconst f_380_1263 (by decide) ?_
  refine r_iadd (u := x3 + 1) f_380_1264 rfl o1 ?_
  refine r_saload f_380_1265 o2 ?_
  exact r_callv (as := [vr 103, vi (h 1000 (x3 + 1).toNat)]) (st' := [vi s0]) (ls0 := [vr 103, vi (h 1000 (x3 + 1).toNat), vr 9999]) f_380_1266 (by decide) rfl rfl (Nat.le_of_ble_eq_true rfl) (Nat.le_of_ble_eq_true rfl) ⟨_, _, rfl, rfl⟩ rfl k3

theorem g_L_law_1269 {Q : PQ} {h : HP} {x3 : Int} {s0 : Int} {s1 : Int} 
    (k1 : s0 = s1 → Wp true i_L_law 2076 [vr 1000, vr 0, vr 103, vi x3] [] h Q)
    (k2 : ¬ s0 = s1 → Q (some (vi 0)) h) :
    Wp true i_L_law 1269 [vr 1000, vr 0, vr 103, vi x3] [vi s1, vi s0] h Q := by
  refine r_br2 (t := 2076) f_380_1269 rfl cb_eq (fun c1 => ?_) (fun c1 => ?_)
  · exact (k1 c1)
  · refine r_iconst f_380_1272 (by decide) ?_
    exact r_retz f_380_1273 rfl (by decide) (k2 c1)

theorem g_L_law_1274 {Q : PQ} {h : HP} {x3 : Int} 
    (o1 : -2147483648 ≤ x3 + 1 ∧ x3 + 1 ≤ 2147483647)
    (o2 : 0 ≤ x3 + 1 ∧ x3 + 1 < h 1001 0)
    (k3 : Wp true i_C_copy 0 [vr 0, vi (h 1000 (x3 + 1).toNat), vr 9999, vr 9999] [] h (fun r h' => Wp true i_L_law 1283 [vr 1000, vr 0, vr 103, vi x3] (r.toList ++ []) h' Q)) :
    Wp true i_L_law 1274 [vr 1000, vr 0, vr 103, vi x3] [] h Q := by
  refine r_aload_n (v := 0) f_380_1274 rfl (by decide) ?_
  refine r_aload_n (v := 1000) f_380_1275 rfl (by decide) ?_
  refine r_iload_n (v := x3) f_380_1276 rfl ?_
  refine r_iconst f_380_1277 (by decide) ?_
  refine r_iadd (u := x3 + 1) f_380_1278 rfl o1 ?_
  refine r_saload f_380_1279 o2 ?_
  exact r_callv (as := [vr 0, vi (h 1000 (x3 + 1).toNat)]) (st' := []) (ls0 := [vr 0, vi (h 1000 (x3 + 1).toNat), vr 9999, vr 9999]) f_380_1280 (by decide) rfl rfl (Nat.le_of_ble_eq_true rfl) (Nat.le_of_ble_eq_true rfl) ⟨_, _, rfl, rfl⟩ rfl k3

theorem g_L_law_1283 {Q : PQ} {h : HP} {x3 : Int} {s0 : Int} 
    (o1 : -2147483648 ≤ x3 + 1 ∧ x3 + 1 ≤ 2147483647)
    (o2 : 0 ≤ x3 + 1 ∧ x3 + 1 < h 1001 0)
    (k3 : Wp true i_M_copy 0 [vr 103, vi (h 1000 (x3 + 1).toNat), vr 9999] [] h (fun r h' => Wp true i_L_law 1292 [vr 1000, vr 0, vr 103, vi x3] (r.toList ++ [vi s0]) h' Q)) :
    Wp true i_L_law 1283 [vr 1000, vr 0, vr 103, vi x3] [vi s0] h Q := by
  refine r_aload_n (v := 103) f_380_1283 rfl (by decide) ?_
  refine r_aload_n (v := 1000) f_380_1284 rfl (by decide) ?_
  refine r_iload_n (v := x3) f_380_1285 rfl ?_
  refine r_iconst f_380_1286 (by decide) ?_
  refine r_iadd (u := x3 + 1) f_380_1287 rfl o1 ?_
  refine r_saload f_380_1288 o2 ?_
  exact r_callv (as := [vr 103, vi (h 1000 (x3 + 1).toNat)]) (st' := [vi s0]) (ls0 := [vr 103, vi (h 1000 (x3 + 1).toNat), vr 9999]) f_380_1289 (by decide) rfl rfl (Nat.le_of_ble_eq_true rfl) (Nat.le_of_ble_eq_true rfl) ⟨_, _, rfl, rfl⟩ rfl k3

theorem g_L_law_1292 {Q : PQ} {h : HP} {x3 : Int} {s0 : Int} {s1 : Int} 
    (k1 : s0 = s1 → Wp true i_L_law 2076 [vr 1000, vr 0, vr 103, vi x3] [] h Q)
    (k2 : ¬ s0 = s1 → Q (some (vi 0)) h) :
    Wp true i_L_law 1292 [vr 1000, vr 0, vr 103, vi x3] [vi s1, vi s0] h Q := by
  refine r_br2 (t := 2076) f_380_1292 rfl cb_eq (fun c1 => ?_) (fun c1 => ?_)
  · exact (k1 c1)
  · refine r_iconst f_380_1295 (by decide) ?_
    exact r_retz f_380_1296 rfl (by decide) (k2 c1)

theorem g_L_law_1297 {Q : PQ} {h : HP} {x3 : Int} 
    (o1 : -2147483648 ≤ x3 + 1 ∧ x3 + 1 ≤ 2147483647)
    (o2 : 0 ≤ x3 + 1 ∧ x3 + 1 < h 1001 0)
    (k3 : Wp true i_C_islands 0 [vr 0, vi (h 1000 (x3 + 1).toNat)] [] h (fun r h' => Wp true i_L_law 1306 [vr 1000, vr 0, vr 103, vi x3] (r.toList ++ []) h' Q)) :
    Wp true i_L_law 1297 [vr 1000, vr 0, vr 103, vi x3] [] h Q := by
  refine r_aload_n (v := 0) f_380_1297 rfl (by decide) ?_
  refine r_aload_n (v := 1000) f_380_1298 rfl (by decide) ?_
  refine r_iload_n (v := x3) f_380_1299 rfl ?_
  refine r_iconst f_380_1300 (by decide) ?_
  refine r_iadd (u := x3 + 1) f_380_1301 rfl o1 ?_
  refine r_saload f_380_1302 o2 ?_
  exact r_callv (as := [vr 0, vi (h 1000 (x3 + 1).toNat)]) (st' := []) (ls0 := [vr 0, vi (h 1000 (x3 + 1).toNat)]) f_380_1303 (by decide) rfl rfl (Nat.le_of_ble_eq_true rfl) (Nat.le_of_ble_eq_true rfl) ⟨_, _, rfl, rfl⟩ rfl k3

theorem g_L_law_1306 {Q : PQ} {h : HP} {x3 : Int} {s0 : Int} 
    (o1 : -2147483648 ≤ x3 + 1 ∧ x3 + 1 ≤ 2147483647)
    (o2 : 0 ≤ x3 + 1 ∧ x3 + 1 < h 1001 0)
    (k3 : Wp true i_M_islands 0 [vr 103, vi (h 1000 (x3 + 1).toNat)] [] h (fun r h' => Wp true i_L_law 1315 [vr 1000, vr 0, vr 103, vi x3] (r.toList ++ [vi s0]) h' Q)) :
    Wp true i_L_law 1306 [vr 1000, vr 0, vr 103, vi x3] [vi s0] h Q := by
  refine r_aload_n (v := 103) f_380_1306 rfl (by decide) ?_
  refine r_aload_n (v := 1000) f_380_1307 rfl (by decide) ?_
  refine r_iload_n (v := x3) f_380_1308 rfl ?_
  refine r_iconst f_380_1309 (by decide) ?_
  refine r_iadd (u := x3 + 1) f_380_1310 rfl o1 ?_
  refine r_saload f_380_1311 o2 ?_
  exact r_callv (as := [vr 103, vi (h 1000 (x3 + 1).toNat)]) (st' := [vi s0]) (ls0 := [vr 103, vi (h 1000 (x3 + 1).toNat)]) f_380_1312 (by decide) rfl rfl (Nat.le_of_ble_eq_true rfl) (Nat.le_of_ble_eq_true rfl) ⟨_, _, rfl, rfl⟩ rfl k3

theorem g_L_law_1315 {Q : PQ} {h : HP} {x3 : Int} {s0 : Int} {s1 : Int} 
    (k1 : s0 = s1 → Wp true i_L_law 2076 [vr 1000, vr 0, vr 103, vi x3] [] h Q)
    (k2 : ¬ s0 = s1 → Q (some (vi 0)) h) :
    Wp true i_L_law 1315 [vr 1000, vr 0, vr 103, vi x3] [vi s1, vi s0] h Q := by
  refine r_br2 (t := 2076) f_380_1315 rfl cb_eq (fun c1 => ?_) (fun c1 => ?_)
  · exact (k1 c1)
  · refine r_iconst f_380_1318 (by decide) ?_
    exact r_retz f_380_1319 rfl (by decide) (k2 c1)

theorem g_L_law_1320 {Q : PQ} {h : HP} {x3 : Int} 
    (o1 : -2147483648 ≤ x3 + 1 ∧ x3 + 1 ≤ 2147483647)
    (o2 : 0 ≤ x3 + 1 ∧ x3 + 1 < h 1001 0)
    (o3 : -2147483648 ≤ x3 + 2 ∧ x3 + 2 ≤ 2147483647)
    (o4 : 0 ≤ x3 + 2 ∧ x3 + 2 < h 1001 0)
    (k5 : Wp true i_C_island 0 [vr 0, vi (h 1000 (x3 + 1).toNat), vi (h 1000 (x3 + 2).toNat)] [] h (fun r h' => Wp true i_L_law 1334 [vr 1000, vr 0, vr 103, vi x3] (r.toList ++ []) h' Q)) :
    Wp true i_L_law 1320 [vr 1000, vr 0, vr 103, vi x3] [] h Q := by
  refine r_aload_n (v := 0) f_380_1320 rfl (by decide) ?_
  refine r_aload_n (v := 1000) f_380_1321 rfl (by decide) ?_
  refine r_iload_n (v := x3) f_380_1322 rfl ?_
  refine r_iconst f_380_1323 (by decide) ?_
  refine r_iadd (u := x3 + 1) f_380_1324 rfl o1 ?_
  refine r_saload f_380_1325 o2 ?_
  refine r_aload_n (v := 1000) f_380_1326 rfl (by decide) ?_
  refine r_iload_n (v := x3) f_380_1327 rfl ?_
  refine r_iconst f_380_1328 (by decide) ?_
  refine r_iadd (u := x3 + 2) f_380_1329 rfl o3 ?_
  refine r_saload f_380_1330 o4 ?_
  exact r_callv (as := [vr 0, vi (h 1000 (x3 + 1).toNat), vi (h 1000 (x3 + 2).toNat)]) (st' := []) (ls0 := [vr 0, vi (h 1000 (x3 + 1).toNat), vi (h 1000 (x3 + 2).toNat)]) f_380_1331 (by decide) rfl rfl (Nat.le_of_ble_eq_true rfl) (Nat.le_of_ble_eq_true rfl) ⟨_, _, rfl, rfl⟩ rfl k5

theorem g_L_law_1334 {Q : PQ} {h : HP} {x3 : Int} {s0 : Int} 
    (o1 : -2147483648 ≤ x3 + 1 ∧ x3 + 1 ≤ 2147483647)
    (o2 : 0 ≤ x3 + 1 ∧ x3 + 1 < h 1001 0)
    (o3 : -2147483648 ≤ x3 + 2 ∧ x3 + 2 ≤ 2147483647)
    (o4 : 0 ≤ x3 + 2 ∧ x3 + 2 < h 1001 0)
    (k5 : Wp true i_M_island 0 [vr 103, vi (h 1000 (x3 + 1).toNat), vi (h 1000 (x3 + 2).toNat)] [] h (fun r h' => Wp true i_L_law 1348 [vr 1000, vr 0, vr 103, vi x3] (r.toList ++ [vi s0]) h' Q)) :
    Wp true i_L_law 1334 [vr 1000, vr 0, vr 103, vi x3] [vi s0] h Q := by
  refine r_aload_n (v := 103) f_380_1334 rfl (by decide) ?_
  refine r_aload_n (v := 1000) f_380_1335 rfl (by decide) ?_
  refine r_iload_n (v := x3) f_380_1336 rfl ?_
  refine r_iconst f_380_1337 (by decide) ?_
  refine r_iadd (u := x3 + 1) f_380_1338 rfl o1 ?_
  refine r_saload f_380_1339 o2 ?_
  refine r_aload_n (v := 1000) f_380_1340 rfl (by decide) ?_
  refine r_iload_n (v := x3) f_380_1341 rfl ?_
  refine r_iconst f_380_1342 (by decide) ?_
  refine r_iadd (u := x3 + 2) f_380_1343 rfl o3 ?_
  refine r_saload f_380_1344 o4 ?_
  exact r_callv (as := [vr 103, vi (h 1000 (x3 + 1).toNat), vi (h 1000 (x3 + 2).toNat)]) (st' := [vi s0]) (ls0 := [vr 103, vi (h 1000 (x3 + 1).toNat), vi (h 1000 (x3 + 2).toNat)]) f_380_1345 (by decide) rfl rfl (Nat.le_of_ble_eq_true rfl) (Nat.le_of_ble_eq_true rfl) ⟨_, _, rfl, rfl⟩ rfl k5

theorem g_L_law_1348 {Q : PQ} {h : HP} {x3 : Int} {s0 : Int} {s1 : Int} 
    (k1 : s0 = s1 → Wp true i_L_law 2076 [vr 1000, vr 0, vr 103, vi x3] [] h Q)
    (k2 : ¬ s0 = s1 → Q (some (vi 0)) h) :
    Wp true i_L_law 1348 [vr 1000, vr 0, vr 103, vi x3] [vi s1, vi s0] h Q := by
  refine r_br2 (t := 2076) f_380_1348 rfl cb_eq (fun c1 => ?_) (fun c1 => ?_)
  · exact (k1 c1)
  · refine r_iconst f_380_1351 (by decide) ?_
    exact r_retz f_380_1352 rfl (by decide) (k2 c1)

theorem g_L_law_1353 {Q : PQ} {h : HP} {x3 : Int} 
    (o1 : -2147483648 ≤ x3 + 1 ∧ x3 + 1 ≤ 2147483647)
    (o2 : 0 ≤ x3 + 1 ∧ x3 + 1 < h 1001 0)
    (k3 : Wp true i_C_mainland 0 [vr 0, vi (h 1000 (x3 + 1).toNat)] [] h (fun r h' => Wp true i_L_law 1362 [vr 1000, vr 0, vr 103, vi x3] (r.toList ++ []) h' Q)) :
    Wp true i_L_law 1353 [vr 1000, vr 0, vr 103, vi x3] [] h Q := by
  refine r_aload_n (v := 0) f_380_1353 rfl (by decide) ?_
  refine r_aload_n (v := 1000) f_380_1354 rfl (by decide) ?_
  refine r_iload_n (v := x3) f_380_1355 rfl ?_
  refine r_iconst f_380_1356 (by decide) ?_
  refine r_iadd (u := x3 + 1) f_380_1357 rfl o1 ?_
  refine r_saload f_380_1358 o2 ?_
  exact r_callv (as := [vr 0, vi (h 1000 (x3 + 1).toNat)]) (st' := []) (ls0 := [vr 0, vi (h 1000 (x3 + 1).toNat)]) f_380_1359 (by decide) rfl rfl (Nat.le_of_ble_eq_true rfl) (Nat.le_of_ble_eq_true rfl) ⟨_, _, rfl, rfl⟩ rfl k3

theorem g_L_law_1362 {Q : PQ} {h : HP} {x3 : Int} {s0 : Int} 
    (o1 : -2147483648 ≤ x3 + 1 ∧ x3 + 1 ≤ 2147483647)
    (o2 : 0 ≤ x3 + 1 ∧ x3 + 1 < h 1001 0)
    (k3 : Wp true i_M_mainland 0 [vr 103, vi (h 1000 (x3 + 1).toNat), vr 9999, vr 9999, vr 9999] [] h (fun r h' => Wp true i_L_law 1371 [vr 1000, vr 0, vr 103, vi x3] (r.toList ++ [vi s0]) h' Q)) :
    Wp true i_L_law 1362 [vr 1000, vr 0, vr 103, vi x3] [vi s0] h Q := by
  refine r_aload_n (v := 103) f_380_1362 rfl (by decide) ?_
  refine r_aload_n (v := 1000) f_380_1363 rfl (by decide) ?_
  refine r_iload_n (v := x3) f_380_1364 rfl ?_
  refine r_iconst f_380_1365 (by decide) ?_
  refine r_iadd (u := x3 + 1) f_380_1366 rfl o1 ?_
  refine r_saload f_380_1367 o2 ?_
  exact r_callv (as := [vr 103, vi (h 1000 (x3 + 1).toNat)]) (st' := [vi s0]) (ls0 := [vr 103, vi (h 1000 (x3 + 1).toNat), vr 9999, vr 9999, vr 9999]) f_380_1368 (by decide) rfl rfl (Nat.le_of_ble_eq_true rfl) (Nat.le_of_ble_eq_true rfl) ⟨_, _, rfl, rfl⟩ rfl k3

theorem g_L_law_1371 {Q : PQ} {h : HP} {x3 : Int} {s0 : Int} {s1 : Int} 
    (k1 : s0 = s1 → Wp true i_L_law 2076 [vr 1000, vr 0, vr 103, vi x3] [] h Q)
    (k2 : ¬ s0 = s1 → Q (some (vi 0)) h) :
    Wp true i_L_law 1371 [vr 1000, vr 0, vr 103, vi x3] [vi s1, vi s0] h Q := by
  refine r_br2 (t := 2076) f_380_1371 rfl cb_eq (fun c1 => ?_) (fun c1 => ?_)
  · exact (k1 c1)
  · refine r_iconst f_380_1374 (by decide) ?_
    exact r_retz f_380_1375 rfl (by decide) (k2 c1)

theorem g_L_law_1376 {Q : PQ} {h : HP} {x3 : Int} 
    (o1 : -2147483648 ≤ x3 + 1 ∧ x3 + 1 ≤ 2147483647)
    (o2 : 0 ≤ x3 + 1 ∧ x3 + 1 < h 1001 0)
    (o3 : -2147483648 ≤ x3 + 2 ∧ x3 + 2 ≤ 2147483647)
    (o4 : 0 ≤ x3 + 2 ∧ x3 + 2 < h 1001 0)
    (o5 : -2147483648 ≤ x3 + 3 ∧ x3 + 3 ≤ 2147483647)
    (o6 : 0 ≤ x3 + 3 ∧ x3 + 3 < h 1001 0)
    (o7 : -2147483648 ≤ x3 + 4 ∧ x3 + 4 ≤ 2147483647)
    (o8 : 0 ≤ x3 + 4 ∧ x3 + 4 < h 1001 0)
    (k9 : Wp true i_C_joined 0 [vr 0, vi (h 1000 (x3 + 1).toNat), vi (h 1000 (x3 + 2).toNat), vi (h 1000 (x3 + 3).toNat), vi (h 1000 (x3 + 4).toNat)] [] h (fun r h' => Wp true i_L_law 1400 [vr 1000, vr 0, vr 103, vi x3] (r.toList ++ []) h' Q)) :
    Wp true i_L_law 1376 [vr 1000, vr 0, vr 103, vi x3] [] h Q := by
  refine r_aload_n (v := 0) f_380_1376 rfl (by decide) ?_
  refine r_aload_n (v := 1000) f_380_1377 rfl (by decide) ?_
  refine r_iload_n (v := x3) f_380_1378 rfl ?_
  refine r_iconst f_380_1379 (by decide) ?_
  refine r_iadd (u := x3 + 1) f_380_1380 rfl o1 ?_
  refine r_saload f_380_1381 o2 ?_
  refine r_aload_n (v := 1000) f_380_1382 rfl (by decide) ?_
  refine r_iload_n (v := x3) f_380_1383 rfl ?_
  refine r_iconst f_380_1384 (by decide) ?_
  refine r_iadd (u := x3 + 2) f_380_1385 rfl o3 ?_
  refine r_saload f_380_1386 o4 ?_
  refine r_aload_n (v := 1000) f_380_1387 rfl (by decide) ?_
  refine r_iload_n (v := x3) f_380_1388 rfl ?_
  refine r_iconst f_380_1389 (by decide) ?_
  refine r_iadd (u := x3 + 3) f_380_1390 rfl o5 ?_
  refine r_saload f_380_1391 o6 ?_
  refine r_aload_n (v := 1000) f_380_1392 rfl (by decide) ?_
  refine r_iload_n (v := x3) f_380_1393 rfl ?_
  refine r_iconst f_380_1394 (by decide) ?_
  refine r_iadd (u := x3 + 4) f_380_1395 rfl o7 ?_
  refine r_saload f_380_1396 o8 ?_
  exact r_callv (as := [vr 0, vi (h 1000 (x3 + 1).toNat), vi (h 1000 (x3 + 2).toNat), vi (h 1000 (x3 + 3).toNat), vi (h 1000 (x3 + 4).toNat)]) (st' := []) (ls0 := [vr 0, vi (h 1000 (x3 + 1).toNat), vi (h 1000 (x3 + 2).toNat), vi (h 1000 (x3 + 3).toNat), vi (h 1000 (x3 + 4).toNat)]) f_380_1397 (by decide) rfl rfl (Nat.le_of_ble_eq_true rfl) (Nat.le_of_ble_eq_true rfl) ⟨_, _, rfl, rfl⟩ rfl k9

theorem g_L_law_1400 {Q : PQ} {h : HP} {x3 : Int} {s0 : Int} 
    (o1 : -2147483648 ≤ x3 + 1 ∧ x3 + 1 ≤ 2147483647)
    (o2 : 0 ≤ x3 + 1 ∧ x3 + 1 < h 1001 0)
    (o3 : -2147483648 ≤ x3 + 2 ∧ x3 + 2 ≤ 2147483647)
    (o4 : 0 ≤ x3 + 2 ∧ x3 + 2 < h 1001 0)
    (o5 : -2147483648 ≤ x3 + 3 ∧ x3 + 3 ≤ 2147483647)
    (o6 : 0 ≤ x3 + 3 ∧ x3 + 3 < h 1001 0)
    (o7 : -2147483648 ≤ x3 + 4 ∧ x3 + 4 ≤ 2147483647)
    (o8 : 0 ≤ x3 + 4 ∧ x3 + 4 < h 1001 0)
    (k9 : Wp true i_M_joined 0 [vr 103, vi (h 1000 (x3 + 1).toNat), vi (h 1000 (x3 + 2).toNat), vi (h 1000 (x3 + 3).toNat), vi (h 1000 (x3 + 4).toNat)] [] h (fun r h' => Wp true i_L_law 1424 [vr 1000, vr 0, vr 103, vi x3] (r.toList ++ [vi s0]) h' Q)) :
    Wp true i_L_law 1400 [vr 1000, vr 0, vr 103, vi x3] [vi s0] h Q := by
  refine r_aload_n (v := 103) f_380_1400 rfl (by decide) ?_
  refine r_aload_n (v := 1000) f_380_1401 rfl (by decide) ?_
  refine r_iload_n (v := x3) f_380_1402 rfl ?_
  refine r_iconst f_380_1403 (by decide) ?_
  refine r_iadd (u := x3 + 1) f_380_1404 rfl o1 ?_
  refine r_saload f_380_1405 o2 ?_
  refine r_aload_n (v := 1000) f_380_1406 rfl (by decide) ?_
  refine r_iload_n (v := x3) f_380_1407 rfl ?_
  refine r_iconst f_380_1408 (by decide) ?_
  refine r_iadd (u := x3 + 2) f_380_1409 rfl o3 ?_
  refine r_saload f_380_1410 o4 ?_
  refine r_aload_n (v := 1000) f_380_1411 rfl (by decide) ?_
  refine r_iload_n (v := x3) f_380_1412 rfl ?_
  refine r_iconst f_380_1413 (by decide) ?_
  refine r_iadd (u := x3 + 3) f_380_1414 rfl o5 ?_
  refine r_saload f_380_1415 o6 ?_
  refine r_aload_n (v := 1000) f_380_1416 rfl (by decide) ?_
  refine r_iload_n (v := x3) f_380_1417 rfl ?_
  refine r_iconst f_380_1418 (by decide) ?_
  refine r_iadd (u := x3 + 4) f_380_1419 rfl o7 ?_
  refine r_saload f_380_1420 o8 ?_
  exact r_callv (as := [vr 103, vi (h 1000 (x3 + 1).toNat), vi (h 1000 (x3 + 2).toNat), vi (h 1000 (x3 + 3).toNat), vi (h 1000 (x3 + 4).toNat)]) (st' := [vi s0]) (ls0 := [vr 103, vi (h 1000 (x3 + 1).toNat), vi (h 1000 (x3 + 2).toNat), vi (h 1000 (x3 + 3).toNat), vi (h 1000 (x3 + 4).toNat)]) f_380_1421 (by decide) rfl rfl (Nat.le_of_ble_eq_true rfl) (Nat.le_of_ble_eq_true rfl) ⟨_, _, rfl, rfl⟩ rfl k9

theorem g_L_law_1424 {Q : PQ} {h : HP} {x3 : Int} {s0 : Int} {s1 : Int} 
    (k1 : s0 = s1 → Wp true i_L_law 2076 [vr 1000, vr 0, vr 103, vi x3] [] h Q)
    (k2 : ¬ s0 = s1 → Q (some (vi 0)) h) :
    Wp true i_L_law 1424 [vr 1000, vr 0, vr 103, vi x3] [vi s1, vi s0] h Q := by
  refine r_br2 (t := 2076) f_380_1424 rfl cb_eq (fun c1 => ?_) (fun c1 => ?_)
  · exact (k1 c1)
  · refine r_iconst f_380_1427 (by decide) ?_
    exact r_retz f_380_1428 rfl (by decide) (k2 c1)

theorem g_L_law_1429 {Q : PQ} {h : HP} {x3 : Int} 
    (o1 : -2147483648 ≤ x3 + 1 ∧ x3 + 1 ≤ 2147483647)
    (o2 : 0 ≤ x3 + 1 ∧ x3 + 1 < h 1001 0)
    (o3 : -2147483648 ≤ x3 + 2 ∧ x3 + 2 ≤ 2147483647)
    (o4 : 0 ≤ x3 + 2 ∧ x3 + 2 < h 1001 0)
    (o5 : -2147483648 ≤ x3 + 3 ∧ x3 + 3 ≤ 2147483647)
    (o6 : 0 ≤ x3 + 3 ∧ x3 + 3 < h 1001 0)
    (k7 : Wp true i_C_passes 0 [vr 0, vi (h 1000 (x3 + 1).toNat), vi (h 1000 (x3 + 2).toNat), vi (h 1000 (x3 + 3).toNat), vr 9999] [] h (fun r h' => Wp true i_L_law 1448 [vr 1000, vr 0, vr 103, vi x3] (r.toList ++ []) h' Q)) :
    Wp true i_L_law 1429 [vr 1000, vr 0, vr 103, vi x3] [] h Q := by
  refine r_aload_n (v := 0) f_380_1429 rfl (by decide) ?_
  refine r_aload_n (v := 1000) f_380_1430 rfl (by decide) ?_
  refine r_iload_n (v := x3) f_380_1431 rfl ?_
  refine r_iconst f_380_1432 (by decide) ?_
  refine r_iadd (u := x3 + 1) f_380_1433 rfl o1 ?_
  refine r_saload f_380_1434 o2 ?_
  refine r_aload_n (v := 1000) f_380_1435 rfl (by decide) ?_
  refine r_iload_n (v := x3) f_380_1436 rfl ?_
  refine r_iconst f_380_1437 (by decide) ?_
  refine r_iadd (u := x3 + 2) f_380_1438 rfl o3 ?_
  refine r_saload f_380_1439 o4 ?_
  refine r_aload_n (v := 1000) f_380_1440 rfl (by decide) ?_
  refine r_iload_n (v := x3) f_380_1441 rfl ?_
  refine r_iconst f_380_1442 (by decide) ?_
  refine r_iadd (u := x3 + 3) f_380_1443 rfl o5 ?_
  refine r_saload f_380_1444 o6 ?_
  exact r_callv (as := [vr 0, vi (h 1000 (x3 + 1).toNat), vi (h 1000 (x3 + 2).toNat), vi (h 1000 (x3 + 3).toNat)]) (st' := []) (ls0 := [vr 0, vi (h 1000 (x3 + 1).toNat), vi (h 1000 (x3 + 2).toNat), vi (h 1000 (x3 + 3).toNat), vr 9999]) f_380_1445 (by decide) rfl rfl (Nat.le_of_ble_eq_true rfl) (Nat.le_of_ble_eq_true rfl) ⟨_, _, rfl, rfl⟩ rfl k7

theorem g_L_law_1448 {Q : PQ} {h : HP} {x3 : Int} {s0 : Int} 
    (o1 : -2147483648 ≤ x3 + 1 ∧ x3 + 1 ≤ 2147483647)
    (o2 : 0 ≤ x3 + 1 ∧ x3 + 1 < h 1001 0)
    (o3 : -2147483648 ≤ x3 + 2 ∧ x3 + 2 ≤ 2147483647)
    (o4 : 0 ≤ x3 + 2 ∧ x3 + 2 < h 1001 0)
    (o5 : -2147483648 ≤ x3 + 3 ∧ x3 + 3 ≤ 2147483647)
    (o6 : 0 ≤ x3 + 3 ∧ x3 + 3 < h 1001 0)
    (k7 : Wp true i_M_passes 0 [vr 103, vi (h 1000 (x3 + 1).toNat), vi (h 1000 (x3 + 2).toNat), vi (h 1000 (x3 + 3).toNat), vr 9999] [] h (fun r h' => Wp true i_L_law 1467 [vr 1000, vr 0, vr 103, vi x3] (r.toList ++ [vi s0]) h' Q)) :
    Wp true i_L_law 1448 [vr 1000, vr 0, vr 103, vi x3] [vi s0] h Q := by
  refine r_aload_n (v := 103) f_380_1448 rfl (by decide) ?_
  refine r_aload_n (v := 1000) f_380_1449 rfl (by decide) ?_
  refine r_iload_n (v := x3) f_380_1450 rfl ?_
  refine r_iconst f_380_1451 (by decide) ?_
  refine r_iadd (u := x3 + 1) f_380_1452 rfl o1 ?_
  refine r_saload f_380_1453 o2 ?_
  refine r_aload_n (v := 1000) f_380_1454 rfl (by decide) ?_
  refine r_iload_n (v := x3) f_380_1455 rfl ?_
  refine r_iconst f_380_1456 (by decide) ?_
  refine r_iadd (u := x3 + 2) f_380_1457 rfl o3 ?_
  refine r_saload f_380_1458 o4 ?_
  refine r_aload_n (v := 1000) f_380_1459 rfl (by decide) ?_
  refine r_iload_n (v := x3) f_380_1460 rfl ?_
  refine r_iconst f_380_1461 (by decide) ?_
  refine r_iadd (u := x3 + 3) f_380_1462 rfl o5 ?_
  refine r_saload f_380_1463 o6 ?_
  exact r_callv (as := [vr 103, vi (h 1000 (x3 + 1).toNat), vi (h 1000 (x3 + 2).toNat), vi (h 1000 (x3 + 3).toNat)]) (st' := [vi s0]) (ls0 := [vr 103, vi (h 1000 (x3 + 1).toNat), vi (h 1000 (x3 + 2).toNat), vi (h 1000 (x3 + 3).toNat), vr 9999]) f_380_1464 (by decide) rfl rfl (Nat.le_of_ble_eq_true rfl) (Nat.le_of_ble_eq_true rfl) ⟨_, _, rfl, rfl⟩ rfl k7

theorem g_L_law_1467 {Q : PQ} {h : HP} {x3 : Int} {s0 : Int} {s1 : Int} 
    (k1 : s0 = s1 → Wp true i_L_law 2076 [vr 1000, vr 0, vr 103, vi x3] [] h Q)
    (k2 : ¬ s0 = s1 → Q (some (vi 0)) h) :
    Wp true i_L_law 1467 [vr 1000, vr 0, vr 103, vi x3] [vi s1, vi s0] h Q := by
  refine r_br2 (t := 2076) f_380_1467 rfl cb_eq (fun c1 => ?_) (fun c1 => ?_)
  · exact (k1 c1)
  · refine r_iconst f_380_1470 (by decide) ?_
    exact r_retz f_380_1471 rfl (by decide) (k2 c1)

theorem g_L_law_1472 {Q : PQ} {h : HP} {x3 : Int} 
    (o1 : -2147483648 ≤ x3 + 1 ∧ x3 + 1 ≤ 2147483647)
    (o2 : 0 ≤ x3 + 1 ∧ x3 + 1 < h 1001 0)
    (o3 : -2147483648 ≤ x3 + 2 ∧ x3 + 2 ≤ 2147483647)
    (o4 : 0 ≤ x3 + 2 ∧ x3 + 2 < h 1001 0)
    (o5 : -2147483648 ≤ x3 + 3 ∧ x3 + 3 ≤ 2147483647)
    (o6 : 0 ≤ x3 + 3 ∧ x3 + 3 < h 1001 0)
    (k7 : Wp true i_C_steps 0 [vr 0, vi (h 1000 (x3 + 1).toNat), vi (h 1000 (x3 + 2).toNat), vi (h 1000 (x3 + 3).toNat), vr 9999] [] h (fun r h' => Wp true i_L_law 1491 [vr 1000, vr 0, vr 103, vi x3] (r.toList ++ []) h' Q)) :
    Wp true i_L_law 1472 [vr 1000, vr 0, vr 103, vi x3] [] h Q := by
  refine r_aload_n (v := 0) f_380_1472 rfl (by decide) ?_
  refine r_aload_n (v := 1000) f_380_1473 rfl (by decide) ?_
  refine r_iload_n (v := x3) f_380_1474 rfl ?_
  refine r_iconst f_380_1475 (by decide) ?_
  refine r_iadd (u := x3 + 1) f_380_1476 rfl o1 ?_
  refine r_saload f_380_1477 o2 ?_
  refine r_aload_n (v := 1000) f_380_1478 rfl (by decide) ?_
  refine r_iload_n (v := x3) f_380_1479 rfl ?_
  refine r_iconst f_380_1480 (by decide) ?_
  refine r_iadd (u := x3 + 2) f_380_1481 rfl o3 ?_
  refine r_saload f_380_1482 o4 ?_
  refine r_aload_n (v := 1000) f_380_1483 rfl (by decide) ?_
  refine r_iload_n (v := x3) f_380_1484 rfl ?_
  refine r_iconst f_380_1485 (by decide) ?_
  refine r_iadd (u := x3 + 3) f_380_1486 rfl o5 ?_
  refine r_saload f_380_1487 o6 ?_
  exact r_callv (as := [vr 0, vi (h 1000 (x3 + 1).toNat), vi (h 1000 (x3 + 2).toNat), vi (h 1000 (x3 + 3).toNat)]) (st' := []) (ls0 := [vr 0, vi (h 1000 (x3 + 1).toNat), vi (h 1000 (x3 + 2).toNat), vi (h 1000 (x3 + 3).toNat), vr 9999]) f_380_1488 (by decide) rfl rfl (Nat.le_of_ble_eq_true rfl) (Nat.le_of_ble_eq_true rfl) ⟨_, _, rfl, rfl⟩ rfl k7

theorem g_L_law_1491 {Q : PQ} {h : HP} {x3 : Int} {s0 : Int} 
    (o1 : -2147483648 ≤ x3 + 1 ∧ x3 + 1 ≤ 2147483647)
    (o2 : 0 ≤ x3 + 1 ∧ x3 + 1 < h 1001 0)
    (o3 : -2147483648 ≤ x3 + 2 ∧ x3 + 2 ≤ 2147483647)
    (o4 : 0 ≤ x3 + 2 ∧ x3 + 2 < h 1001 0)
    (o5 : -2147483648 ≤ x3 + 3 ∧ x3 + 3 ≤ 2147483647)
    (o6 : 0 ≤ x3 + 3 ∧ x3 + 3 < h 1001 0)
    (k7 : Wp true i_M_steps 0 [vr 103, vi (h 1000 (x3 + 1).toNat), vi (h 1000 (x3 + 2).toNat), vi (h 1000 (x3 + 3).toNat), vr 9999] [] h (fun r h' => Wp true i_L_law 1510 [vr 1000, vr 0, vr 103, vi x3] (r.toList ++ [vi s0]) h' Q)) :
    Wp true i_L_law 1491 [vr 1000, vr 0, vr 103, vi x3] [vi s0] h Q := by
  refine r_aload_n (v := 103) f_380_1491 rfl (by decide) ?_
  refine r_aload_n (v := 1000) f_380_1492 rfl (by decide) ?_
  refine r_iload_n (v := x3) f_380_1493 rfl ?_
  refine r_iconst f_380_1494 (by decide) ?_
  refine r_iadd (u := x3 + 1) f_380_1495 rfl o1 ?_
  refine r_saload f_380_1496 o2 ?_
  refine r_aload_n (v := 1000) f_380_1497 rfl (by decide) ?_
  refine r_iload_n (v := x3) f_380_1498 rfl ?_
  refine r_iconst f_380_1499 (by decide) ?_
  refine r_iadd (u := x3 + 2) f_380_1500 rfl o3 ?_
  refine r_saload f_380_1501 o4 ?_
  refine r_aload_n (v := 1000) f_380_1502 rfl (by decide) ?_
  refine r_iload_n (v := x3) f_380_1503 rfl ?_
  refine r_iconst f_380_1504 (by decide) ?_
  refine r_iadd (u := x3 + 3) f_380_1505 rfl o5 ?_
  refine r_saload f_380_1506 o6 ?_
  exact r_callv (as := [vr 103, vi (h 1000 (x3 + 1).toNat), vi (h 1000 (x3 + 2).toNat), vi (h 1000 (x3 + 3).toNat)]) (st' := [vi s0]) (ls0 := [vr 103, vi (h 1000 (x3 + 1).toNat), vi (h 1000 (x3 + 2).toNat), vi (h 1000 (x3 + 3).toNat), vr 9999]) f_380_1507 (by decide) rfl rfl (Nat.le_of_ble_eq_true rfl) (Nat.le_of_ble_eq_true rfl) ⟨_, _, rfl, rfl⟩ rfl k7

theorem g_L_law_1510 {Q : PQ} {h : HP} {x3 : Int} {s0 : Int} {s1 : Int} 
    (k1 : s0 = s1 → Wp true i_L_law 2076 [vr 1000, vr 0, vr 103, vi x3] [] h Q)
    (k2 : ¬ s0 = s1 → Q (some (vi 0)) h) :
    Wp true i_L_law 1510 [vr 1000, vr 0, vr 103, vi x3] [vi s1, vi s0] h Q := by
  refine r_br2 (t := 2076) f_380_1510 rfl cb_eq (fun c1 => ?_) (fun c1 => ?_)
  · exact (k1 c1)
  · refine r_iconst f_380_1513 (by decide) ?_
    exact r_retz f_380_1514 rfl (by decide) (k2 c1)

theorem g_L_law_1515 {Q : PQ} {h : HP} {x3 : Int} 
    (o1 : -2147483648 ≤ x3 + 1 ∧ x3 + 1 ≤ 2147483647)
    (o2 : 0 ≤ x3 + 1 ∧ x3 + 1 < h 1001 0)
    (k3 : Wp true i_C_reach 0 [vr 0, vi (h 1000 (x3 + 1).toNat)] [] h (fun r h' => Wp true i_L_law 1524 [vr 1000, vr 0, vr 103, vi x3] (r.toList ++ []) h' Q)) :
    Wp true i_L_law 1515 [vr 1000, vr 0, vr 103, vi x3] [] h Q := by
  refine r_aload_n (v := 0) f_380_1515 rfl (by decide) ?_
  refine r_aload_n (v := 1000) f_380_1516 rfl (by decide) ?_
  refine r_iload_n (v := x3) f_380_1517 rfl ?_
  refine r_iconst f_380_1518 (by decide) ?_
  refine r_iadd (u := x3 + 1) f_380_1519 rfl o1 ?_
  refine r_saload f_380_1520 o2 ?_
  exact r_callv (as := [vr 0, vi (h 1000 (x3 + 1).toNat)]) (st' := []) (ls0 := [vr 0, vi (h 1000 (x3 + 1).toNat)]) f_380_1521 (by decide) rfl rfl (Nat.le_of_ble_eq_true rfl) (Nat.le_of_ble_eq_true rfl) ⟨_, _, rfl, rfl⟩ rfl k3

theorem g_L_law_1524 {Q : PQ} {h : HP} {x3 : Int} {s0 : Int} 
    (o1 : -2147483648 ≤ x3 + 1 ∧ x3 + 1 ≤ 2147483647)
    (o2 : 0 ≤ x3 + 1 ∧ x3 + 1 < h 1001 0)
    (k3 : Wp true i_M_reach 0 [vr 103, vi (h 1000 (x3 + 1).toNat), vr 9999, vr 9999] [] h (fun r h' => Wp true i_L_law 1533 [vr 1000, vr 0, vr 103, vi x3] (r.toList ++ [vi s0]) h' Q)) :
    Wp true i_L_law 1524 [vr 1000, vr 0, vr 103, vi x3] [vi s0] h Q := by
  refine r_aload_n (v := 103) f_380_1524 rfl (by decide) ?_
  refine r_aload_n (v := 1000) f_380_1525 rfl (by decide) ?_
  refine r_iload_n (v := x3) f_380_1526 rfl ?_
  refine r_iconst f_380_1527 (by decide) ?_
  refine r_iadd (u := x3 + 1) f_380_1528 rfl o1 ?_
  refine r_saload f_380_1529 o2 ?_
  exact r_callv (as := [vr 103, vi (h 1000 (x3 + 1).toNat)]) (st' := [vi s0]) (ls0 := [vr 103, vi (h 1000 (x3 + 1).toNat), vr 9999, vr 9999]) f_380_1530 (by decide) rfl rfl (Nat.le_of_ble_eq_true rfl) (Nat.le_of_ble_eq_true rfl) ⟨_, _, rfl, rfl⟩ rfl k3

theorem g_L_law_1533 {Q : PQ} {h : HP} {x3 : Int} {s0 : Int} {s1 : Int} 
    (k1 : s0 = s1 → Wp true i_L_law 2076 [vr 1000, vr 0, vr 103, vi x3] [] h Q)
    (k2 : ¬ s0 = s1 → Q (some (vi 0)) h) :
    Wp true i_L_law 1533 [vr 1000, vr 0, vr 103, vi x3] [vi s1, vi s0] h Q := by
  refine r_br2 (t := 2076) f_380_1533 rfl cb_eq (fun c1 => ?_) (fun c1 => ?_)
  · exact (k1 c1)
  · refine r_iconst f_380_1536 (by decide) ?_
    exact r_retz f_380_1537 rfl (by decide) (k2 c1)

theorem g_L_law_1538 {Q : PQ} {h : HP} {x3 : Int} 
    (o1 : -2147483648 ≤ x3 + 1 ∧ x3 + 1 ≤ 2147483647)
    (o2 : 0 ≤ x3 + 1 ∧ x3 + 1 < h 1001 0)
    (k3 : Wp true i_C_strait 0 [vr 0, vi (h 1000 (x3 + 1).toNat)] [] h (fun r h' => Wp true i_L_law 1547 [vr 1000, vr 0, vr 103, vi x3] (r.toList ++ []) h' Q)) :
    Wp true i_L_law 1538 [vr 1000, vr 0, vr 103, vi x3] [] h Q := by
  refine r_aload_n (v := 0) f_380_1538 rfl (by decide) ?_
  refine r_aload_n (v := 1000) f_380_1539 rfl (by decide) ?_
  refine r_iload_n (v := x3) f_380_1540 rfl ?_
  refine r_iconst f_380_1541 (by decide) ?_
  refine r_iadd (u := x3 + 1) f_380_1542 rfl o1 ?_
  refine r_saload f_380_1543 o2 ?_
  exact r_callv (as := [vr 0, vi (h 1000 (x3 + 1).toNat)]) (st' := []) (ls0 := [vr 0, vi (h 1000 (x3 + 1).toNat)]) f_380_1544 (by decide) rfl rfl (Nat.le_of_ble_eq_true rfl) (Nat.le_of_ble_eq_true rfl) ⟨_, _, rfl, rfl⟩ rfl k3

theorem g_L_law_1547 {Q : PQ} {h : HP} {x3 : Int} {s0 : Int} 
    (o1 : -2147483648 ≤ x3 + 1 ∧ x3 + 1 ≤ 2147483647)
    (o2 : 0 ≤ x3 + 1 ∧ x3 + 1 < h 1001 0)
    (k3 : Wp true i_M_strait 0 [vr 103, vi (h 1000 (x3 + 1).toNat), vr 9999, vr 9999, vr 9999, vr 9999] [] h (fun r h' => Wp true i_L_law 1556 [vr 1000, vr 0, vr 103, vi x3] (r.toList ++ [vi s0]) h' Q)) :
    Wp true i_L_law 1547 [vr 1000, vr 0, vr 103, vi x3] [vi s0] h Q := by
  refine r_aload_n (v := 103) f_380_1547 rfl (by decide) ?_
  refine r_aload_n (v := 1000) f_380_1548 rfl (by decide) ?_
  refine r_iload_n (v := x3) f_380_1549 rfl ?_
  refine r_iconst f_380_1550 (by decide) ?_
  refine r_iadd (u := x3 + 1) f_380_1551 rfl o1 ?_
  refine r_saload f_380_1552 o2 ?_
  exact r_callv (as := [vr 103, vi (h 1000 (x3 + 1).toNat)]) (st' := [vi s0]) (ls0 := [vr 103, vi (h 1000 (x3 + 1).toNat), vr 9999, vr 9999, vr 9999, vr 9999]) f_380_1553 (by decide) rfl rfl (Nat.le_of_ble_eq_true rfl) (Nat.le_of_ble_eq_true rfl) ⟨_, _, rfl, rfl⟩ rfl k3

theorem g_L_law_1556 {Q : PQ} {h : HP} {x3 : Int} {s0 : Int} {s1 : Int} 
    (k1 : s0 = s1 → Wp true i_L_law 2076 [vr 1000, vr 0, vr 103, vi x3] [] h Q)
    (k2 : ¬ s0 = s1 → Q (some (vi 0)) h) :
    Wp true i_L_law 1556 [vr 1000, vr 0, vr 103, vi x3] [vi s1, vi s0] h Q := by
  refine r_br2 (t := 2076) f_380_1556 rfl cb_eq (fun c1 => ?_) (fun c1 => ?_)
  · exact (k1 c1)
  · refine r_iconst f_380_1559 (by decide) ?_
    exact r_retz f_380_1560 rfl (by decide) (k2 c1)

theorem g_L_law_1561 {Q : PQ} {h : HP} {x3 : Int} 
    (o1 : -2147483648 ≤ x3 + 1 ∧ x3 + 1 ≤ 2147483647)
    (o2 : 0 ≤ x3 + 1 ∧ x3 + 1 < h 1001 0)
    (k3 : Wp true i_C_bridge 0 [vr 0, vi (h 1000 (x3 + 1).toNat), vr 9999] [] h (fun r h' => Wp true i_L_law 1570 [vr 1000, vr 0, vr 103, vi x3] (r.toList ++ []) h' Q)) :
    Wp true i_L_law 1561 [vr 1000, vr 0, vr 103, vi x3] [] h Q := by
  refine r_aload_n (v := 0) f_380_1561 rfl (by decide) ?_
  refine r_aload_n (v := 1000) f_380_1562 rfl (by decide) ?_
  refine r_iload_n (v := x3) f_380_1563 rfl ?_
  refine r_iconst f_380_1564 (by decide) ?_
  refine r_iadd (u := x3 + 1) f_380_1565 rfl o1 ?_
  refine r_saload f_380_1566 o2 ?_
  exact r_callv (as := [vr 0, vi (h 1000 (x3 + 1).toNat)]) (st' := []) (ls0 := [vr 0, vi (h 1000 (x3 + 1).toNat), vr 9999]) f_380_1567 (by decide) rfl rfl (Nat.le_of_ble_eq_true rfl) (Nat.le_of_ble_eq_true rfl) ⟨_, _, rfl, rfl⟩ rfl k3

theorem g_L_law_1570 {Q : PQ} {h : HP} {x3 : Int} {s0 : Int} 
    (o1 : -2147483648 ≤ x3 + 1 ∧ x3 + 1 ≤ 2147483647)
    (o2 : 0 ≤ x3 + 1 ∧ x3 + 1 < h 1001 0)
    (k3 : Wp true i_M_bridge 0 [vr 103, vi (h 1000 (x3 + 1).toNat)] [] h (fun r h' => Wp true i_L_law 1579 [vr 1000, vr 0, vr 103, vi x3] (r.toList ++ [vi s0]) h' Q)) :
    Wp true i_L_law 1570 [vr 1000, vr 0, vr 103, vi x3] [vi s0] h Q := by
  refine r_aload_n (v := 103) f_380_1570 rfl (by decide) ?_
  refine r_aload_n (v := 1000) f_380_1571 rfl (by decide) ?_
  refine r_iload_n (v := x3) f_380_1572 rfl ?_
  refine r_iconst f_380_1573 (by decide) ?_
  refine r_iadd (u := x3 + 1) f_380_1574 rfl o1 ?_
  refine r_saload f_380_1575 o2 ?_
  exact r_callv (as := [vr 103, vi (h 1000 (x3 + 1).toNat)]) (st' := [vi s0]) (ls0 := [vr 103, vi (h 1000 (x3 + 1).toNat)]) f_380_1576 (by decide) rfl rfl (Nat.le_of_ble_eq_true rfl) (Nat.le_of_ble_eq_true rfl) ⟨_, _, rfl, rfl⟩ rfl k3

theorem g_L_law_1579 {Q : PQ} {h : HP} {x3 : Int} {s0 : Int} {s1 : Int} 
    (k1 : s0 = s1 → Wp true i_L_law 2076 [vr 1000, vr 0, vr 103, vi x3] [] h Q)
    (k2 : ¬ s0 = s1 → Q (some (vi 0)) h) :
    Wp true i_L_law 1579 [vr 1000, vr 0, vr 103, vi x3] [vi s1, vi s0] h Q := by
  refine r_br2 (t := 2076) f_380_1579 rfl cb_eq (fun c1 => ?_) (fun c1 => ?_)
  · exact (k1 c1)
  · refine r_iconst f_380_1582 (by decide) ?_
    exact r_retz f_380_1583 rfl (by decide) (k2 c1)

theorem g_L_law_1584 {Q : PQ} {h : HP} {x3 : Int} 
    (o1 : -2147483648 ≤ x3 + 1 ∧ x3 + 1 ≤ 2147483647)
    (o2 : 0 ≤ x3 + 1 ∧ x3 + 1 < h 1001 0)
    (k3 : Wp true i_C_bridged 0 [vr 0, vi (h 1000 (x3 + 1).toNat)] [] h (fun r h' => Wp true i_L_law 1593 [vr 1000, vr 0, vr 103, vi x3] (r.toList ++ []) h' Q)) :
    Wp true i_L_law 1584 [vr 1000, vr 0, vr 103, vi x3] [] h Q := by
  refine r_aload_n (v := 0) f_380_1584 rfl (by decide) ?_
  refine r_aload_n (v := 1000) f_380_1585 rfl (by decide) ?_
  refine r_iload_n (v := x3) f_380_1586 rfl ?_
  refine r_iconst f_380_1587 (by decide) ?_
  refine r_iadd (u := x3 + 1) f_380_1588 rfl o1 ?_
  refine r_saload f_380_1589 o2 ?_
  exact r_callv (as := [vr 0, vi (h 1000 (x3 + 1).toNat)]) (st' := []) (ls0 := [vr 0, vi (h 1000 (x3 + 1).toNat)]) f_380_1590 (by decide) rfl rfl (Nat.le_of_ble_eq_true rfl) (Nat.le_of_ble_eq_true rfl) ⟨_, _, rfl, rfl⟩ rfl k3

theorem g_L_law_1593 {Q : PQ} {h : HP} {x3 : Int} {s0 : Int} 
    (o1 : -2147483648 ≤ x3 + 1 ∧ x3 + 1 ≤ 2147483647)
    (o2 : 0 ≤ x3 + 1 ∧ x3 + 1 < h 1001 0)
    (k3 : Wp true i_M_bridged 0 [vr 103, vi (h 1000 (x3 + 1).toNat), vr 9999] [] h (fun r h' => Wp true i_L_law 1602 [vr 1000, vr 0, vr 103, vi x3] (r.toList ++ [vi s0]) h' Q)) :
    Wp true i_L_law 1593 [vr 1000, vr 0, vr 103, vi x3] [vi s0] h Q := by
  refine r_aload_n (v := 103) f_380_1593 rfl (by decide) ?_
  refine r_aload_n (v := 1000) f_380_1594 rfl (by decide) ?_
  refine r_iload_n (v := x3) f_380_1595 rfl ?_
  refine r_iconst f_380_1596 (by decide) ?_
  refine r_iadd (u := x3 + 1) f_380_1597 rfl o1 ?_
  refine r_saload f_380_1598 o2 ?_
  exact r_callv (as := [vr 103, vi (h 1000 (x3 + 1).toNat)]) (st' := [vi s0]) (ls0 := [vr 103, vi (h 1000 (x3 + 1).toNat), vr 9999]) f_380_1599 (by decide) rfl rfl (Nat.le_of_ble_eq_true rfl) (Nat.le_of_ble_eq_true rfl) ⟨_, _, rfl, rfl⟩ rfl k3

theorem g_L_law_1602 {Q : PQ} {h : HP} {x3 : Int} {s0 : Int} {s1 : Int} 
    (k1 : s0 = s1 → Wp true i_L_law 2076 [vr 1000, vr 0, vr 103, vi x3] [] h Q)
    (k2 : ¬ s0 = s1 → Q (some (vi 0)) h) :
    Wp true i_L_law 1602 [vr 1000, vr 0, vr 103, vi x3] [vi s1, vi s0] h Q := by
  refine r_br2 (t := 2076) f_380_1602 rfl cb_eq (fun c1 => ?_) (fun c1 => ?_)
  · exact (k1 c1)
  · refine r_iconst f_380_1605 (by decide) ?_
    exact r_retz f_380_1606 rfl (by decide) (k2 c1)

theorem g_L_law_1607 {Q : PQ} {h : HP} {x3 : Int} 
    (o1 : -2147483648 ≤ x3 + 1 ∧ x3 + 1 ≤ 2147483647)
    (o2 : 0 ≤ x3 + 1 ∧ x3 + 1 < h 1001 0)
    (o3 : -2147483648 ≤ x3 + 2 ∧ x3 + 2 ≤ 2147483647)
    (o4 : 0 ≤ x3 + 2 ∧ x3 + 2 < h 1001 0)
    (k5 : Wp true i_C_give 0 [vr 0, vi (h 1000 (x3 + 1).toNat), vi (h 1000 (x3 + 2).toNat)] [] h (fun r h' => Wp true i_L_law 1621 [vr 1000, vr 0, vr 103, vi x3] (r.toList ++ []) h' Q)) :
    Wp true i_L_law 1607 [vr 1000, vr 0, vr 103, vi x3] [] h Q := by
  refine r_aload_n (v := 0) f_380_1607 rfl (by decide) ?_
  refine r_aload_n (v := 1000) f_380_1608 rfl (by decide) ?_
  refine r_iload_n (v := x3) f_380_1609 rfl ?_
  refine r_iconst f_380_1610 (by decide) ?_
  refine r_iadd (u := x3 + 1) f_380_1611 rfl o1 ?_
  refine r_saload f_380_1612 o2 ?_
  refine r_aload_n (v := 1000) f_380_1613 rfl (by decide) ?_
  refine r_iload_n (v := x3) f_380_1614 rfl ?_
  refine r_iconst f_380_1615 (by decide) ?_
  refine r_iadd (u := x3 + 2) f_380_1616 rfl o3 ?_
  refine r_saload f_380_1617 o4 ?_
  exact r_callv (as := [vr 0, vi (h 1000 (x3 + 1).toNat), vi (h 1000 (x3 + 2).toNat)]) (st' := []) (ls0 := [vr 0, vi (h 1000 (x3 + 1).toNat), vi (h 1000 (x3 + 2).toNat)]) f_380_1618 (by decide) rfl rfl (Nat.le_of_ble_eq_true rfl) (Nat.le_of_ble_eq_true rfl) ⟨_, _, rfl, rfl⟩ rfl k5

theorem g_L_law_1621 {Q : PQ} {h : HP} {x3 : Int} {s0 : Int} 
    (o1 : -2147483648 ≤ x3 + 1 ∧ x3 + 1 ≤ 2147483647)
    (o2 : 0 ≤ x3 + 1 ∧ x3 + 1 < h 1001 0)
    (o3 : -2147483648 ≤ x3 + 2 ∧ x3 + 2 ≤ 2147483647)
    (o4 : 0 ≤ x3 + 2 ∧ x3 + 2 < h 1001 0)
    (k5 : Wp true i_M_give 0 [vr 103, vi (h 1000 (x3 + 1).toNat), vi (h 1000 (x3 + 2).toNat)] [] h (fun r h' => Wp true i_L_law 1635 [vr 1000, vr 0, vr 103, vi x3] (r.toList ++ [vi s0]) h' Q)) :
    Wp true i_L_law 1621 [vr 1000, vr 0, vr 103, vi x3] [vi s0] h Q := by
  refine r_aload_n (v := 103) f_380_1621 rfl (by decide) ?_
  refine r_aload_n (v := 1000) f_380_1622 rfl (by decide) ?_
  refine r_iload_n (v := x3) f_380_1623 rfl ?_
  refine r_iconst f_380_1624 (by decide) ?_
  refine r_iadd (u := x3 + 1) f_380_1625 rfl o1 ?_
  refine r_saload f_380_1626 o2 ?_
  refine r_aload_n (v := 1000) f_380_1627 rfl (by decide) ?_
  refine r_iload_n (v := x3) f_380_1628 rfl ?_
  refine r_iconst f_380_1629 (by decide) ?_
  refine r_iadd (u := x3 + 2) f_380_1630 rfl o3 ?_
  refine r_saload f_380_1631 o4 ?_
  exact r_callv (as := [vr 103, vi (h 1000 (x3 + 1).toNat), vi (h 1000 (x3 + 2).toNat)]) (st' := [vi s0]) (ls0 := [vr 103, vi (h 1000 (x3 + 1).toNat), vi (h 1000 (x3 + 2).toNat)]) f_380_1632 (by decide) rfl rfl (Nat.le_of_ble_eq_true rfl) (Nat.le_of_ble_eq_true rfl) ⟨_, _, rfl, rfl⟩ rfl k5

theorem g_L_law_1635 {Q : PQ} {h : HP} {x3 : Int} {s0 : Int} {s1 : Int} 
    (k1 : s0 = s1 → Wp true i_L_law 2076 [vr 1000, vr 0, vr 103, vi x3] [] h Q)
    (k2 : ¬ s0 = s1 → Q (some (vi 0)) h) :
    Wp true i_L_law 1635 [vr 1000, vr 0, vr 103, vi x3] [vi s1, vi s0] h Q := by
  refine r_br2 (t := 2076) f_380_1635 rfl cb_eq (fun c1 => ?_) (fun c1 => ?_)
  · exact (k1 c1)
  · refine r_iconst f_380_1638 (by decide) ?_
    exact r_retz f_380_1639 rfl (by decide) (k2 c1)

theorem g_L_law_1640 {Q : PQ} {h : HP} {x3 : Int} 
    (o1 : -2147483648 ≤ x3 + 1 ∧ x3 + 1 ≤ 2147483647)
    (o2 : 0 ≤ x3 + 1 ∧ x3 + 1 < h 1001 0)
    (o3 : -2147483648 ≤ x3 + 2 ∧ x3 + 2 ≤ 2147483647)
    (o4 : 0 ≤ x3 + 2 ∧ x3 + 2 < h 1001 0)
    (o5 : -2147483648 ≤ x3 + 3 ∧ x3 + 3 ≤ 2147483647)
    (o6 : 0 ≤ x3 + 3 ∧ x3 + 3 < h 1001 0)
    (k7 : Wp true i_C_giveIn 0 [vr 0, vi (h 1000 (x3 + 1).toNat), vi (h 1000 (x3 + 2).toNat), vi (h 1000 (x3 + 3).toNat)] [] h (fun r h' => Wp true i_L_law 1659 [vr 1000, vr 0, vr 103, vi x3] (r.toList ++ []) h' Q)) :
    Wp true i_L_law 1640 [vr 1000, vr 0, vr 103, vi x3] [] h Q := by
  refine r_aload_n (v := 0) f_380_1640 rfl (by decide) ?_
  refine r_aload_n (v := 1000) f_380_1641 rfl (by decide) ?_
  refine r_iload_n (v := x3) f_380_1642 rfl ?_
  refine r_iconst f_380_1643 (by decide) ?_
  refine r_iadd (u := x3 + 1) f_380_1644 rfl o1 ?_
  refine r_saload f_380_1645 o2 ?_
  refine r_aload_n (v := 1000) f_380_1646 rfl (by decide) ?_
  refine r_iload_n (v := x3) f_380_1647 rfl ?_
  refine r_iconst f_380_1648 (by decide) ?_
  refine r_iadd (u := x3 + 2) f_380_1649 rfl o3 ?_
  refine r_saload f_380_1650 o4 ?_
  refine r_aload_n (v := 1000) f_380_1651 rfl (by decide) ?_
  refine r_iload_n (v := x3) f_380_1652 rfl ?_
  refine r_iconst f_380_1653 (by decide) ?_
  refine r_iadd (u := x3 + 3) f_380_1654 rfl o5 ?_
  refine r_saload f_380_1655 o6 ?_
  exact r_callv (as := [vr 0, vi (h 1000 (x3 + 1).toNat), vi (h 1000 (x3 + 2).toNat), vi (h 1000 (x3 + 3).toNat)]) (st' := []) (ls0 := [vr 0, vi (h 1000 (x3 + 1).toNat), vi (h 1000 (x3 + 2).toNat), vi (h 1000 (x3 + 3).toNat)]) f_380_1656 (by decide) rfl rfl (Nat.le_of_ble_eq_true rfl) (Nat.le_of_ble_eq_true rfl) ⟨_, _, rfl, rfl⟩ rfl k7

theorem g_L_law_1659 {Q : PQ} {h : HP} {x3 : Int} {s0 : Int} 
    (o1 : -2147483648 ≤ x3 + 1 ∧ x3 + 1 ≤ 2147483647)
    (o2 : 0 ≤ x3 + 1 ∧ x3 + 1 < h 1001 0)
    (o3 : -2147483648 ≤ x3 + 2 ∧ x3 + 2 ≤ 2147483647)
    (o4 : 0 ≤ x3 + 2 ∧ x3 + 2 < h 1001 0)
    (o5 : -2147483648 ≤ x3 + 3 ∧ x3 + 3 ≤ 2147483647)
    (o6 : 0 ≤ x3 + 3 ∧ x3 + 3 < h 1001 0)
    (k7 : Wp true i_M_giveIn 0 [vr 103, vi (h 1000 (x3 + 1).toNat), vi (h 1000 (x3 + 2).toNat), vi (h 1000 (x3 + 3).toNat)] [] h (fun r h' => Wp true i_L_law 1678 [vr 1000, vr 0, vr 103, vi x3] (r.toList ++ [vi s0]) h' Q)) :
    Wp true i_L_law 1659 [vr 1000, vr 0, vr 103, vi x3] [vi s0] h Q := by
  refine r_aload_n (v := 103) f_380_1659 rfl (by decide) ?_
  refine r_aload_n (v := 1000) f_380_1660 rfl (by decide) ?_
  refine r_iload_n (v := x3) f_380_1661 rfl ?_
  refine r_iconst f_380_1662 (by decide) ?_
  refine r_iadd (u := x3 + 1) f_380_1663 rfl o1 ?_
  refine r_saload f_380_1664 o2 ?_
  refine r_aload_n (v := 1000) f_380_1665 rfl (by decide) ?_
  refine r_iload_n (v := x3) f_380_1666 rfl ?_
  refine r_iconst f_380_1667 (by decide) ?_
  refine r_iadd (u := x3 + 2) f_380_1668 rfl o3 ?_
  refine r_saload f_380_1669 o4 ?_
  refine r_aload_n (v := 1000) f_380_1670 rfl (by decide) ?_
  refine r_iload_n (v := x3) f_380_1671 rfl ?_
  refine r_iconst f_380_1672 (by decide) ?_
  refine r_iadd (u := x3 + 3) f_380_1673 rfl o5 ?_
  refine r_saload f_380_1674 o6 ?_
  exact r_callv (as := [vr 103, vi (h 1000 (x3 + 1).toNat), vi (h 1000 (x3 + 2).toNat), vi (h 1000 (x3 + 3).toNat)]) (st' := [vi s0]) (ls0 := [vr 103, vi (h 1000 (x3 + 1).toNat), vi (h 1000 (x3 + 2).toNat), vi (h 1000 (x3 + 3).toNat)]) f_380_1675 (by decide) rfl rfl (Nat.le_of_ble_eq_true rfl) (Nat.le_of_ble_eq_true rfl) ⟨_, _, rfl, rfl⟩ rfl k7

theorem g_L_law_1678 {Q : PQ} {h : HP} {x3 : Int} {s0 : Int} {s1 : Int} 
    (k1 : s0 = s1 → Wp true i_L_law 2076 [vr 1000, vr 0, vr 103, vi x3] [] h Q)
    (k2 : ¬ s0 = s1 → Q (some (vi 0)) h) :
    Wp true i_L_law 1678 [vr 1000, vr 0, vr 103, vi x3] [vi s1, vi s0] h Q := by
  refine r_br2 (t := 2076) f_380_1678 rfl cb_eq (fun c1 => ?_) (fun c1 => ?_)
  · exact (k1 c1)
  · refine r_iconst f_380_1681 (by decide) ?_
    exact r_retz f_380_1682 rfl (by decide) (k2 c1)

theorem g_L_law_1683 {Q : PQ} {h : HP} {x3 : Int} 
    (o1 : -2147483648 ≤ x3 + 1 ∧ x3 + 1 ≤ 2147483647)
    (o2 : 0 ≤ x3 + 1 ∧ x3 + 1 < h 1001 0)
    (o3 : -2147483648 ≤ x3 + 2 ∧ x3 + 2 ≤ 2147483647)
    (o4 : 0 ≤ x3 + 2 ∧ x3 + 2 < h 1001 0)
    (k5 : Wp true i_C_ask 0 [vr 0, vi (h 1000 (x3 + 1).toNat), vi (h 1000 (x3 + 2).toNat)] [] h (fun r h' => Wp true i_L_law 1697 [vr 1000, vr 0, vr 103, vi x3] (r.toList ++ []) h' Q)) :
    Wp true i_L_law 1683 [vr 1000, vr 0, vr 103, vi x3] [] h Q := by
  refine r_aload_n (v := 0) f_380_1683 rfl (by decide) ?_
  refine r_aload_n (v := 1000) f_380_1684 rfl (by decide) ?_
  refine r_iload_n (v := x3) f_380_1685 rfl ?_
  refine r_iconst f_380_1686 (by decide) ?_
  refine r_iadd (u := x3 + 1) f_380_1687 rfl o1 ?_
  refine r_saload f_380_1688 o2 ?_
  refine r_aload_n (v := 1000) f_380_1689 rfl (by decide) ?_
  refine r_iload_n (v := x3) f_380_1690 rfl ?_
  refine r_iconst f_380_1691 (by decide) ?_
  refine r_iadd (u := x3 + 2) f_380_1692 rfl o3 ?_
  refine r_saload f_380_1693 o4 ?_
  exact r_callv (as := [vr 0, vi (h 1000 (x3 + 1).toNat), vi (h 1000 (x3 + 2).toNat)]) (st' := []) (ls0 := [vr 0, vi (h 1000 (x3 + 1).toNat), vi (h 1000 (x3 + 2).toNat)]) f_380_1694 (by decide) rfl rfl (Nat.le_of_ble_eq_true rfl) (Nat.le_of_ble_eq_true rfl) ⟨_, _, rfl, rfl⟩ rfl k5

theorem g_L_law_1697 {Q : PQ} {h : HP} {x3 : Int} {s0 : Int} 
    (o1 : -2147483648 ≤ x3 + 1 ∧ x3 + 1 ≤ 2147483647)
    (o2 : 0 ≤ x3 + 1 ∧ x3 + 1 < h 1001 0)
    (o3 : -2147483648 ≤ x3 + 2 ∧ x3 + 2 ≤ 2147483647)
    (o4 : 0 ≤ x3 + 2 ∧ x3 + 2 < h 1001 0)
    (k5 : Wp true i_M_ask 0 [vr 103, vi (h 1000 (x3 + 1).toNat), vi (h 1000 (x3 + 2).toNat)] [] h (fun r h' => Wp true i_L_law 1711 [vr 1000, vr 0, vr 103, vi x3] (r.toList ++ [vi s0]) h' Q)) :
    Wp true i_L_law 1697 [vr 1000, vr 0, vr 103, vi x3] [vi s0] h Q := by
  refine r_aload_n (v := 103) f_380_1697 rfl (by decide) ?_
  refine r_aload_n (v := 1000) f_380_1698 rfl (by decide) ?_
  refine r_iload_n (v := x3) f_380_1699 rfl ?_
  refine r_iconst f_380_1700 (by decide) ?_
  refine r_iadd (u := x3 + 1) f_380_1701 rfl o1 ?_
  refine r_saload f_380_1702 o2 ?_
  refine r_aload_n (v := 1000) f_380_1703 rfl (by decide) ?_
  refine r_iload_n (v := x3) f_380_1704 rfl ?_
  refine r_iconst f_380_1705 (by decide) ?_
  refine r_iadd (u := x3 + 2) f_380_1706 rfl o3 ?_
  refine r_saload f_380_1707 o4 ?_
  exact r_callv (as := [vr 103, vi (h 1000 (x3 + 1).toNat), vi (h 1000 (x3 + 2).toNat)]) (st' := [vi s0]) (ls0 := [vr 103, vi (h 1000 (x3 + 1).toNat), vi (h 1000 (x3 + 2).toNat)]) f_380_1708 (by decide) rfl rfl (Nat.le_of_ble_eq_true rfl) (Nat.le_of_ble_eq_true rfl) ⟨_, _, rfl, rfl⟩ rfl k5

theorem g_L_law_1711 {Q : PQ} {h : HP} {x3 : Int} {s0 : Int} {s1 : Int} 
    (k1 : s0 = s1 → Wp true i_L_law 2076 [vr 1000, vr 0, vr 103, vi x3] [] h Q)
    (k2 : ¬ s0 = s1 → Q (some (vi 0)) h) :
    Wp true i_L_law 1711 [vr 1000, vr 0, vr 103, vi x3] [vi s1, vi s0] h Q := by
  refine r_br2 (t := 2076) f_380_1711 rfl cb_eq (fun c1 => ?_) (fun c1 => ?_)
  · exact (k1 c1)
  · refine r_iconst f_380_1714 (by decide) ?_
    exact r_retz f_380_1715 rfl (by decide) (k2 c1)

theorem g_L_law_1716 {Q : PQ} {h : HP} {x3 : Int} 
    (o1 : -2147483648 ≤ x3 + 1 ∧ x3 + 1 ≤ 2147483647)
    (o2 : 0 ≤ x3 + 1 ∧ x3 + 1 < h 1001 0)
    (o3 : -2147483648 ≤ x3 + 2 ∧ x3 + 2 ≤ 2147483647)
    (o4 : 0 ≤ x3 + 2 ∧ x3 + 2 < h 1001 0)
    (o5 : -2147483648 ≤ x3 + 3 ∧ x3 + 3 ≤ 2147483647)
    (o6 : 0 ≤ x3 + 3 ∧ x3 + 3 < h 1001 0)
    (k7 : Wp true i_C_askIn 0 [vr 0, vi (h 1000 (x3 + 1).toNat), vi (h 1000 (x3 + 2).toNat), vi (h 1000 (x3 + 3).toNat)] [] h (fun r h' => Wp true i_L_law 1735 [vr 1000, vr 0, vr 103, vi x3] (r.toList ++ []) h' Q)) :
    Wp true i_L_law 1716 [vr 1000, vr 0, vr 103, vi x3] [] h Q := by
  refine r_aload_n (v := 0) f_380_1716 rfl (by decide) ?_
  refine r_aload_n (v := 1000) f_380_1717 rfl (by decide) ?_
  refine r_iload_n (v := x3) f_380_1718 rfl ?_
  refine r_iconst f_380_1719 (by decide) ?_
  refine r_iadd (u := x3 + 1) f_380_1720 rfl o1 ?_
  refine r_saload f_380_1721 o2 ?_
  refine r_aload_n (v := 1000) f_380_1722 rfl (by decide) ?_
  refine r_iload_n (v := x3) f_380_1723 rfl ?_
  refine r_iconst f_380_1724 (by decide) ?_
  refine r_iadd (u := x3 + 2) f_380_1725 rfl o3 ?_
  refine r_saload f_380_1726 o4 ?_
  refine r_aload_n (v := 1000) f_380_1727 rfl (by decide) ?_
  refine r_iload_n (v := x3) f_380_1728 rfl ?_
  refine r_iconst f_380_1729 (by decide) ?_
  refine r_iadd (u := x3 + 3) f_380_1730 rfl o5 ?_
  refine r_saload f_380_1731 o6 ?_
  exact r_callv (as := [vr 0, vi (h 1000 (x3 + 1).toNat), vi (h 1000 (x3 + 2).toNat), vi (h 1000 (x3 + 3).toNat)]) (st' := []) (ls0 := [vr 0, vi (h 1000 (x3 + 1).toNat), vi (h 1000 (x3 + 2).toNat), vi (h 1000 (x3 + 3).toNat)]) f_380_1732 (by decide) rfl rfl (Nat.le_of_ble_eq_true rfl) (Nat.le_of_ble_eq_true rfl) ⟨_, _, rfl, rfl⟩ rfl k7

theorem g_L_law_1735 {Q : PQ} {h : HP} {x3 : Int} {s0 : Int} 
    (o1 : -2147483648 ≤ x3 + 1 ∧ x3 + 1 ≤ 2147483647)
    (o2 : 0 ≤ x3 + 1 ∧ x3 + 1 < h 1001 0)
    (o3 : -2147483648 ≤ x3 + 2 ∧ x3 + 2 ≤ 2147483647)
    (o4 : 0 ≤ x3 + 2 ∧ x3 + 2 < h 1001 0)
    (o5 : -2147483648 ≤ x3 + 3 ∧ x3 + 3 ≤ 2147483647)
    (o6 : 0 ≤ x3 + 3 ∧ x3 + 3 < h 1001 0)
    (k7 : Wp true i_M_askIn 0 [vr 103, vi (h 1000 (x3 + 1).toNat), vi (h 1000 (x3 + 2).toNat), vi (h 1000 (x3 + 3).toNat)] [] h (fun r h' => Wp true i_L_law 1754 [vr 1000, vr 0, vr 103, vi x3] (r.toList ++ [vi s0]) h' Q)) :
    Wp true i_L_law 1735 [vr 1000, vr 0, vr 103, vi x3] [vi s0] h Q := by
  refine r_aload_n (v := 103) f_380_1735 rfl (by decide) ?_
  refine r_aload_n (v := 1000) f_380_1736 rfl (by decide) ?_
  refine r_iload_n (v := x3) f_380_1737 rfl ?_
  refine r_iconst f_380_1738 (by decide) ?_
  refine r_iadd (u := x3 + 1) f_380_1739 rfl o1 ?_
  refine r_saload f_380_1740 o2 ?_
  refine r_aload_n (v := 1000) f_380_1741 rfl (by decide) ?_
  refine r_iload_n (v := x3) f_380_1742 rfl ?_
  refine r_iconst f_380_1743 (by decide) ?_
  refine r_iadd (u := x3 + 2) f_380_1744 rfl o3 ?_
  refine r_saload f_380_1745 o4 ?_
  refine r_aload_n (v := 1000) f_380_1746 rfl (by decide) ?_
  refine r_iload_n (v := x3) f_380_1747 rfl ?_
  refine r_iconst f_380_1748 (by decide) ?_
  refine r_iadd (u := x3 + 3) f_380_1749 rfl o5 ?_
  refine r_saload f_380_1750 o6 ?_
  exact r_callv (as := [vr 103, vi (h 1000 (x3 + 1).toNat), vi (h 1000 (x3 + 2).toNat), vi (h 1000 (x3 + 3).toNat)]) (st' := [vi s0]) (ls0 := [vr 103, vi (h 1000 (x3 + 1).toNat), vi (h 1000 (x3 + 2).toNat), vi (h 1000 (x3 + 3).toNat)]) f_380_1751 (by decide) rfl rfl (Nat.le_of_ble_eq_true rfl) (Nat.le_of_ble_eq_true rfl) ⟨_, _, rfl, rfl⟩ rfl k7

theorem g_L_law_1754 {Q : PQ} {h : HP} {x3 : Int} {s0 : Int} {s1 : Int} 
    (k1 : s0 = s1 → Wp true i_L_law 2076 [vr 1000, vr 0, vr 103, vi x3] [] h Q)
    (k2 : ¬ s0 = s1 → Q (some (vi 0)) h) :
    Wp true i_L_law 1754 [vr 1000, vr 0, vr 103, vi x3] [vi s1, vi s0] h Q := by
  refine r_br2 (t := 2076) f_380_1754 rfl cb_eq (fun c1 => ?_) (fun c1 => ?_)
  · exact (k1 c1)
  · refine r_iconst f_380_1757 (by decide) ?_
    exact r_retz f_380_1758 rfl (by decide) (k2 c1)

theorem g_L_law_1759 {Q : PQ} {h : HP} {x3 : Int} 
    (o1 : -2147483648 ≤ x3 + 1 ∧ x3 + 1 ≤ 2147483647)
    (o2 : 0 ≤ x3 + 1 ∧ x3 + 1 < h 1001 0)
    (o3 : -2147483648 ≤ x3 + 2 ∧ x3 + 2 ≤ 2147483647)
    (o4 : 0 ≤ x3 + 2 ∧ x3 + 2 < h 1001 0)
    (k5 : Wp true i_C_price 0 [vr 0, vi (h 1000 (x3 + 1).toNat), vi (h 1000 (x3 + 2).toNat)] [] h (fun r h' => Wp true i_L_law 1773 [vr 1000, vr 0, vr 103, vi x3] (r.toList ++ []) h' Q)) :
    Wp true i_L_law 1759 [vr 1000, vr 0, vr 103, vi x3] [] h Q := by
  refine r_aload_n (v := 0) f_380_1759 rfl (by decide) ?_
  refine r_aload_n (v := 1000) f_380_1760 rfl (by decide) ?_
  refine r_iload_n (v := x3) f_380_1761 rfl ?_
  refine r_iconst f_380_1762 (by decide) ?_
  refine r_iadd (u := x3 + 1) f_380_1763 rfl o1 ?_
  refine r_saload f_380_1764 o2 ?_
  refine r_aload_n (v := 1000) f_380_1765 rfl (by decide) ?_
  refine r_iload_n (v := x3) f_380_1766 rfl ?_
  refine r_iconst f_380_1767 (by decide) ?_
  refine r_iadd (u := x3 + 2) f_380_1768 rfl o3 ?_
  refine r_saload f_380_1769 o4 ?_
  exact r_callv (as := [vr 0, vi (h 1000 (x3 + 1).toNat), vi (h 1000 (x3 + 2).toNat)]) (st' := []) (ls0 := [vr 0, vi (h 1000 (x3 + 1).toNat), vi (h 1000 (x3 + 2).toNat)]) f_380_1770 (by decide) rfl rfl (Nat.le_of_ble_eq_true rfl) (Nat.le_of_ble_eq_true rfl) ⟨_, _, rfl, rfl⟩ rfl k5

theorem g_L_law_1773 {Q : PQ} {h : HP} {x3 : Int} {s0 : Int} 
    (o1 : -2147483648 ≤ x3 + 1 ∧ x3 + 1 ≤ 2147483647)
    (o2 : 0 ≤ x3 + 1 ∧ x3 + 1 < h 1001 0)
    (o3 : -2147483648 ≤ x3 + 2 ∧ x3 + 2 ≤ 2147483647)
    (o4 : 0 ≤ x3 + 2 ∧ x3 + 2 < h 1001 0)
    (k5 : Wp true i_M_price 0 [vr 103, vi (h 1000 (x3 + 1).toNat), vi (h 1000 (x3 + 2).toNat), vr 9999, vr 9999] [] h (fun r h' => Wp true i_L_law 1787 [vr 1000, vr 0, vr 103, vi x3] (r.toList ++ [vi s0]) h' Q)) :
    Wp true i_L_law 1773 [vr 1000, vr 0, vr 103, vi x3] [vi s0] h Q := by
  refine r_aload_n (v := 103) f_380_1773 rfl (by decide) ?_
  refine r_aload_n (v := 1000) f_380_1774 rfl (by decide) ?_
  refine r_iload_n (v := x3) f_380_1775 rfl ?_
  refine r_iconst f_380_1776 (by decide) ?_
  refine r_iadd (u := x3 + 1) f_380_1777 rfl o1 ?_
  refine r_saload f_380_1778 o2 ?_
  refine r_aload_n (v := 1000) f_380_1779 rfl (by decide) ?_
  refine r_iload_n (v := x3) f_380_1780 rfl ?_
  refine r_iconst f_380_1781 (by decide) ?_
  refine r_iadd (u := x3 + 2) f_380_1782 rfl o3 ?_
  refine r_saload f_380_1783 o4 ?_
  exact r_callv (as := [vr 103, vi (h 1000 (x3 + 1).toNat), vi (h 1000 (x3 + 2).toNat)]) (st' := [vi s0]) (ls0 := [vr 103, vi (h 1000 (x3 + 1).toNat), vi (h 1000 (x3 + 2).toNat), vr 9999, vr 9999]) f_380_1784 (by decide) rfl rfl (Nat.le_of_ble_eq_true rfl) (Nat.le_of_ble_eq_true rfl) ⟨_, _, rfl, rfl⟩ rfl k5

theorem g_L_law_1787 {Q : PQ} {h : HP} {x3 : Int} {s0 : Int} {s1 : Int} 
    (k1 : s0 = s1 → Wp true i_L_law 2076 [vr 1000, vr 0, vr 103, vi x3] [] h Q)
    (k2 : ¬ s0 = s1 → Q (some (vi 0)) h) :
    Wp true i_L_law 1787 [vr 1000, vr 0, vr 103, vi x3] [vi s1, vi s0] h Q := by
  refine r_br2 (t := 2076) f_380_1787 rfl cb_eq (fun c1 => ?_) (fun c1 => ?_)
  · exact (k1 c1)
  · refine r_iconst f_380_1790 (by decide) ?_
    exact r_retz f_380_1791 rfl (by decide) (k2 c1)

theorem g_L_law_1792 {Q : PQ} {h : HP} {x3 : Int} 
    (o1 : -2147483648 ≤ x3 + 1 ∧ x3 + 1 ≤ 2147483647)
    (o2 : 0 ≤ x3 + 1 ∧ x3 + 1 < h 1001 0)
    (o3 : -2147483648 ≤ x3 + 2 ∧ x3 + 2 ≤ 2147483647)
    (o4 : 0 ≤ x3 + 2 ∧ x3 + 2 < h 1001 0)
    (k5 : Wp true i_C_peace 0 [vr 0, vi (h 1000 (x3 + 1).toNat), vi (h 1000 (x3 + 2).toNat)] [] h (fun r h' => Wp true i_L_law 1806 [vr 1000, vr 0, vr 103, vi x3] (r.toList ++ []) h' Q)) :
    Wp true i_L_law 1792 [vr 1000, vr 0, vr 103, vi x3] [] h Q := by
  refine r_aload_n (v := 0) f_380_1792 rfl (by decide) ?_
  refine r_aload_n (v := 1000) f_380_1793 rfl (by decide) ?_
  refine r_iload_n (v := x3) f_380_1794 rfl ?_
  refine r_iconst f_380_1795 (by decide) ?_
  refine r_iadd (u := x3 + 1) f_380_1796 rfl o1 ?_
  refine r_saload f_380_1797 o2 ?_
  refine r_aload_n (v := 1000) f_380_1798 rfl (by decide) ?_
  refine r_iload_n (v := x3) f_380_1799 rfl ?_
  refine r_iconst f_380_1800 (by decide) ?_
  refine r_iadd (u := x3 + 2) f_380_1801 rfl o3 ?_
  refine r_saload f_380_1802 o4 ?_
  exact r_callv (as := [vr 0, vi (h 1000 (x3 + 1).toNat), vi (h 1000 (x3 + 2).toNat)]) (st' := []) (ls0 := [vr 0, vi (h 1000 (x3 + 1).toNat), vi (h 1000 (x3 + 2).toNat)]) f_380_1803 (by decide) rfl rfl (Nat.le_of_ble_eq_true rfl) (Nat.le_of_ble_eq_true rfl) ⟨_, _, rfl, rfl⟩ rfl k5

theorem g_L_law_1806 {Q : PQ} {h : HP} {x3 : Int} {s0 : Int} 
    (o1 : -2147483648 ≤ x3 + 1 ∧ x3 + 1 ≤ 2147483647)
    (o2 : 0 ≤ x3 + 1 ∧ x3 + 1 < h 1001 0)
    (o3 : -2147483648 ≤ x3 + 2 ∧ x3 + 2 ≤ 2147483647)
    (o4 : 0 ≤ x3 + 2 ∧ x3 + 2 < h 1001 0)
    (k5 : Wp true i_M_peace 0 [vr 103, vi (h 1000 (x3 + 1).toNat), vi (h 1000 (x3 + 2).toNat), vr 9999] [] h (fun r h' => Wp true i_L_law 1820 [vr 1000, vr 0, vr 103, vi x3] (r.toList ++ [vi s0]) h' Q)) :
    Wp true i_L_law 1806 [vr 1000, vr 0, vr 103, vi x3] [vi s0] h Q := by
  refine r_aload_n (v := 103) f_380_1806 rfl (by decide) ?_
  refine r_aload_n (v := 1000) f_380_1807 rfl (by decide) ?_
  refine r_iload_n (v := x3) f_380_1808 rfl ?_
  refine r_iconst f_380_1809 (by decide) ?_
  refine r_iadd (u := x3 + 1) f_380_1810 rfl o1 ?_
  refine r_saload f_380_1811 o2 ?_
  refine r_aload_n (v := 1000) f_380_1812 rfl (by decide) ?_
  refine r_iload_n (v := x3) f_380_1813 rfl ?_
  refine r_iconst f_380_1814 (by decide) ?_
  refine r_iadd (u := x3 + 2) f_380_1815 rfl o3 ?_
  refine r_saload f_380_1816 o4 ?_
  exact r_callv (as := [vr 103, vi (h 1000 (x3 + 1).toNat), vi (h 1000 (x3 + 2).toNat)]) (st' := [vi s0]) (ls0 := [vr 103, vi (h 1000 (x3 + 1).toNat), vi (h 1000 (x3 + 2).toNat), vr 9999]) f_380_1817 (by decide) rfl rfl (Nat.le_of_ble_eq_true rfl) (Nat.le_of_ble_eq_true rfl) ⟨_, _, rfl, rfl⟩ rfl k5

theorem g_L_law_1820 {Q : PQ} {h : HP} {x3 : Int} {s0 : Int} {s1 : Int} 
    (k1 : s0 = s1 → Wp true i_L_law 2076 [vr 1000, vr 0, vr 103, vi x3] [] h Q)
    (k2 : ¬ s0 = s1 → Q (some (vi 0)) h) :
    Wp true i_L_law 1820 [vr 1000, vr 0, vr 103, vi x3] [vi s1, vi s0] h Q := by
  refine r_br2 (t := 2076) f_380_1820 rfl cb_eq (fun c1 => ?_) (fun c1 => ?_)
  · exact (k1 c1)
  · refine r_iconst f_380_1823 (by decide) ?_
    exact r_retz f_380_1824 rfl (by decide) (k2 c1)

theorem g_L_law_1825 {Q : PQ} {h : HP} {x3 : Int} 
    (o1 : -2147483648 ≤ x3 + 1 ∧ x3 + 1 ≤ 2147483647)
    (o2 : 0 ≤ x3 + 1 ∧ x3 + 1 < h 1001 0)
    (o3 : -2147483648 ≤ x3 + 2 ∧ x3 + 2 ≤ 2147483647)
    (o4 : 0 ≤ x3 + 2 ∧ x3 + 2 < h 1001 0)
    (o5 : -2147483648 ≤ x3 + 3 ∧ x3 + 3 ≤ 2147483647)
    (o6 : 0 ≤ x3 + 3 ∧ x3 + 3 < h 1001 0)
    (k7 : Wp true i_C_peaceIn 0 [vr 0, vi (h 1000 (x3 + 1).toNat), vi (h 1000 (x3 + 2).toNat), vi (h 1000 (x3 + 3).toNat)] [] h (fun r h' => Wp true i_L_law 1844 [vr 1000, vr 0, vr 103, vi x3] (r.toList ++ []) h' Q)) :
    Wp true i_L_law 1825 [vr 1000, vr 0, vr 103, vi x3] [] h Q := by
  refine r_aload_n (v := 0) f_380_1825 rfl (by decide) ?_
  refine r_aload_n (v := 1000) f_380_1826 rfl (by decide) ?_
  refine r_iload_n (v := x3) f_380_1827 rfl ?_
  refine r_iconst f_380_1828 (by decide) ?_
  refine r_iadd (u := x3 + 1) f_380_1829 rfl o1 ?_
  refine r_saload f_380_1830 o2 ?_
  refine r_aload_n (v := 1000) f_380_1831 rfl (by decide) ?_
  refine r_iload_n (v := x3) f_380_1832 rfl ?_
  refine r_iconst f_380_1833 (by decide) ?_
  refine r_iadd (u := x3 + 2) f_380_1834 rfl o3 ?_
  refine r_saload f_380_1835 o4 ?_
  refine r_aload_n (v := 1000) f_380_1836 rfl (by decide) ?_
  refine r_iload_n (v := x3) f_380_1837 rfl ?_
  refine r_iconst f_380_1838 (by decide) ?_
  refine r_iadd (u := x3 + 3) f_380_1839 rfl o5 ?_
  refine r_saload f_380_1840 o6 ?_
  exact r_callv (as := [vr 0, vi (h 1000 (x3 + 1).toNat), vi (h 1000 (x3 + 2).toNat), vi (h 1000 (x3 + 3).toNat)]) (st' := []) (ls0 := [vr 0, vi (h 1000 (x3 + 1).toNat), vi (h 1000 (x3 + 2).toNat), vi (h 1000 (x3 + 3).toNat)]) f_380_1841 (by decide) rfl rfl (Nat.le_of_ble_eq_true rfl) (Nat.le_of_ble_eq_true rfl) ⟨_, _, rfl, rfl⟩ rfl k7

theorem g_L_law_1844 {Q : PQ} {h : HP} {x3 : Int} {s0 : Int} 
    (o1 : -2147483648 ≤ x3 + 1 ∧ x3 + 1 ≤ 2147483647)
    (o2 : 0 ≤ x3 + 1 ∧ x3 + 1 < h 1001 0)
    (o3 : -2147483648 ≤ x3 + 2 ∧ x3 + 2 ≤ 2147483647)
    (o4 : 0 ≤ x3 + 2 ∧ x3 + 2 < h 1001 0)
    (o5 : -2147483648 ≤ x3 + 3 ∧ x3 + 3 ≤ 2147483647)
    (o6 : 0 ≤ x3 + 3 ∧ x3 + 3 < h 1001 0)
    (k7 : Wp true i_M_peaceIn 0 [vr 103, vi (h 1000 (x3 + 1).toNat), vi (h 1000 (x3 + 2).toNat), vi (h 1000 (x3 + 3).toNat), vr 9999, vr 9999, vr 9999, vr 9999] [] h (fun r h' => Wp true i_L_law 1863 [vr 1000, vr 0, vr 103, vi x3] (r.toList ++ [vi s0]) h' Q)) :
    Wp true i_L_law 1844 [vr 1000, vr 0, vr 103, vi x3] [vi s0] h Q := by
  refine r_aload_n (v := 103) f_380_1844 rfl (by decide) ?_
  refine r_aload_n (v := 1000) f_380_1845 rfl (by decide) ?_
  refine r_iload_n (v := x3) f_380_1846 rfl ?_
  refine r_iconst f_380_1847 (by decide) ?_
  refine r_iadd (u := x3 + 1) f_380_1848 rfl o1 ?_
  refine r_saload f_380_1849 o2 ?_
  refine r_aload_n (v := 1000) f_380_1850 rfl (by decide) ?_
  refine r_iload_n (v := x3) f_380_1851 rfl ?_
  refine r_iconst f_380_1852 (by decide) ?_
  refine r_iadd (u := x3 + 2) f_380_1853 rfl o3 ?_
  refine r_saload f_380_1854 o4 ?_
  refine r_aload_n (v := 1000) f_380_1855 rfl (by decide) ?_
  refine r_iload_n (v := x3) f_380_1856 rfl ?_
  refine r_iconst f_380_1857 (by decide) ?_
  refine r_iadd (u := x3 + 3) f_380_1858 rfl o5 ?_
  refine r_saload f_380_1859 o6 ?_
  exact r_callv (as := [vr 103, vi (h 1000 (x3 + 1).toNat), vi (h 1000 (x3 + 2).toNat), vi (h 1000 (x3 + 3).toNat)]) (st' := [vi s0]) (ls0 := [vr 103, vi (h 1000 (x3 + 1).toNat), vi (h 1000 (x3 + 2).toNat), vi (h 1000 (x3 + 3).toNat), vr 9999, vr 9999, vr 9999, vr 9999]) f_380_1860 (by decide) rfl rfl (Nat.le_of_ble_eq_true rfl) (Nat.le_of_ble_eq_true rfl) ⟨_, _, rfl, rfl⟩ rfl k7

theorem g_L_law_1863 {Q : PQ} {h : HP} {x3 : Int} {s0 : Int} {s1 : Int} 
    (k1 : s0 = s1 → Wp true i_L_law 2076 [vr 1000, vr 0, vr 103, vi x3] [] h Q)
    (k2 : ¬ s0 = s1 → Q (some (vi 0)) h) :
    Wp true i_L_law 1863 [vr 1000, vr 0, vr 103, vi x3] [vi s1, vi s0] h Q := by
  refine r_br2 (t := 2076) f_380_1863 rfl cb_eq (fun c1 => ?_) (fun c1 => ?_)
  · exact (k1 c1)
  · refine r_iconst f_380_1866 (by decide) ?_
    exact r_retz f_380_1867 rfl (by decide) (k2 c1)

theorem g_L_law_1868 {Q : PQ} {h : HP} {x3 : Int} 
    (o1 : -2147483648 ≤ x3 + 1 ∧ x3 + 1 ≤ 2147483647)
    (o2 : 0 ≤ x3 + 1 ∧ x3 + 1 < h 1001 0)
    (k3 : Wp true i_C_lines 0 [vr 0, vi (h 1000 (x3 + 1).toNat)] [] h (fun r h' => Wp true i_L_law 1877 [vr 1000, vr 0, vr 103, vi x3] (r.toList ++ []) h' Q)) :
    Wp true i_L_law 1868 [vr 1000, vr 0, vr 103, vi x3] [] h Q := by
  refine r_aload_n (v := 0) f_380_1868 rfl (by decide) ?_
  refine r_aload_n (v := 1000) f_380_1869 rfl (by decide) ?_
  refine r_iload_n (v := x3) f_380_1870 rfl ?_
  refine r_iconst f_380_1871 (by decide) ?_
  refine r_iadd (u := x3 + 1) f_380_1872 rfl o1 ?_
  refine r_saload f_380_1873 o2 ?_
  exact r_callv (as := [vr 0, vi (h 1000 (x3 + 1).toNat)]) (st' := []) (ls0 := [vr 0, vi (h 1000 (x3 + 1).toNat)]) f_380_1874 (by decide) rfl rfl (Nat.le_of_ble_eq_true rfl) (Nat.le_of_ble_eq_true rfl) ⟨_, _, rfl, rfl⟩ rfl k3

theorem g_L_law_1877 {Q : PQ} {h : HP} {x3 : Int} {s0 : Int} 
    (o1 : -2147483648 ≤ x3 + 1 ∧ x3 + 1 ≤ 2147483647)
    (o2 : 0 ≤ x3 + 1 ∧ x3 + 1 < h 1001 0)
    (k3 : Wp true i_M_lines 0 [vr 103, vi (h 1000 (x3 + 1).toNat), vr 9999, vr 9999] [] h (fun r h' => Wp true i_L_law 1886 [vr 1000, vr 0, vr 103, vi x3] (r.toList ++ [vj s0]) h' Q)) :
    Wp true i_L_law 1877 [vr 1000, vr 0, vr 103, vi x3] [vj s0] h Q := by
  refine r_aload_n (v := 103) f_380_1877 rfl (by decide) ?_
  refine r_aload_n (v := 1000) f_380_1878 rfl (by decide) ?_
  refine r_iload_n (v := x3) f_380_1879 rfl ?_
  refine r_iconst f_380_1880 (by decide) ?_
  refine r_iadd (u := x3 + 1) f_380_1881 rfl o1 ?_
  refine r_saload f_380_1882 o2 ?_
  exact r_callv (as := [vr 103, vi (h 1000 (x3 + 1).toNat)]) (st' := [vj s0]) (ls0 := [vr 103, vi (h 1000 (x3 + 1).toNat), vr 9999, vr 9999]) f_380_1883 (by decide) rfl rfl (Nat.le_of_ble_eq_true rfl) (Nat.le_of_ble_eq_true rfl) ⟨_, _, rfl, rfl⟩ rfl k3

theorem g_L_law_1886 {Q : PQ} {h : HP} {x3 : Int} {s0 : Int} {s1 : Int} 
    (k1 : s0 = s1 → Wp true i_L_law 2076 [vr 1000, vr 0, vr 103, vi x3] [] h Q)
    (k2 : ¬ s0 = s1 → Q (some (vi 0)) h) :
    Wp true i_L_law 1886 [vr 1000, vr 0, vr 103, vi x3] [vj s1, vj s0] h Q := by
  refine r_lcmp f_380_1886 ?_
  refine r_br (t := 2076) f_380_1887 rfl lc_eq (fun c1 => ?_) (fun c1 => ?_)
  · exact (k1 c1)
  · refine r_iconst f_380_1890 (by decide) ?_
    exact r_retz f_380_1891 rfl (by decide) (k2 c1)

theorem g_L_law_1892 {Q : PQ} {h : HP} {x3 : Int} 
    (o1 : -2147483648 ≤ x3 + 1 ∧ x3 + 1 ≤ 2147483647)
    (o2 : 0 ≤ x3 + 1 ∧ x3 + 1 < h 1001 0)
    (k3 : Wp true i_C_sure 0 [vr 0, vi (h 1000 (x3 + 1).toNat)] [] h (fun r h' => Wp true i_L_law 1901 [vr 1000, vr 0, vr 103, vi x3] (r.toList ++ []) h' Q)) :
    Wp true i_L_law 1892 [vr 1000, vr 0, vr 103, vi x3] [] h Q := by
  refine r_aload_n (v := 0) f_380_1892 rfl (by decide) ?_
  refine r_aload_n (v := 1000) f_380_1893 rfl (by decide) ?_
  refine r_iload_n (v := x3) f_380_1894 rfl ?_
  refine r_iconst f_380_1895 (by decide) ?_
  refine r_iadd (u := x3 + 1) f_380_1896 rfl o1 ?_
  refine r_saload f_380_1897 o2 ?_
  exact r_callv (as := [vr 0, vi (h 1000 (x3 + 1).toNat)]) (st' := []) (ls0 := [vr 0, vi (h 1000 (x3 + 1).toNat)]) f_380_1898 (by decide) rfl rfl (Nat.le_of_ble_eq_true rfl) (Nat.le_of_ble_eq_true rfl) ⟨_, _, rfl, rfl⟩ rfl k3

theorem g_L_law_1901 {Q : PQ} {h : HP} {x3 : Int} {s0 : Int} 
    (o1 : -2147483648 ≤ x3 + 1 ∧ x3 + 1 ≤ 2147483647)
    (o2 : 0 ≤ x3 + 1 ∧ x3 + 1 < h 1001 0)
    (k3 : Wp true i_M_sure 0 [vr 103, vi (h 1000 (x3 + 1).toNat), vr 9999, vr 9999, vr 9999] [] h (fun r h' => Wp true i_L_law 1910 [vr 1000, vr 0, vr 103, vi x3] (r.toList ++ [vi s0]) h' Q)) :
    Wp true i_L_law 1901 [vr 1000, vr 0, vr 103, vi x3] [vi s0] h Q := by
  refine r_aload_n (v := 103) f_380_1901 rfl (by decide) ?_
  refine r_aload_n (v := 1000) f_380_1902 rfl (by decide) ?_
  refine r_iload_n (v := x3) f_380_1903 rfl ?_
  refine r_iconst f_380_1904 (by decide) ?_
  refine r_iadd (u := x3 + 1) f_380_1905 rfl o1 ?_
  refine r_saload f_380_1906 o2 ?_
  exact r_callv (as := [vr 103, vi (h 1000 (x3 + 1).toNat)]) (st' := [vi s0]) (ls0 := [vr 103, vi (h 1000 (x3 + 1).toNat), vr 9999, vr 9999, vr 9999]) f_380_1907 (by decide) rfl rfl (Nat.le_of_ble_eq_true rfl) (Nat.le_of_ble_eq_true rfl) ⟨_, _, rfl, rfl⟩ rfl k3

theorem g_L_law_1910 {Q : PQ} {h : HP} {x3 : Int} {s0 : Int} {s1 : Int} 
    (k1 : s0 = s1 → Wp true i_L_law 2076 [vr 1000, vr 0, vr 103, vi x3] [] h Q)
    (k2 : ¬ s0 = s1 → Q (some (vi 0)) h) :
    Wp true i_L_law 1910 [vr 1000, vr 0, vr 103, vi x3] [vi s1, vi s0] h Q := by
  refine r_br2 (t := 2076) f_380_1910 rfl cb_eq (fun c1 => ?_) (fun c1 => ?_)
  · exact (k1 c1)
  · refine r_iconst f_380_1913 (by decide) ?_
    exact r_retz f_380_1914 rfl (by decide) (k2 c1)

theorem g_L_law_1915 {Q : PQ} {h : HP} {x3 : Int} 
    (o1 : -2147483648 ≤ x3 + 1 ∧ x3 + 1 ≤ 2147483647)
    (o2 : 0 ≤ x3 + 1 ∧ x3 + 1 < h 1001 0)
    (k3 : Wp true i_C_game 0 [vr 0, vi (h 1000 (x3 + 1).toNat), vr 9999] [] h (fun r h' => Wp true i_L_law 1924 [vr 1000, vr 0, vr 103, vi x3] (r.toList ++ []) h' Q)) :
    Wp true i_L_law 1915 [vr 1000, vr 0, vr 103, vi x3] [] h Q := by
  refine r_aload_n (v := 0) f_380_1915 rfl (by decide) ?_
  refine r_aload_n (v := 1000) f_380_1916 rfl (by decide) ?_
  refine r_iload_n (v := x3) f_380_1917 rfl ?_
  refine r_iconst f_380_1918 (by decide) ?_
  refine r_iadd (u := x3 + 1) f_380_1919 rfl o1 ?_
  refine r_saload f_380_1920 o2 ?_
  exact r_callv (as := [vr 0, vi (h 1000 (x3 + 1).toNat)]) (st' := []) (ls0 := [vr 0, vi (h 1000 (x3 + 1).toNat), vr 9999]) f_380_1921 (by decide) rfl rfl (Nat.le_of_ble_eq_true rfl) (Nat.le_of_ble_eq_true rfl) ⟨_, _, rfl, rfl⟩ rfl k3

theorem g_L_law_1924 {Q : PQ} {h : HP} {x3 : Int} {s0 : Int} 
    (o1 : -2147483648 ≤ x3 + 1 ∧ x3 + 1 ≤ 2147483647)
    (o2 : 0 ≤ x3 + 1 ∧ x3 + 1 < h 1001 0)
    (k3 : Wp true i_M_game 0 [vr 103, vi (h 1000 (x3 + 1).toNat), vr 9999] [] h (fun r h' => Wp true i_L_law 1933 [vr 1000, vr 0, vr 103, vi x3] (r.toList ++ [vi s0]) h' Q)) :
    Wp true i_L_law 1924 [vr 1000, vr 0, vr 103, vi x3] [vi s0] h Q := by
  refine r_aload_n (v := 103) f_380_1924 rfl (by decide) ?_
  refine r_aload_n (v := 1000) f_380_1925 rfl (by decide) ?_
  refine r_iload_n (v := x3) f_380_1926 rfl ?_
  refine r_iconst f_380_1927 (by decide) ?_
  refine r_iadd (u := x3 + 1) f_380_1928 rfl o1 ?_
  refine r_saload f_380_1929 o2 ?_
  exact r_callv (as := [vr 103, vi (h 1000 (x3 + 1).toNat)]) (st' := [vi s0]) (ls0 := [vr 103, vi (h 1000 (x3 + 1).toNat), vr 9999]) f_380_1930 (by decide) rfl rfl (Nat.le_of_ble_eq_true rfl) (Nat.le_of_ble_eq_true rfl) ⟨_, _, rfl, rfl⟩ rfl k3

theorem g_L_law_1933 {Q : PQ} {h : HP} {x3 : Int} {s0 : Int} {s1 : Int} 
    (k1 : s0 = s1 → Wp true i_L_law 2076 [vr 1000, vr 0, vr 103, vi x3] [] h Q)
    (k2 : ¬ s0 = s1 → Q (some (vi 0)) h) :
    Wp true i_L_law 1933 [vr 1000, vr 0, vr 103, vi x3] [vi s1, vi s0] h Q := by
  refine r_br2 (t := 2076) f_380_1933 rfl cb_eq (fun c1 => ?_) (fun c1 => ?_)
  · exact (k1 c1)
  · refine r_iconst f_380_1936 (by decide) ?_
    exact r_retz f_380_1937 rfl (by decide) (k2 c1)

theorem g_L_law_1938 {Q : PQ} {h : HP} {x3 : Int} 
    (o1 : -2147483648 ≤ x3 + 1 ∧ x3 + 1 ≤ 2147483647)
    (o2 : 0 ≤ x3 + 1 ∧ x3 + 1 < h 1001 0)
    (k3 : Wp true i_C_first 0 [vr 0, vi (h 1000 (x3 + 1).toNat), vr 9999] [] h (fun r h' => Wp true i_L_law 1947 [vr 1000, vr 0, vr 103, vi x3] (r.toList ++ []) h' Q)) :
    Wp true i_L_law 1938 [vr 1000, vr 0, vr 103, vi x3] [] h Q := by
  refine r_aload_n (v := 0) f_380_1938 rfl (by decide) ?_
  refine r_aload_n (v := 1000) f_380_1939 rfl (by decide) ?_
  refine r_iload_n (v := x3) f_380_1940 rfl ?_
  refine r_iconst f_380_1941 (by decide) ?_
  refine r_iadd (u := x3 + 1) f_380_1942 rfl o1 ?_
  refine r_saload f_380_1943 o2 ?_
  exact r_callv (as := [vr 0, vi (h 1000 (x3 + 1).toNat)]) (st' := []) (ls0 := [vr 0, vi (h 1000 (x3 + 1).toNat), vr 9999]) f_380_1944 (by decide) rfl rfl (Nat.le_of_ble_eq_true rfl) (Nat.le_of_ble_eq_true rfl) ⟨_, _, rfl, rfl⟩ rfl k3

theorem g_L_law_1947 {Q : PQ} {h : HP} {x3 : Int} {s0 : Int} 
    (o1 : -2147483648 ≤ x3 + 1 ∧ x3 + 1 ≤ 2147483647)
    (o2 : 0 ≤ x3 + 1 ∧ x3 + 1 < h 1001 0)
    (k3 : Wp true i_M_first 0 [vr 103, vi (h 1000 (x3 + 1).toNat), vr 9999] [] h (fun r h' => Wp true i_L_law 1956 [vr 1000, vr 0, vr 103, vi x3] (r.toList ++ [vi s0]) h' Q)) :
    Wp true i_L_law 1947 [vr 1000, vr 0, vr 103, vi x3] [vi s0] h Q := by
  refine r_aload_n (v := 103) f_380_1947 rfl (by decide) ?_
  refine r_aload_n (v := 1000) f_380_1948 rfl (by decide) ?_
  refine r_iload_n (v := x3) f_380_1949 rfl ?_
  refine r_iconst f_380_1950 (by decide) ?_
  refine r_iadd (u := x3 + 1) f_380_1951 rfl o1 ?_
  refine r_saload f_380_1952 o2 ?_
  exact r_callv (as := [vr 103, vi (h 1000 (x3 + 1).toNat)]) (st' := [vi s0]) (ls0 := [vr 103, vi (h 1000 (x3 + 1).toNat), vr 9999]) f_380_1953 (by decide) rfl rfl (Nat.le_of_ble_eq_true rfl) (Nat.le_of_ble_eq_true rfl) ⟨_, _, rfl, rfl⟩ rfl k3

theorem g_L_law_1956 {Q : PQ} {h : HP} {x3 : Int} {s0 : Int} {s1 : Int} 
    (k1 : s0 = s1 → Wp true i_L_law 2076 [vr 1000, vr 0, vr 103, vi x3] [] h Q)
    (k2 : ¬ s0 = s1 → Q (some (vi 0)) h) :
    Wp true i_L_law 1956 [vr 1000, vr 0, vr 103, vi x3] [vi s1, vi s0] h Q := by
  refine r_br2 (t := 2076) f_380_1956 rfl cb_eq (fun c1 => ?_) (fun c1 => ?_)
  · exact (k1 c1)
  · refine r_iconst f_380_1959 (by decide) ?_
    exact r_retz f_380_1960 rfl (by decide) (k2 c1)

theorem g_L_law_1961 {Q : PQ} {h : HP} {x3 : Int} 
    (o1 : -2147483648 ≤ x3 + 1 ∧ x3 + 1 ≤ 2147483647)
    (o2 : 0 ≤ x3 + 1 ∧ x3 + 1 < h 1001 0)
    (k3 : Wp true i_C_live 0 [vr 0, vi (h 1000 (x3 + 1).toNat)] [] h (fun r h' => Wp true i_L_law 1970 [vr 1000, vr 0, vr 103, vi x3] (r.toList ++ []) h' Q)) :
    Wp true i_L_law 1961 [vr 1000, vr 0, vr 103, vi x3] [] h Q := by
  refine r_aload_n (v := 0) f_380_1961 rfl (by decide) ?_
  refine r_aload_n (v := 1000) f_380_1962 rfl (by decide) ?_
  refine r_iload_n (v := x3) f_380_1963 rfl ?_
  refine r_iconst f_380_1964 (by decide) ?_
  refine r_iadd (u := x3 + 1) f_380_1965 rfl o1 ?_
  refine r_saload f_380_1966 o2 ?_
  exact r_callv (as := [vr 0, vi (h 1000 (x3 + 1).toNat)]) (st' := []) (ls0 := [vr 0, vi (h 1000 (x3 + 1).toNat)]) f_380_1967 (by decide) rfl rfl (Nat.le_of_ble_eq_true rfl) (Nat.le_of_ble_eq_true rfl) ⟨_, _, rfl, rfl⟩ rfl k3

theorem g_L_law_1970 {Q : PQ} {h : HP} {x3 : Int} {s0 : Int} 
    (o1 : -2147483648 ≤ x3 + 1 ∧ x3 + 1 ≤ 2147483647)
    (o2 : 0 ≤ x3 + 1 ∧ x3 + 1 < h 1001 0)
    (k3 : Wp true i_M_live 0 [vr 103, vi (h 1000 (x3 + 1).toNat), vr 9999] [] h (fun r h' => Wp true i_L_law 1979 [vr 1000, vr 0, vr 103, vi x3] (r.toList ++ [vi s0]) h' Q)) :
    Wp true i_L_law 1970 [vr 1000, vr 0, vr 103, vi x3] [vi s0] h Q := by
  refine r_aload_n (v := 103) f_380_1970 rfl (by decide) ?_
  refine r_aload_n (v := 1000) f_380_1971 rfl (by decide) ?_
  refine r_iload_n (v := x3) f_380_1972 rfl ?_
  refine r_iconst f_380_1973 (by decide) ?_
  refine r_iadd (u := x3 + 1) f_380_1974 rfl o1 ?_
  refine r_saload f_380_1975 o2 ?_
  exact r_callv (as := [vr 103, vi (h 1000 (x3 + 1).toNat)]) (st' := [vi s0]) (ls0 := [vr 103, vi (h 1000 (x3 + 1).toNat), vr 9999]) f_380_1976 (by decide) rfl rfl (Nat.le_of_ble_eq_true rfl) (Nat.le_of_ble_eq_true rfl) ⟨_, _, rfl, rfl⟩ rfl k3

theorem g_L_law_1979 {Q : PQ} {h : HP} {x3 : Int} {s0 : Int} {s1 : Int} 
    (k1 : s0 = s1 → Wp true i_L_law 2076 [vr 1000, vr 0, vr 103, vi x3] [] h Q)
    (k2 : ¬ s0 = s1 → Q (some (vi 0)) h) :
    Wp true i_L_law 1979 [vr 1000, vr 0, vr 103, vi x3] [vi s1, vi s0] h Q := by
  refine r_br2 (t := 2076) f_380_1979 rfl cb_eq (fun c1 => ?_) (fun c1 => ?_)
  · exact (k1 c1)
  · refine r_iconst f_380_1982 (by decide) ?_
    exact r_retz f_380_1983 rfl (by decide) (k2 c1)

theorem g_L_law_1984 {Q : PQ} {h : HP} {x3 : Int} 
    (o1 : -2147483648 ≤ x3 + 1 ∧ x3 + 1 ≤ 2147483647)
    (o2 : 0 ≤ x3 + 1 ∧ x3 + 1 < h 1001 0)
    (k3 : Wp true i_C_lived 0 [vr 0, vi (h 1000 (x3 + 1).toNat)] [] h (fun r h' => Wp true i_L_law 1993 [vr 1000, vr 0, vr 103, vi x3] (r.toList ++ []) h' Q)) :
    Wp true i_L_law 1984 [vr 1000, vr 0, vr 103, vi x3] [] h Q := by
  refine r_aload_n (v := 0) f_380_1984 rfl (by decide) ?_
  refine r_aload_n (v := 1000) f_380_1985 rfl (by decide) ?_
  refine r_iload_n (v := x3) f_380_1986 rfl ?_
  refine r_iconst f_380_1987 (by decide) ?_
  refine r_iadd (u := x3 + 1) f_380_1988 rfl o1 ?_
  refine r_saload f_380_1989 o2 ?_
  exact r_callv (as := [vr 0, vi (h 1000 (x3 + 1).toNat)]) (st' := []) (ls0 := [vr 0, vi (h 1000 (x3 + 1).toNat)]) f_380_1990 (by decide) rfl rfl (Nat.le_of_ble_eq_true rfl) (Nat.le_of_ble_eq_true rfl) ⟨_, _, rfl, rfl⟩ rfl k3

theorem g_L_law_1993 {Q : PQ} {h : HP} {x3 : Int} {s0 : Int} 
    (o1 : -2147483648 ≤ x3 + 1 ∧ x3 + 1 ≤ 2147483647)
    (o2 : 0 ≤ x3 + 1 ∧ x3 + 1 < h 1001 0)
    (k3 : Wp true i_M_lived 0 [vr 103, vi (h 1000 (x3 + 1).toNat)] [] h (fun r h' => Wp true i_L_law 2002 [vr 1000, vr 0, vr 103, vi x3] (r.toList ++ [vi s0]) h' Q)) :
    Wp true i_L_law 1993 [vr 1000, vr 0, vr 103, vi x3] [vi s0] h Q := by
  refine r_aload_n (v := 103) f_380_1993 rfl (by decide) ?_
  refine r_aload_n (v := 1000) f_380_1994 rfl (by decide) ?_
  refine r_iload_n (v := x3) f_380_1995 rfl ?_
  refine r_iconst f_380_1996 (by decide) ?_
  refine r_iadd (u := x3 + 1) f_380_1997 rfl o1 ?_
  refine r_saload f_380_1998 o2 ?_
  exact r_callv (as := [vr 103, vi (h 1000 (x3 + 1).toNat)]) (st' := [vi s0]) (ls0 := [vr 103, vi (h 1000 (x3 + 1).toNat)]) f_380_1999 (by decide) rfl rfl (Nat.le_of_ble_eq_true rfl) (Nat.le_of_ble_eq_true rfl) ⟨_, _, rfl, rfl⟩ rfl k3

theorem g_L_law_2002 {Q : PQ} {h : HP} {x3 : Int} {s0 : Int} {s1 : Int} 
    (k1 : s0 = s1 → Wp true i_L_law 2076 [vr 1000, vr 0, vr 103, vi x3] [] h Q)
    (k2 : ¬ s0 = s1 → Q (some (vi 0)) h) :
    Wp true i_L_law 2002 [vr 1000, vr 0, vr 103, vi x3] [vi s1, vi s0] h Q := by
  refine r_br2 (t := 2076) f_380_2002 rfl cb_eq (fun c1 => ?_) (fun c1 => ?_)
  · exact (k1 c1)
  · refine r_iconst f_380_2005 (by decide) ?_
    exact r_retz f_380_2006 rfl (by decide) (k2 c1)

theorem g_L_law_2007 {Q : PQ} {h : HP} {x3 : Int} 
    (o1 : -2147483648 ≤ x3 + 1 ∧ x3 + 1 ≤ 2147483647)
    (o2 : 0 ≤ x3 + 1 ∧ x3 + 1 < h 1001 0)
    (o3 : -2147483648 ≤ x3 + 2 ∧ x3 + 2 ≤ 2147483647)
    (o4 : 0 ≤ x3 + 2 ∧ x3 + 2 < h 1001 0)
    (o5 : -2147483648 ≤ x3 + 3 ∧ x3 + 3 ≤ 2147483647)
    (o6 : 0 ≤ x3 + 3 ∧ x3 + 3 < h 1001 0)
    (k7 : Wp true i_C_mean 0 [vr 0, vi (h 1000 (x3 + 1).toNat), vi (h 1000 (x3 + 2).toNat), vi (h 1000 (x3 + 3).toNat), vr 9999, vr 9999, vr 9999] [] h (fun r h' => Wp true i_L_law 2026 [vr 1000, vr 0, vr 103, vi x3] (r.toList ++ []) h' Q)) :
    Wp true i_L_law 2007 [vr 1000, vr 0, vr 103, vi x3] [] h Q := by
  refine r_aload_n (v := 0) f_380_2007 rfl (by decide) ?_
  refine r_aload_n (v := 1000) f_380_2008 rfl (by decide) ?_
  refine r_iload_n (v := x3) f_380_2009 rfl ?_
  refine r_iconst f_380_2010 (by decide) ?_
  refine r_iadd (u := x3 + 1) f_380_2011 rfl o1 ?_
  refine r_saload f_380_2012 o2 ?_
  refine r_aload_n (v := 1000) f_380_2013 rfl (by decide) ?_
  refine r_iload_n (v := x3) f_380_2014 rfl ?_
  refine r_iconst f_380_2015 (by decide) ?_
  refine r_iadd (u := x3 + 2) f_380_2016 rfl o3 ?_
  refine r_saload f_380_2017 o4 ?_
  refine r_aload_n (v := 1000) f_380_2018 rfl (by decide) ?_
  refine r_iload_n (v := x3) f_380_2019 rfl ?_
  refine r_iconst f_380_2020 (by decide) ?_
  refine r_iadd (u := x3 + 3) f_380_2021 rfl o5 ?_
  refine r_saload f_380_2022 o6 ?_
  exact r_callv (as := [vr 0, vi (h 1000 (x3 + 1).toNat), vi (h 1000 (x3 + 2).toNat), vi (h 1000 (x3 + 3).toNat)]) (st' := []) (ls0 := [vr 0, vi (h 1000 (x3 + 1).toNat), vi (h 1000 (x3 + 2).toNat), vi (h 1000 (x3 + 3).toNat), vr 9999, vr 9999, vr 9999]) f_380_2023 (by decide) rfl rfl (Nat.le_of_ble_eq_true rfl) (Nat.le_of_ble_eq_true rfl) ⟨_, _, rfl, rfl⟩ rfl k7

theorem g_L_law_2026 {Q : PQ} {h : HP} {x3 : Int} {s0 : Int} 
    (o1 : -2147483648 ≤ x3 + 1 ∧ x3 + 1 ≤ 2147483647)
    (o2 : 0 ≤ x3 + 1 ∧ x3 + 1 < h 1001 0)
    (o3 : -2147483648 ≤ x3 + 2 ∧ x3 + 2 ≤ 2147483647)
    (o4 : 0 ≤ x3 + 2 ∧ x3 + 2 < h 1001 0)
    (o5 : -2147483648 ≤ x3 + 3 ∧ x3 + 3 ≤ 2147483647)
    (o6 : 0 ≤ x3 + 3 ∧ x3 + 3 < h 1001 0)
    (k7 : Wp true i_M_mean 0 [vr 103, vi (h 1000 (x3 + 1).toNat), vi (h 1000 (x3 + 2).toNat), vi (h 1000 (x3 + 3).toNat), vr 9999, vr 9999, vr 9999, vr 9999] [] h (fun r h' => Wp true i_L_law 2045 [vr 1000, vr 0, vr 103, vi x3] (r.toList ++ [vi s0]) h' Q)) :
    Wp true i_L_law 2026 [vr 1000, vr 0, vr 103, vi x3] [vi s0] h Q := by
  refine r_aload_n (v := 103) f_380_2026 rfl (by decide) ?_
  refine r_aload_n (v := 1000) f_380_2027 rfl (by decide) ?_
  refine r_iload_n (v := x3) f_380_2028 rfl ?_
  refine r_iconst f_380_2029 (by decide) ?_
  refine r_iadd (u := x3 + 1) f_380_2030 rfl o1 ?_
  refine r_saload f_380_2031 o2 ?_
  refine r_aload_n (v := 1000) f_380_2032 rfl (by decide) ?_
  refine r_iload_n (v := x3) f_380_2033 rfl ?_
  refine r_iconst f_380_2034 (by decide) ?_
  refine r_iadd (u := x3 + 2) f_380_2035 rfl o3 ?_
  refine r_saload f_380_2036 o4 ?_
  refine r_aload_n (v := 1000) f_380_2037 rfl (by decide) ?_
  refine r_iload_n (v := x3) f_380_2038 rfl ?_
  refine r_iconst f_380_2039 (by decide) ?_
  refine r_iadd (u := x3 + 3) f_380_2040 rfl o5 ?_
  refine r_saload f_380_2041 o6 ?_
  exact r_callv (as := [vr 103, vi (h 1000 (x3 + 1).toNat), vi (h 1000 (x3 + 2).toNat), vi (h 1000 (x3 + 3).toNat)]) (st' := [vi s0]) (ls0 := [vr 103, vi (h 1000 (x3 + 1).toNat), vi (h 1000 (x3 + 2).toNat), vi (h 1000 (x3 + 3).toNat), vr 9999, vr 9999, vr 9999, vr 9999]) f_380_2042 (by decide) rfl rfl (Nat.le_of_ble_eq_true rfl) (Nat.le_of_ble_eq_true rfl) ⟨_, _, rfl, rfl⟩ rfl k7

theorem g_L_law_2045 {Q : PQ} {h : HP} {x3 : Int} {s0 : Int} {s1 : Int} 
    (k1 : s0 = s1 → Wp true i_L_law 2076 [vr 1000, vr 0, vr 103, vi x3] [] h Q)
    (k2 : ¬ s0 = s1 → Q (some (vi 0)) h) :
    Wp true i_L_law 2045 [vr 1000, vr 0, vr 103, vi x3] [vi s1, vi s0] h Q := by
  refine r_br2 (t := 2076) f_380_2045 rfl cb_eq (fun c1 => ?_) (fun c1 => ?_)
  · exact (k1 c1)
  · refine r_iconst f_380_2048 (by decide) ?_
    exact r_retz f_380_2049 rfl (by decide) (k2 c1)

theorem g_L_law_2050 {Q : PQ} {h : HP} {x3 : Int} 
    (k1 : Wp true i_C_mark 0 [vr 0] [] h (fun r h' => Wp true i_L_law 2054 [vr 1000, vr 0, vr 103, vi x3] (r.toList ++ []) h' Q)) :
    Wp true i_L_law 2050 [vr 1000, vr 0, vr 103, vi x3] [] h Q := by
  refine r_aload_n (v := 0) f_380_2050 rfl (by decide) ?_
  exact r_callv (as := [vr 0]) (st' := []) (ls0 := [vr 0]) f_380_2051 (by decide) rfl rfl (Nat.le_of_ble_eq_true rfl) (Nat.le_of_ble_eq_true rfl) ⟨_, _, rfl, rfl⟩ rfl k1

theorem g_L_law_2054 {Q : PQ} {h : HP} {x3 : Int} {s0 : Int} 
    (k1 : Wp true i_M_mark 0 [vr 103] [] h (fun r h' => Wp true i_L_law 2058 [vr 1000, vr 0, vr 103, vi x3] (r.toList ++ [vi s0]) h' Q)) :
    Wp true i_L_law 2054 [vr 1000, vr 0, vr 103, vi x3] [vi s0] h Q := by
  refine r_aload_n (v := 103) f_380_2054 rfl (by decide) ?_
  exact r_callv (as := [vr 103]) (st' := [vi s0]) (ls0 := [vr 103]) f_380_2055 (by decide) rfl rfl (Nat.le_of_ble_eq_true rfl) (Nat.le_of_ble_eq_true rfl) ⟨_, _, rfl, rfl⟩ rfl k1

theorem g_L_law_2058 {Q : PQ} {h : HP} {x3 : Int} {s0 : Int} {s1 : Int} 
    (k1 : s0 = s1 → Wp true i_L_law 2076 [vr 1000, vr 0, vr 103, vi x3] [] h Q)
    (k2 : ¬ s0 = s1 → Q (some (vi 0)) h) :
    Wp true i_L_law 2058 [vr 1000, vr 0, vr 103, vi x3] [vi s1, vi s0] h Q := by
  refine r_br2 (t := 2076) f_380_2058 rfl cb_eq (fun c1 => ?_) (fun c1 => ?_)
  · exact (k1 c1)
  · refine r_iconst f_380_2061 (by decide) ?_
    exact r_retz f_380_2062 rfl (by decide) (k2 c1)

theorem g_L_law_2063 {Q : PQ} {h : HP} {x3 : Int} 
    (k1 : Wp true i_C_undo 0 [vr 0] [] h (fun r h' => Wp true i_L_law 2067 [vr 1000, vr 0, vr 103, vi x3] (r.toList ++ []) h' Q)) :
    Wp true i_L_law 2063 [vr 1000, vr 0, vr 103, vi x3] [] h Q := by
  refine r_aload_n (v := 0) f_380_2063 rfl (by decide) ?_
  exact r_callv (as := [vr 0]) (st' := []) (ls0 := [vr 0]) f_380_2064 (by decide) rfl rfl (Nat.le_of_ble_eq_true rfl) (Nat.le_of_ble_eq_true rfl) ⟨_, _, rfl, rfl⟩ rfl k1

theorem g_L_law_2067 {Q : PQ} {h : HP} {x3 : Int} {s0 : Int} 
    (k1 : Wp true i_M_undo 0 [vr 103] [] h (fun r h' => Wp true i_L_law 2071 [vr 1000, vr 0, vr 103, vi x3] (r.toList ++ [vi s0]) h' Q)) :
    Wp true i_L_law 2067 [vr 1000, vr 0, vr 103, vi x3] [vi s0] h Q := by
  refine r_aload_n (v := 103) f_380_2067 rfl (by decide) ?_
  exact r_callv (as := [vr 103]) (st' := [vi s0]) (ls0 := [vr 103]) f_380_2068 (by decide) rfl rfl (Nat.le_of_ble_eq_true rfl) (Nat.le_of_ble_eq_true rfl) ⟨_, _, rfl, rfl⟩ rfl k1

theorem g_L_law_2071 {Q : PQ} {h : HP} {x3 : Int} {s0 : Int} {s1 : Int} 
    (k1 : s0 = s1 → Wp true i_L_law 2076 [vr 1000, vr 0, vr 103, vi x3] [] h Q)
    (k2 : ¬ s0 = s1 → Q (some (vi 0)) h) :
    Wp true i_L_law 2071 [vr 1000, vr 0, vr 103, vi x3] [vi s1, vi s0] h Q := by
  refine r_br2 (t := 2076) f_380_2071 rfl cb_eq (fun c1 => ?_) (fun c1 => ?_)
  · exact (k1 c1)
  · refine r_iconst f_380_2074 (by decide) ?_
    exact r_retz f_380_2075 rfl (by decide) (k2 c1)

theorem g_L_law_2076 {Q : PQ} {h : HP} {x3 : Int} 
    (o1 : -2147483648 ≤ x3 + 6 ∧ x3 + 6 ≤ 2147483647)
    (k2 : Wp true i_L_law 18 [vr 1000, vr 0, vr 103, vi (x3 + 6)] [] h Q) :
    Wp true i_L_law 2076 [vr 1000, vr 0, vr 103, vi x3] [] h Q := by
  refine r_iinc (v := x3) (w := x3 + 6) (ls' := [vr 1000, vr 0, vr 103, vi (x3 + 6)]) f_380_2076 rfl rfl o1 rfl ?_
  refine r_goto (t := 18) f_380_2079 rfl ?_
  exact k2
