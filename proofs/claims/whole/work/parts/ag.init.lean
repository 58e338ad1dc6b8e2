def FLG : List (Nat × Nat) := [(0, 3), (0, 4), (0, 5), (0, 6), (0, 7), (0, 8), (0, 9), (0, 10), (0, 11), (0, 12), (0, 14), (0, 15), (0, 16), (0, 17), (0, 18), (1, 0), (1, 1), (1, 2), (5, 0), (5, 1), (10, 5), (10, 6), (10, 7), (10, 8), (10, 9), (10, 10), (10, 11), (18, 5), (18, 6), (18, 7), (18, 8), (18, 9), (18, 10), (18, 11), (26, 3), (26, 4), (26, 5), (26, 6), (26, 7), (32, 3), (32, 4), (32, 5), (32, 6), (32, 7), (40, 5), (40, 6), (40, 7), (40, 8), (40, 9), (40, 10), (40, 11), (48, 3), (48, 4), (48, 5), (48, 6), (48, 7), (54, 5), (54, 6), (54, 7), (54, 8), (54, 9), (54, 10), (54, 11), (62, 3), (62, 4), (62, 5), (62, 6), (62, 7), (68, 5), (68, 6), (68, 7), (68, 8), (68, 9), (68, 10), (68, 11), (76, 3), (76, 4), (76, 5), (76, 6), (76, 7), (82, 0), (82, 1), (82, 2), (82, 3), (82, 5), (82, 7), (89, 0), (89, 1), (92, 0), (92, 1), (92, 2), (92, 3), (97, 0), (99, 5), (99, 6), (99, 8), (103, 0), (103, 1), (103, 5), (103, 6), (103, 7), (103, 8), (103, 9), (103, 21), (103, 24), (103, 25), (103, 26), (103, 27), (103, 28), (103, 29), (103, 30), (103, 31), (103, 35), (103, 36), (103, 37)]
theorem FLG_any : ∀ k, k < 123 → ∀ y, y < 64 → zfk (64 * zck k + y) = 4 → FLG.any (fun p => p.1 == k && p.2 == y) = true := by decide +kernel
theorem FLG_all {k : Nat} (hk : k < 123) {y : Nat} (hy : y < 64) (h : zfk (64 * zck k + y) = 4) : (k, y) ∈ FLG := by
  obtain ⟨p, hp, e⟩ := List.any_eq_true.mp (FLG_any k hk y hy h)
  simp only [Bool.and_eq_true, beq_iff_eq] at e
  have : p = (k, y) := Prod.ext e.1 e.2
  rw [← this]; exact hp
theorem zck_hi {k : Nat} (h : ¬ k < 123) : zck k = 99 := by
  by_cases e : zck k = 99
  · exact e
  · exact absurd (zck_lt k e) h
set_option maxRecDepth 100000 in
theorem flags {h g : HP} (f : ∀ k, k ≠ 7 → g k = XA h k) : ∀ p ∈ FLG, XC (XB g) p.1 p.2 = 1 := by
  unfold FLG
  refine List.forall_mem_cons.mpr ⟨((show XC (XB g) 0 3 = g 0 3 from rfl).trans ((congrFun (f 0 (by decide)) 3).trans (show XA h 0 3 = 1 from rfl))), ?_⟩
  refine List.forall_mem_cons.mpr ⟨(show XC (XB g) 0 4 = 1 from rfl), ?_⟩
  refine List.forall_mem_cons.mpr ⟨(show XC (XB g) 0 5 = 1 from rfl), ?_⟩
  refine List.forall_mem_cons.mpr ⟨(show XC (XB g) 0 6 = 1 from rfl), ?_⟩
  refine List.forall_mem_cons.mpr ⟨(show XC (XB g) 0 7 = 1 from rfl), ?_⟩
  refine List.forall_mem_cons.mpr ⟨(show XC (XB g) 0 8 = 1 from rfl), ?_⟩
  refine List.forall_mem_cons.mpr ⟨(show XC (XB g) 0 9 = 1 from rfl), ?_⟩
  refine List.forall_mem_cons.mpr ⟨(show XC (XB g) 0 10 = 1 from rfl), ?_⟩
  refine List.forall_mem_cons.mpr ⟨(show XC (XB g) 0 11 = 1 from rfl), ?_⟩
  refine List.forall_mem_cons.mpr ⟨(show XC (XB g) 0 12 = 1 from rfl), ?_⟩
  refine List.forall_mem_cons.mpr ⟨(show XC (XB g) 0 14 = 1 from rfl), ?_⟩
  refine List.forall_mem_cons.mpr ⟨(show XC (XB g) 0 15 = 1 from rfl), ?_⟩
  refine List.forall_mem_cons.mpr ⟨(show XC (XB g) 0 16 = 1 from rfl), ?_⟩
  refine List.forall_mem_cons.mpr ⟨(show XC (XB g) 0 17 = 1 from rfl), ?_⟩
  refine List.forall_mem_cons.mpr ⟨(show XC (XB g) 0 18 = 1 from rfl), ?_⟩
  refine List.forall_mem_cons.mpr ⟨((show XC (XB g) 1 0 = g 1 0 from rfl).trans ((congrFun (f 1 (by decide)) 0).trans (show XA h 1 0 = 1 from rfl))), ?_⟩
  refine List.forall_mem_cons.mpr ⟨((show XC (XB g) 1 1 = g 1 1 from rfl).trans ((congrFun (f 1 (by decide)) 1).trans (show XA h 1 1 = 1 from rfl))), ?_⟩
  refine List.forall_mem_cons.mpr ⟨((show XC (XB g) 1 2 = g 1 2 from rfl).trans ((congrFun (f 1 (by decide)) 2).trans (show XA h 1 2 = 1 from rfl))), ?_⟩
  refine List.forall_mem_cons.mpr ⟨((show XC (XB g) 5 0 = g 5 0 from rfl).trans ((congrFun (f 5 (by decide)) 0).trans (show XA h 5 0 = 1 from rfl))), ?_⟩
  refine List.forall_mem_cons.mpr ⟨((show XC (XB g) 5 1 = g 5 1 from rfl).trans ((congrFun (f 5 (by decide)) 1).trans (show XA h 5 1 = 1 from rfl))), ?_⟩
  refine List.forall_mem_cons.mpr ⟨(show XC (XB g) 10 5 = 1 from rfl), ?_⟩
  refine List.forall_mem_cons.mpr ⟨(show XC (XB g) 10 6 = 1 from rfl), ?_⟩
  refine List.forall_mem_cons.mpr ⟨(show XC (XB g) 10 7 = 1 from rfl), ?_⟩
  refine List.forall_mem_cons.mpr ⟨(show XC (XB g) 10 8 = 1 from rfl), ?_⟩
  refine List.forall_mem_cons.mpr ⟨(show XC (XB g) 10 9 = 1 from rfl), ?_⟩
  refine List.forall_mem_cons.mpr ⟨(show XC (XB g) 10 10 = 1 from rfl), ?_⟩
  refine List.forall_mem_cons.mpr ⟨(show XC (XB g) 10 11 = 1 from rfl), ?_⟩
  refine List.forall_mem_cons.mpr ⟨(show XC (XB g) 18 5 = 1 from rfl), ?_⟩
  refine List.forall_mem_cons.mpr ⟨(show XC (XB g) 18 6 = 1 from rfl), ?_⟩
  refine List.forall_mem_cons.mpr ⟨(show XC (XB g) 18 7 = 1 from rfl), ?_⟩
  refine List.forall_mem_cons.mpr ⟨(show XC (XB g) 18 8 = 1 from rfl), ?_⟩
  refine List.forall_mem_cons.mpr ⟨(show XC (XB g) 18 9 = 1 from rfl), ?_⟩
  refine List.forall_mem_cons.mpr ⟨(show XC (XB g) 18 10 = 1 from rfl), ?_⟩
  refine List.forall_mem_cons.mpr ⟨(show XC (XB g) 18 11 = 1 from rfl), ?_⟩
  refine List.forall_mem_cons.mpr ⟨(show XC (XB g) 26 3 = 1 from rfl), ?_⟩
  refine List.forall_mem_cons.mpr ⟨(show XC (XB g) 26 4 = 1 from rfl), ?_⟩
  refine List.forall_mem_cons.mpr ⟨(show XC (XB g) 26 5 = 1 from rfl), ?_⟩
  refine List.forall_mem_cons.mpr ⟨(show XC (XB g) 26 6 = 1 from rfl), ?_⟩
  refine List.forall_mem_cons.mpr ⟨(show XC (XB g) 26 7 = 1 from rfl), ?_⟩
  refine List.forall_mem_cons.mpr ⟨(show XC (XB g) 32 3 = 1 from rfl), ?_⟩
  refine List.forall_mem_cons.mpr ⟨(show XC (XB g) 32 4 = 1 from rfl), ?_⟩
  refine List.forall_mem_cons.mpr ⟨(show XC (XB g) 32 5 = 1 from rfl), ?_⟩
  refine List.forall_mem_cons.mpr ⟨(show XC (XB g) 32 6 = 1 from rfl), ?_⟩
  refine List.forall_mem_cons.mpr ⟨(show XC (XB g) 32 7 = 1 from rfl), ?_⟩
  refine List.forall_mem_cons.mpr ⟨(show XC (XB g) 40 5 = 1 from rfl), ?_⟩
  refine List.forall_mem_cons.mpr ⟨(show XC (XB g) 40 6 = 1 from rfl), ?_⟩
  refine List.forall_mem_cons.mpr ⟨(show XC (XB g) 40 7 = 1 from rfl), ?_⟩
  refine List.forall_mem_cons.mpr ⟨(show XC (XB g) 40 8 = 1 from rfl), ?_⟩
  refine List.forall_mem_cons.mpr ⟨(show XC (XB g) 40 9 = 1 from rfl), ?_⟩
  refine List.forall_mem_cons.mpr ⟨(show XC (XB g) 40 10 = 1 from rfl), ?_⟩
  refine List.forall_mem_cons.mpr ⟨(show XC (XB g) 40 11 = 1 from rfl), ?_⟩
  refine List.forall_mem_cons.mpr ⟨(show XC (XB g) 48 3 = 1 from rfl), ?_⟩
  refine List.forall_mem_cons.mpr ⟨(show XC (XB g) 48 4 = 1 from rfl), ?_⟩
  refine List.forall_mem_cons.mpr ⟨(show XC (XB g) 48 5 = 1 from rfl), ?_⟩
  refine List.forall_mem_cons.mpr ⟨(show XC (XB g) 48 6 = 1 from rfl), ?_⟩
  refine List.forall_mem_cons.mpr ⟨(show XC (XB g) 48 7 = 1 from rfl), ?_⟩
  refine List.forall_mem_cons.mpr ⟨(show XC (XB g) 54 5 = 1 from rfl), ?_⟩
  refine List.forall_mem_cons.mpr ⟨(show XC (XB g) 54 6 = 1 from rfl), ?_⟩
  refine List.forall_mem_cons.mpr ⟨(show XC (XB g) 54 7 = 1 from rfl), ?_⟩
  refine List.forall_mem_cons.mpr ⟨(show XC (XB g) 54 8 = 1 from rfl), ?_⟩
  refine List.forall_mem_cons.mpr ⟨(show XC (XB g) 54 9 = 1 from rfl), ?_⟩
  refine List.forall_mem_cons.mpr ⟨(show XC (XB g) 54 10 = 1 from rfl), ?_⟩
  refine List.forall_mem_cons.mpr ⟨(show XC (XB g) 54 11 = 1 from rfl), ?_⟩
  refine List.forall_mem_cons.mpr ⟨(show XC (XB g) 62 3 = 1 from rfl), ?_⟩
  refine List.forall_mem_cons.mpr ⟨(show XC (XB g) 62 4 = 1 from rfl), ?_⟩
  refine List.forall_mem_cons.mpr ⟨(show XC (XB g) 62 5 = 1 from rfl), ?_⟩
  refine List.forall_mem_cons.mpr ⟨(show XC (XB g) 62 6 = 1 from rfl), ?_⟩
  refine List.forall_mem_cons.mpr ⟨(show XC (XB g) 62 7 = 1 from rfl), ?_⟩
  refine List.forall_mem_cons.mpr ⟨(show XC (XB g) 68 5 = 1 from rfl), ?_⟩
  refine List.forall_mem_cons.mpr ⟨(show XC (XB g) 68 6 = 1 from rfl), ?_⟩
  refine List.forall_mem_cons.mpr ⟨(show XC (XB g) 68 7 = 1 from rfl), ?_⟩
  refine List.forall_mem_cons.mpr ⟨(show XC (XB g) 68 8 = 1 from rfl), ?_⟩
  refine List.forall_mem_cons.mpr ⟨(show XC (XB g) 68 9 = 1 from rfl), ?_⟩
  refine List.forall_mem_cons.mpr ⟨(show XC (XB g) 68 10 = 1 from rfl), ?_⟩
  refine List.forall_mem_cons.mpr ⟨(show XC (XB g) 68 11 = 1 from rfl), ?_⟩
  refine List.forall_mem_cons.mpr ⟨(show XC (XB g) 76 3 = 1 from rfl), ?_⟩
  refine List.forall_mem_cons.mpr ⟨(show XC (XB g) 76 4 = 1 from rfl), ?_⟩
  refine List.forall_mem_cons.mpr ⟨(show XC (XB g) 76 5 = 1 from rfl), ?_⟩
  refine List.forall_mem_cons.mpr ⟨(show XC (XB g) 76 6 = 1 from rfl), ?_⟩
  refine List.forall_mem_cons.mpr ⟨(show XC (XB g) 76 7 = 1 from rfl), ?_⟩
  refine List.forall_mem_cons.mpr ⟨(show XC (XB g) 82 0 = 1 from rfl), ?_⟩
  refine List.forall_mem_cons.mpr ⟨(show XC (XB g) 82 1 = 1 from rfl), ?_⟩
  refine List.forall_mem_cons.mpr ⟨(show XC (XB g) 82 2 = 1 from rfl), ?_⟩
  refine List.forall_mem_cons.mpr ⟨(show XC (XB g) 82 3 = 1 from rfl), ?_⟩
  refine List.forall_mem_cons.mpr ⟨(show XC (XB g) 82 5 = 1 from rfl), ?_⟩
  refine List.forall_mem_cons.mpr ⟨(show XC (XB g) 82 7 = 1 from rfl), ?_⟩
  refine List.forall_mem_cons.mpr ⟨(show XC (XB g) 89 0 = 1 from rfl), ?_⟩
  refine List.forall_mem_cons.mpr ⟨(show XC (XB g) 89 1 = 1 from rfl), ?_⟩
  refine List.forall_mem_cons.mpr ⟨(show XC (XB g) 92 0 = 1 from rfl), ?_⟩
  refine List.forall_mem_cons.mpr ⟨(show XC (XB g) 92 1 = 1 from rfl), ?_⟩
  refine List.forall_mem_cons.mpr ⟨(show XC (XB g) 92 2 = 1 from rfl), ?_⟩
  refine List.forall_mem_cons.mpr ⟨(show XC (XB g) 92 3 = 1 from rfl), ?_⟩
  refine List.forall_mem_cons.mpr ⟨(show XC (XB g) 97 0 = 1 from rfl), ?_⟩
  refine List.forall_mem_cons.mpr ⟨(show XC (XB g) 99 5 = 1 from rfl), ?_⟩
  refine List.forall_mem_cons.mpr ⟨(show XC (XB g) 99 6 = 1 from rfl), ?_⟩
  refine List.forall_mem_cons.mpr ⟨(show XC (XB g) 99 8 = 1 from rfl), ?_⟩
  refine List.forall_mem_cons.mpr ⟨(show XC (XB g) 103 0 = 1 from rfl), ?_⟩
  refine List.forall_mem_cons.mpr ⟨(show XC (XB g) 103 1 = 1 from rfl), ?_⟩
  refine List.forall_mem_cons.mpr ⟨(show XC (XB g) 103 5 = 1 from rfl), ?_⟩
  refine List.forall_mem_cons.mpr ⟨(show XC (XB g) 103 6 = 1 from rfl), ?_⟩
  refine List.forall_mem_cons.mpr ⟨(show XC (XB g) 103 7 = 1 from rfl), ?_⟩
  refine List.forall_mem_cons.mpr ⟨(show XC (XB g) 103 8 = 1 from rfl), ?_⟩
  refine List.forall_mem_cons.mpr ⟨(show XC (XB g) 103 9 = 1 from rfl), ?_⟩
  refine List.forall_mem_cons.mpr ⟨(show XC (XB g) 103 21 = 1 from rfl), ?_⟩
  refine List.forall_mem_cons.mpr ⟨(show XC (XB g) 103 24 = 1 from rfl), ?_⟩
  refine List.forall_mem_cons.mpr ⟨(show XC (XB g) 103 25 = 1 from rfl), ?_⟩
  refine List.forall_mem_cons.mpr ⟨(show XC (XB g) 103 26 = 1 from rfl), ?_⟩
  refine List.forall_mem_cons.mpr ⟨(show XC (XB g) 103 27 = 1 from rfl), ?_⟩
  refine List.forall_mem_cons.mpr ⟨(show XC (XB g) 103 28 = 1 from rfl), ?_⟩
  refine List.forall_mem_cons.mpr ⟨(show XC (XB g) 103 29 = 1 from rfl), ?_⟩
  refine List.forall_mem_cons.mpr ⟨(show XC (XB g) 103 30 = 1 from rfl), ?_⟩
  refine List.forall_mem_cons.mpr ⟨(show XC (XB g) 103 31 = 1 from rfl), ?_⟩
  refine List.forall_mem_cons.mpr ⟨(show XC (XB g) 103 35 = 1 from rfl), ?_⟩
  refine List.forall_mem_cons.mpr ⟨(show XC (XB g) 103 36 = 1 from rfl), ?_⟩
  refine List.forall_mem_cons.mpr ⟨(show XC (XB g) 103 37 = 1 from rfl), ?_⟩
  intro p hp
  cases hp

set_option maxRecDepth 100000 in
theorem init_num {h g : HP} (z : ∀ k, k < 123 → ∀ i, h k i = 0) (f : ∀ k, k ≠ 7 → g k = XA h k) : XC (XB g) 0 0 = 0 ∧ XC (XB g) 103 2 = 0 ∧ XC (XB g) 0 1 = 0 ∧ XC (XB g) 103 3 = 0 ∧ XC (XB g) 0 2 = 1 ∧ XC (XB g) 103 4 = 1 ∧ XC (XB g) 3 0 = (-1) ∧ XC (XB g) 3 1 = (-1) ∧ XC (XB g) 3 2 = (-1) ∧ XC (XB g) 3 3 = (-1) ∧ XC (XB g) 107 0 = (-1) ∧ XC (XB g) 107 1 = (-1) ∧ XC (XB g) 107 2 = (-1) ∧ XC (XB g) 107 3 = (-1) ∧ XC (XB g) 5 2 = 0 ∧ XC (XB g) 103 10 = 0 ∧ XC (XB g) 5 3 = (-1) ∧ XC (XB g) 103 16 = (-1) ∧ XC (XB g) 5 4 = (-1) ∧ XC (XB g) 103 17 = (-1) ∧ XC (XB g) 10 0 = 0 ∧ XC (XB g) 10 1 = 0 ∧ XC (XB g) 10 2 = 9 ∧ XC (XB g) 10 3 = 0 ∧ XC (XB g) 10 4 = 0 ∧ XC (XB g) 11 0 = 0 ∧ XC (XB g) 11 1 = 0 ∧ XC (XB g) 26 0 = 0 ∧ XC (XB g) 26 2 = 0 ∧ XC (XB g) 0 13 = 0 ∧ XC (XB g) 103 39 = 0 ∧ XC (XB g) 99 7 = 0 ∧ XC (XB g) 103 38 = 0 :=
  ⟨((show XC (XB g) 0 0 = g 0 0 from rfl).trans ((congrFun (f 0 (by decide)) 0).trans (show XA h 0 0 = 0 from rfl))),
   ((show XC (XB g) 103 2 = g 103 2 from rfl).trans ((congrFun (f 103 (by decide)) 2).trans ((show XA h 103 2 = h 103 2 from rfl).trans (z 103 (by decide) 2)))),
   ((show XC (XB g) 0 1 = g 0 1 from rfl).trans ((congrFun (f 0 (by decide)) 1).trans (show XA h 0 1 = 0 from rfl))),
   ((show XC (XB g) 103 3 = g 103 3 from rfl).trans ((congrFun (f 103 (by decide)) 3).trans ((show XA h 103 3 = h 103 3 from rfl).trans (z 103 (by decide) 3)))),
   ((show XC (XB g) 0 2 = g 0 2 from rfl).trans ((congrFun (f 0 (by decide)) 2).trans (show XA h 0 2 = 1 from rfl))),
   (show XC (XB g) 103 4 = 1 from rfl),
   ((show XC (XB g) 3 0 = g 3 0 from rfl).trans ((congrFun (f 3 (by decide)) 0).trans (show XA h 3 0 = (-1) from rfl))),
   ((show XC (XB g) 3 1 = g 3 1 from rfl).trans ((congrFun (f 3 (by decide)) 1).trans (show XA h 3 1 = (-1) from rfl))),
   ((show XC (XB g) 3 2 = g 3 2 from rfl).trans ((congrFun (f 3 (by decide)) 2).trans (show XA h 3 2 = (-1) from rfl))),
   ((show XC (XB g) 3 3 = g 3 3 from rfl).trans ((congrFun (f 3 (by decide)) 3).trans (show XA h 3 3 = (-1) from rfl))),
   (show XC (XB g) 107 0 = (-1) from rfl),
   (show XC (XB g) 107 1 = (-1) from rfl),
   (show XC (XB g) 107 2 = (-1) from rfl),
   (show XC (XB g) 107 3 = (-1) from rfl),
   ((show XC (XB g) 5 2 = g 5 2 from rfl).trans ((congrFun (f 5 (by decide)) 2).trans (show XA h 5 2 = 0 from rfl))),
   ((show XC (XB g) 103 10 = g 103 10 from rfl).trans ((congrFun (f 103 (by decide)) 10).trans ((show XA h 103 10 = h 103 10 from rfl).trans (z 103 (by decide) 10)))),
   ((show XC (XB g) 5 3 = g 5 3 from rfl).trans ((congrFun (f 5 (by decide)) 3).trans (show XA h 5 3 = (-1) from rfl))),
   (show XC (XB g) 103 16 = (-1) from rfl),
   ((show XC (XB g) 5 4 = g 5 4 from rfl).trans ((congrFun (f 5 (by decide)) 4).trans (show XA h 5 4 = (-1) from rfl))),
   (show XC (XB g) 103 17 = (-1) from rfl),
   (show XC (XB g) 10 0 = 0 from rfl),
   (show XC (XB g) 10 1 = 0 from rfl),
   (show XC (XB g) 10 2 = 9 from rfl),
   (show XC (XB g) 10 3 = 0 from rfl),
   (show XC (XB g) 10 4 = 0 from rfl),
   ((show XC (XB g) 11 0 = g 11 0 from rfl).trans ((congrFun (f 11 (by decide)) 0).trans ((show XA h 11 0 = h 11 0 from rfl).trans (z 11 (by decide) 0)))),
   ((show XC (XB g) 11 1 = g 11 1 from rfl).trans ((congrFun (f 11 (by decide)) 1).trans ((show XA h 11 1 = h 11 1 from rfl).trans (z 11 (by decide) 1)))),
   (show XC (XB g) 26 0 = 0 from rfl),
   (show XC (XB g) 26 2 = 0 from rfl),
   ((show XC (XB g) 0 13 = g 0 13 from rfl).trans ((congrFun (f 0 (by decide)) 13).trans ((show XA h 0 13 = h 0 13 from rfl).trans (z 0 (by decide) 13)))),
   ((show XC (XB g) 103 39 = g 103 39 from rfl).trans ((congrFun (f 103 (by decide)) 39).trans ((show XA h 103 39 = h 103 39 from rfl).trans (z 103 (by decide) 39)))),
   (show XC (XB g) 99 7 = 0 from rfl),
   ((show XC (XB g) 103 38 = g 103 38 from rfl).trans ((congrFun (f 103 (by decide)) 38).trans ((show XA h 103 38 = h 103 38 from rfl).trans (z 103 (by decide) 38))))⟩
def HF (g : HP) : HP := hs (hs (wr (XC (XB g)) 104 0 500 (fun _ => 0)) 104 3 9) 104 7 (-1)
theorem HF_k {g : HP} {k : Nat} (hk : k ≠ 104) : HF g k = XC (XB g) k := by
  unfold HF
  rw [hs_ne hk, hs_ne hk, wr_ne hk]
set_option maxRecDepth 100000 in
theorem HF_full {h g : HP} (f : ∀ k, k ≠ 7 → g k = XA h k) : Full (HF g) := by
  have fl := flags f
  refine ⟨by rw [HF_k (by decide)]; rfl, fun k y hy hf => ?_, fun k j hk hj => ?_⟩
  · by_cases c : k < 123
    · have := fl (k, y) (FLG_all c hy hf)
      have k4 : k ≠ 104 := by
        intro e
        subst e
        exact absurd hf ((zfk_ar y hy).1)
      rw [HF_k k4]; exact this
    · rw [zck_hi c] at hf
      have : zfk (64 * 99 + y) = 9 := zfk_hi y
      omega
  · have kk : k = 38 ∨ k = 39 := by
      have a : ∀ k, k < 123 → (zck k = 23 ∨ zck k = 24) → k = 38 ∨ k = 39 := by decide +kernel
      by_cases c : k < 123
      · exact a k c hk
      · rw [zck_hi c] at hk; omega
    rcases kk with rfl | rfl
    · have hj : j < 3 := hj
      rw [HF_k (by decide)]
      rcases (show j = 0 ∨ j = 1 ∨ j = 2 by omega) with rfl | rfl | rfl
      · rfl
      · rfl
      · rfl
    · have hj : j < 3 := hj
      rw [HF_k (by decide)]
      rcases (show j = 0 ∨ j = 1 ∨ j = 2 by omega) with rfl | rfl | rfl
      · rfl
      · rfl
      · rfl
set_option maxRecDepth 100000 in
theorem HF_rel {h g : HP} (z : ∀ k, k < 123 → ∀ i, h k i = 0) (f : ∀ k, k ≠ 7 → g k = XA h k) (v : ∀ w, w < 22 → g 7 w = kwC.getD w 0) : Rel 0 (HF g) := by
  obtain ⟨n0_0, n103_2, n0_1, n103_3, n0_2, n103_4, n3_0, n3_1, n3_2, n3_3, n107_0, n107_1, n107_2, n107_3, n5_2, n103_10, n5_3, n103_16, n5_4, n103_17, n10_0, n10_1, n10_2, n10_3, n10_4, n11_0, n11_1, n26_0, n26_2, n0_13, n103_39, n99_7, n103_38⟩ := init_num z f
  have c : ∀ k i w, k ≠ 104 → XC (XB g) k i = w → HF g k i = w := fun k i w hk e => by rw [HF_k hk]; exact e
  have y : ∀ i, i < 500 → i ≠ 3 → i ≠ 7 → HF g 104 i = 0 := fun i h1 h2 h3 => by
    unfold HF
    rw [hs_o (Or.inr h3), hs_o (Or.inr h2), wr_in (by omega)]
  have y3 : HF g 104 3 = 9 := by
    unfold HF
    rw [hs_o (by decide), hs_s]
  have y7 : HF g 104 7 = -1 := by unfold HF; exact hs_s
  have eC : rmC (HF g) 10 = rClr := by
    have q0 := c 10 0 _ (by decide) n10_0
    have q1 := c 10 1 _ (by decide) n10_1
    have q2 := c 10 2 _ (by decide) n10_2
    have q3 := c 10 3 _ (by decide) n10_3
    have q4 := c 10 4 _ (by decide) n10_4
    have p0 : HF g (10 + 1) 0 = 0 := c 11 0 _ (by decide) n11_0
    have p1 : HF g (10 + 1) 1 = 0 := c 11 1 _ (by decide) n11_1
    funext k i
    simp only [rmC, rClr, q1, q3, q4, p0, p1]
    by_cases k0 : k = 0
    · subst k0
      by_cases i4 : i < 4
      · rcases (show i = 0 ∨ i = 1 ∨ i = 2 ∨ i = 3 by omega) with rfl | rfl | rfl | rfl
        · simpa using q0
        · simpa using q1
        · simpa using q2
        · simpa using q3
      · have e2 : ¬ i = 2 := by omega
        simp [i4, e2]
    · have n0 : ¬ (i : Int) < 0 := by omega
      simp [k0, n0]
  have eM : rmM (HF g) 0 = rClr := by
    have y1 : HF g 104 (0 + 1) = 0 := y 1 (by decide) (by decide) (by decide)
    have y2 : HF g 104 (0 + 2) = 0 := y 2 (by decide) (by decide) (by decide)
    have y3' : HF g 104 (0 + 3) = 9 := y3
    funext k i
    simp only [rmM, rClr, y1, y2, y3']
    by_cases k0 : k = 0
    · subst k0
      by_cases i2 : i < 2
      · rw [if_pos rfl, if_pos i2, Nat.zero_add, y i (by omega) (by omega) (by omega), if_neg (by omega)]
      · by_cases e2 : i = 2
        · subst e2; simp
        · by_cases e3 : i = 3
          · subst e3; simp
          · by_cases i7 : i < 7
            · have := y i (by omega) e3 (by omega)
              simp [i2, e2, e3, i7, this]
            · simp [i2, e2, e3, i7]
    · have n0 : ¬ (i : Int) < 0 := by omega
      simp [k0, n0]
  have d := cdim eC
  refine ⟨?_, ?_, ?_, ?_, ?_, ⟨by rw [eC, eM], by rw [eC]; exact WR_clr, ?_, ?_, ?_, fun i hi => ?_, Or.inl ⟨c 26 0 _ (by decide) n26_0, y7, ?_⟩⟩, ⟨?_, ?_, fun m hm => ?_⟩, ?_⟩
  · rw [c 0 0 _ (by decide) n0_0, c 103 2 _ (by decide) n103_2]
  · rw [c 0 1 _ (by decide) n0_1, c 103 3 _ (by decide) n103_3]
  · rw [c 0 2 _ (by decide) n0_2, c 103 4 _ (by decide) n103_4]
  · intro t ht
    rcases (show t = 0 ∨ t = 1 ∨ t = 2 ∨ t = 3 by omega) with rfl | rfl | rfl | rfl
    · exact Or.inl ⟨c 3 0 _ (by decide) n3_0, c 107 0 _ (by decide) n107_0⟩
    · exact Or.inl ⟨c 3 1 _ (by decide) n3_1, c 107 1 _ (by decide) n107_1⟩
    · exact Or.inl ⟨c 3 2 _ (by decide) n3_2, c 107 2 _ (by decide) n107_2⟩
    · exact Or.inl ⟨c 3 3 _ (by decide) n3_3, c 107 3 _ (by decide) n107_3⟩
  · have t2 := c 5 2 _ (by decide) n5_2
    refine ⟨fun i hi => ?_, by rw [t2, c 103 10 _ (by decide) n103_10], by rw [t2]; decide, fun p hp => ?_, by rw [c 5 3 _ (by decide) n5_3, c 103 16 _ (by decide) n103_16], by rw [c 5 4 _ (by decide) n5_4, c 103 17 _ (by decide) n103_17]⟩
    · rw [HF_k (by decide)]
      exact (show XC (XB g) 7 i = g 7 i from rfl).trans (v i hi)
    · rw [t2] at hp; omega
  · show 0 ≤ HF g 11 0 ∧ HF g 11 0 ≤ 3000 * ((0 : Nat) : Int)
    rw [c 11 0 _ (by decide) n11_0]; decide
  · show 0 ≤ HF g 11 1 ∧ HF g 11 1 ≤ 3000 * ((0 : Nat) : Int)
    rw [c 11 1 _ (by decide) n11_1]; decide
  · rw [c 10 4 _ (by decide) n10_4]; decide
  · rw [c 10 3 _ (by decide) n10_3] at hi; omega
  · rw [c 26 2 _ (by decide) n26_2]; decide
  · rw [c 0 13 _ (by decide) n0_13, c 103 39 _ (by decide) n103_39]
  · rw [c 0 13 _ (by decide) n0_13]; decide
  · rw [c 0 13 _ (by decide) n0_13] at hm; omega
  · have q := c 99 7 _ (by decide) n99_7
    refine ⟨by rw [q, c 103 38 _ (by decide) n103_38], Or.inl q, fun e => ?_⟩
    rw [q] at e; omega
set_option maxRecDepth 100000 in
/-- the whole law, over numbers -/
theorem law_num {h : HP} {L : Nat} (hL : L ≤ 3072) (z : ∀ k, k < 123 → ∀ i, h k i = 0) (e : h 1002 0 = 0) (e1 : h 1001 0 = (L : Int)) (r : ∀ j : Nat, j < L → in32 (h 1000 j)) : Wp false i_L_law 0 [vr 1000, vr 9999, vr 9999, vr 9999] [] h (fun r h' => r = some (vi 1) ∧ Full h') := by
  refine c_L_0 e (c_To_78 rfl (fun w => (show XA h 7 w = h 7 w from rfl).trans (z 7 (by decide) w)) (fun g f v => c_C_38 ?_ (c_L_7 rfl (c_plain0 rfl (gc_M_init_194 (gc_L_law_15 ?_))))))
  · exact (congrFun (f 1002 (by decide)) 0).trans rfl
  · have f1 : HF g 1001 0 = (L : Int) := by
      rw [HF_k (by decide)]
      exact (show XC (XB g) 1001 0 = g 1001 0 from rfl).trans ((congrFun (f 1001 (by decide)) 0).trans ((show XA h 1001 0 = h 1001 0 from rfl).trans e1))
    have f0 : ∀ j : Nat, HF g 1000 j = h 1000 j := by
      intro j
      rw [HF_k (by decide)]
      exact (show XC (XB g) 1000 j = g 1000 j from rfl).trans ((congrFun (f 1000 (by decide)) j).trans (show XA h 1000 j = h 1000 j from rfl))
    have lp := law_loop (Q := fun r _ => r = some (vi 1)) hL (f := fun j => h 1000 j) (fun _ => rfl) 520 0 (HF g) rfl (HF_rel z f v) f1 f0 r
    exact Wp_tf (by decide) (HF_full f) lp
