/-! The constructors. -/
section VCt
variable {G : vG} {B : aH} {xs : List (Nat × aE)}
abbrev oE (ci : Nat) (fs : List Value) : aE := .inl (.inr (ci, fs))
abbrev iE (G : vG) (n : Nat) : aE := .inl (.inl (G.2.1 0, n, .inl (fun _ => 0)))
abbrev zE (G : vG) (n : Nat) : aE := .inl (.inl (G.2.1 1, n, .inl (fun _ => 0)))
theorem c_Pr_init {a : Nat} : VL G M_Pr_init 4 100 0 [(0, .ref a)] [] B ((a, oE 2 [.null, .null]) :: xs) 2 6 (lQ G (fun r B' xs' => r = .inl none ∧ B' = B ∧ ∃ q1 q2, xs' = (q2, .inr (4, [])) :: (q1, .inr (3, [])) :: (a, oE 2 [.ref q1, .ref q2]) :: xs)) := by
  refine y_aload_n d_Pr_init_0 rfl (by first | rfl | exact vIsR_rf _) ?_
  refine y_objInit d_Pr_init_1 km_Pr_1 (by decide) (by decide) ?_
  refine y_aload_n d_Pr_init_4 rfl (by first | rfl | exact vIsR_rf _) ?_
  refine y_newL (ci := 3) (by decide) d_Pr_init_5 d_Pr_init_8 d_Pr_init_9 kc_Pr_7 km_Pr_9 (fun q1 => ?_)
  refine y_put 1 d_Pr_init_12 rfl rfl i_Pr tt_Pr_ok n_Pr 0 (by decide) kf_Pr_10 (Or.inl rfl) (Or.inr ⟨rfl, rfl, rfl⟩) rfl rfl rfl (by dsimp only [List.set]) ?_
  refine y_aload_n d_Pr_init_15 rfl (by first | rfl | exact vIsR_rf _) ?_
  refine y_newL (ci := 4) (by decide) d_Pr_init_16 d_Pr_init_19 d_Pr_init_20 kc_Pr_7 km_Pr_9 (fun q2 => ?_)
  refine y_put 2 d_Pr_init_23 rfl rfl i_Pr tt_Pr_ok n_Pr 1 (by decide) kf_Pr_16 (Or.inl rfl) (Or.inr ⟨rfl, rfl, rfl⟩) rfl rfl rfl (by dsimp only [List.set]) ?_
  refine y_vret d_Pr_init_26 rfl ?_
  exact ⟨rfl, rfl, q1, q2, rfl⟩
theorem c_Ru_init {a : Nat} {e : aE} : VL G M_Ru_init 4 100 0 [(0, .ref a)] [] B ((a, e) :: xs) 0 0 (lQ G (fun r B' xs' => r = .inl none ∧ B' = B ∧ xs' = (a, e) :: xs)) := by
  refine y_aload_n d_Ru_init_0 rfl (by first | rfl | exact vIsR_rf _) ?_
  refine y_objInit d_Ru_init_1 km_Ru_3 (by decide) (by decide) ?_
  refine y_vret d_Ru_init_4 rfl ?_
  exact ⟨rfl, rfl, rfl⟩
theorem c_Re_init {a p : Nat} : VL G M_Re_init 4 100 0 [(0, .ref a), (1, .ref p)] [] B ((a, oE 5 [.null, .int 0]) :: xs) 0 0 (lQ G (fun r B' xs' => r = .inl none ∧ B' = B ∧ xs' = (a, oE 5 [.ref p, .int 0]) :: xs)) := by
  refine y_aload_n d_Re_init_0 rfl (by first | rfl | exact vIsR_rf _) ?_
  refine y_objInit d_Re_init_1 km_Re_3 (by decide) (by decide) ?_
  refine y_aload_n d_Re_init_4 rfl (by first | rfl | exact vIsR_rf _) ?_
  refine y_aload_n d_Re_init_5 rfl (by first | rfl | exact vIsR_rf _) ?_
  refine y_put 0 d_Re_init_6 rfl rfl i_Re tt_Re_ok n_Re 0 (by decide) kf_Re_9 (Or.inl rfl) (Or.inr ⟨rfl, rfl, rfl⟩) rfl rfl rfl (by dsimp only [List.set]) ?_
  refine y_aload_n d_Re_init_9 rfl (by first | rfl | exact vIsR_rf _) ?_
  refine y_iconst (v := 0) d_Re_init_10 (by decide) ?_
  refine y_put 0 d_Re_init_11 rfl rfl i_Re tt_Re_ok n_Re 1 (by decide) kf_Re_15 (Or.inl rfl) (Or.inl rfl) rfl rfl rfl (by dsimp only [List.set]) ?_
  refine y_at 14 rfl ?_
  refine y_vret d_Re_init_14 rfl ?_
  exact ⟨rfl, rfl, rfl⟩
theorem c_Fa_init {a p : Nat} : VL G M_Fa_init 4 100 0 [(0, .ref a), (1, .ref p)] [] B ((a, oE 0 [.null, .null, .null, .null, .null, .null, .null, .int 0]) :: xs) 6 128 (lQ G (fun r B' xs' => r = .inl none ∧ B' = B ∧ ∃ q0 q1 q2 q3 q4 q5, xs' = (q5, zE G 24) :: (q4, iE G 24) :: (q3, iE G 24) :: (q2, iE G 24) :: (q1, iE G 24) :: (q0, iE G 8) :: (a, oE 0 [.ref p, .ref q0, .ref q1, .ref q2, .ref q3, .ref q4, .ref q5, .int 0]) :: xs)) := by
  refine y_aload_n d_Fa_init_0 rfl (by first | rfl | exact vIsR_rf _) ?_
  refine y_objInit d_Fa_init_1 km_Fa_3 (by decide) (by decide) ?_
  refine y_aload_n d_Fa_init_4 rfl (by first | rfl | exact vIsR_rf _) ?_
  refine y_aload_n d_Fa_init_5 rfl (by first | rfl | exact vIsR_rf _) ?_
  refine y_put 0 d_Fa_init_6 rfl rfl i_Fa tt_Fa_ok n_Fa 0 (by decide) kf_Fa_9 (Or.inl rfl) (Or.inr ⟨rfl, rfl, rfl⟩) rfl rfl rfl (by dsimp only [List.set]) ?_
  refine y_aload_n d_Fa_init_9 rfl (by first | rfl | exact vIsR_rf _) ?_
  refine y_bipush (v := 8) d_Fa_init_10 (by decide) ?_
  refine y_newi (n := 8) d_Fa_init_12 rfl (by decide) (fun q0 => ?_)
  refine y_at 14 rfl ?_
  refine y_put 1 d_Fa_init_14 rfl rfl i_Fa tt_Fa_ok n_Fa 1 (by decide) kf_Fa_15 (Or.inl rfl) (Or.inr ⟨rfl, rfl, rfl⟩) rfl rfl rfl (by dsimp only [List.set]) ?_
  refine y_aload_n d_Fa_init_17 rfl (by first | rfl | exact vIsR_rf _) ?_
  refine y_bipush (v := 24) d_Fa_init_18 (by decide) ?_
  refine y_newi (n := 24) d_Fa_init_20 rfl (by decide) (fun q1 => ?_)
  refine y_put 2 d_Fa_init_22 rfl rfl i_Fa tt_Fa_ok n_Fa 2 (by decide) kf_Fa_19 (Or.inl rfl) (Or.inr ⟨rfl, rfl, rfl⟩) rfl rfl rfl (by dsimp only [List.set]) ?_
  refine y_aload_n d_Fa_init_25 rfl (by first | rfl | exact vIsR_rf _) ?_
  refine y_bipush (v := 24) d_Fa_init_26 (by decide) ?_
  refine y_newi (n := 24) d_Fa_init_28 rfl (by decide) (fun q2 => ?_)
  refine y_at 30 rfl ?_
  refine y_put 3 d_Fa_init_30 rfl rfl i_Fa tt_Fa_ok n_Fa 3 (by decide) kf_Fa_22 (Or.inl rfl) (Or.inr ⟨rfl, rfl, rfl⟩) rfl rfl rfl (by dsimp only [List.set]) ?_
  refine y_aload_n d_Fa_init_33 rfl (by first | rfl | exact vIsR_rf _) ?_
  refine y_bipush (v := 24) d_Fa_init_34 (by decide) ?_
  refine y_newi (n := 24) d_Fa_init_36 rfl (by decide) (fun q3 => ?_)
  refine y_put 4 d_Fa_init_38 rfl rfl i_Fa tt_Fa_ok n_Fa 4 (by decide) kf_Fa_25 (Or.inl rfl) (Or.inr ⟨rfl, rfl, rfl⟩) rfl rfl rfl (by dsimp only [List.set]) ?_
  refine y_aload_n d_Fa_init_41 rfl (by first | rfl | exact vIsR_rf _) ?_
  refine y_bipush (v := 24) d_Fa_init_42 (by decide) ?_
  refine y_newi (n := 24) d_Fa_init_44 rfl (by decide) (fun q4 => ?_)
  refine y_at 46 rfl ?_
  refine y_put 5 d_Fa_init_46 rfl rfl i_Fa tt_Fa_ok n_Fa 5 (by decide) kf_Fa_28 (Or.inl rfl) (Or.inr ⟨rfl, rfl, rfl⟩) rfl rfl rfl (by dsimp only [List.set]) ?_
  refine y_aload_n d_Fa_init_49 rfl (by first | rfl | exact vIsR_rf _) ?_
  refine y_bipush (v := 24) d_Fa_init_50 (by decide) ?_
  refine y_newz (n := 24) d_Fa_init_52 rfl (by decide) (fun q5 => ?_)
  refine y_put 6 d_Fa_init_54 rfl rfl i_Fa tt_Fa_ok n_Fa 6 (by decide) kf_Fa_31 (Or.inl rfl) (Or.inr ⟨rfl, rfl, rfl⟩) rfl rfl rfl (by dsimp only [List.set]) ?_
  refine y_aload_n d_Fa_init_57 rfl (by first | rfl | exact vIsR_rf _) ?_
  refine y_iconst (v := 0) d_Fa_init_58 (by decide) ?_
  refine y_put 6 d_Fa_init_59 rfl rfl i_Fa tt_Fa_ok n_Fa 7 (by decide) kf_Fa_35 (Or.inl rfl) (Or.inl rfl) rfl rfl rfl (by dsimp only [List.set]) ?_
  refine y_at 62 rfl ?_
  refine y_vret d_Fa_init_62 rfl ?_
  exact ⟨rfl, rfl, q0, q1, q2, q3, q4, q5, rfl⟩
theorem c_Pc_init {a : Nat} {n : Int32} {p : Option Nat} : VL G M_Pc_init 4 100 0 [(0, .ref a), (1, .int n), (2, va_rf p)] [] B ((a, oE 3 [.null, .int 0, .null, .int 0, .int 0]) :: xs) 1 3 (lQ G (fun r B' xs' => r = .inl none ∧ B' = B ∧ ∃ q, xs' = (q, .inr (4, [])) :: (a, oE 3 [va_rf p, .int n, .ref q, .int n, .int 0]) :: xs)) := by
  refine y_aload_n d_Pc_init_0 rfl (by first | rfl | exact vIsR_rf _) ?_
  refine y_objInit d_Pc_init_1 km_Pc_1 (by decide) (by decide) ?_
  refine y_aload_n d_Pc_init_4 rfl (by first | rfl | exact vIsR_rf _) ?_
  refine y_aload_n d_Pc_init_5 rfl (by first | rfl | exact vIsR_rf _) ?_
  refine y_put 0 d_Pc_init_6 rfl rfl i_Pc tt_Pc_ok n_Pc 0 (by decide) kf_Pc_7 (Or.inl rfl) (Or.inr ⟨rfl, rfl, rfl⟩) (by cases p <;> rfl) (by cases p <;> rfl) rfl (by dsimp only [List.set]) ?_
  refine y_aload_n d_Pc_init_9 rfl (by first | rfl | exact vIsR_rf _) ?_
  refine y_iload_n d_Pc_init_10 rfl ?_
  refine y_put 0 d_Pc_init_11 rfl rfl i_Pc tt_Pc_ok n_Pc 1 (by decide) kf_Pc_13 (Or.inl rfl) (Or.inr ⟨rfl, rfl, rfl⟩) rfl rfl rfl (by dsimp only [List.set]) ?_
  refine y_at 14 rfl ?_
  refine y_aload_n d_Pc_init_14 rfl (by first | rfl | exact vIsR_rf _) ?_
  refine y_newL (ci := 4) (by decide) d_Pc_init_15 d_Pc_init_18 d_Pc_init_19 kc_Pc_17 km_Pc_19 (fun q => ?_)
  refine y_put 1 d_Pc_init_22 rfl rfl i_Pc tt_Pc_ok n_Pc 2 (by decide) kf_Pc_20 (Or.inl rfl) (Or.inr ⟨rfl, rfl, rfl⟩) rfl rfl rfl (by dsimp only [List.set]) ?_
  refine y_aload_n d_Pc_init_25 rfl (by first | rfl | exact vIsR_rf _) ?_
  refine y_iload_n d_Pc_init_26 rfl ?_
  refine y_put 1 d_Pc_init_27 rfl rfl i_Pc tt_Pc_ok n_Pc 3 (by decide) kf_Pc_24 (Or.inl rfl) (Or.inl rfl) rfl rfl rfl (by dsimp only [List.set]) ?_
  refine y_aload_n d_Pc_init_30 rfl (by first | rfl | exact vIsR_rf _) ?_
  refine y_iconst (v := 0) d_Pc_init_31 (by decide) ?_
  refine y_put 1 d_Pc_init_32 rfl rfl i_Pc tt_Pc_ok n_Pc 4 (by decide) kf_Pc_27 (Or.inl rfl) (Or.inl rfl) rfl rfl rfl (by dsimp only [List.set]) ?_
  refine y_vret d_Pc_init_35 rfl ?_
  exact ⟨rfl, rfl, q, rfl⟩
theorem c_Pm_init {a c : Nat} {k n r : Int32} : VL G M_Pm_init 4 100 0 [(0, .ref a), (1, .int k), (2, .ref c), (3, .int n), (4, .int r)] [] B ((a, oE 4 [.null, .int 0, .int 0, .int 0, .null, .int 0, .int 0, .int 0]) :: xs) 1 3 (lQ G (fun z B' xs' => z = .inl none ∧ B' = B ∧ ∃ q, xs' = (q, .inr (1, [])) :: (a, oE 4 [.ref c, .int k, .int n, .int r, .ref q, .int n, .int 0, .int 0]) :: xs)) := by
  refine y_aload_n d_Pm_init_0 rfl (by first | rfl | exact vIsR_rf _) ?_
  refine y_objInit d_Pm_init_1 km_Pm_1 (by decide) (by decide) ?_
  refine y_aload_n d_Pm_init_4 rfl (by first | rfl | exact vIsR_rf _) ?_
  refine y_aload_n d_Pm_init_5 rfl (by first | rfl | exact vIsR_rf _) ?_
  refine y_put 0 d_Pm_init_6 rfl rfl i_Pm tt_Pm_ok n_Pm 0 (by decide) kf_Pm_7 (Or.inl rfl) (Or.inr ⟨rfl, rfl, rfl⟩) rfl rfl rfl (by dsimp only [List.set]) ?_
  refine y_aload_n d_Pm_init_9 rfl (by first | rfl | exact vIsR_rf _) ?_
  refine y_iload_n d_Pm_init_10 rfl ?_
  refine y_put 0 d_Pm_init_11 rfl rfl i_Pm tt_Pm_ok n_Pm 1 (by decide) kf_Pm_13 (Or.inl rfl) (Or.inr ⟨rfl, rfl, rfl⟩) rfl rfl rfl (by dsimp only [List.set]) ?_
  refine y_at 14 rfl ?_
  refine y_aload_n d_Pm_init_14 rfl (by first | rfl | exact vIsR_rf _) ?_
  refine y_iload_n d_Pm_init_15 rfl ?_
  refine y_put 0 d_Pm_init_16 rfl rfl i_Pm tt_Pm_ok n_Pm 2 (by decide) kf_Pm_17 (Or.inl rfl) (Or.inr ⟨rfl, rfl, rfl⟩) rfl rfl rfl (by dsimp only [List.set]) ?_
  refine y_aload_n d_Pm_init_19 rfl (by first | rfl | exact vIsR_rf _) ?_
  refine y_iload d_Pm_init_20 rfl ?_
  refine y_put 0 d_Pm_init_22 rfl rfl i_Pm tt_Pm_ok n_Pm 3 (by decide) kf_Pm_20 (Or.inl rfl) (Or.inr ⟨rfl, rfl, rfl⟩) rfl rfl rfl (by dsimp only [List.set]) ?_
  refine y_aload_n d_Pm_init_25 rfl (by first | rfl | exact vIsR_rf _) ?_
  refine y_newL (ci := 1) (by decide) d_Pm_init_26 d_Pm_init_29 d_Pm_init_30 kc_Pm_23 km_Pm_25 (fun q => ?_)
  refine y_put 1 d_Pm_init_33 rfl rfl i_Pm tt_Pm_ok n_Pm 4 (by decide) kf_Pm_26 (Or.inl rfl) (Or.inr ⟨rfl, rfl, rfl⟩) rfl rfl rfl (by dsimp only [List.set]) ?_
  refine y_aload_n d_Pm_init_36 rfl (by first | rfl | exact vIsR_rf _) ?_
  refine y_iload_n d_Pm_init_37 rfl ?_
  refine y_put 1 d_Pm_init_38 rfl rfl i_Pm tt_Pm_ok n_Pm 5 (by decide) kf_Pm_30 (Or.inl rfl) (Or.inl rfl) rfl rfl rfl (by dsimp only [List.set]) ?_
  refine y_aload_n d_Pm_init_41 rfl (by first | rfl | exact vIsR_rf _) ?_
  refine y_iconst (v := 0) d_Pm_init_42 (by decide) ?_
  refine y_put 1 d_Pm_init_43 rfl rfl i_Pm tt_Pm_ok n_Pm 6 (by decide) kf_Pm_33 (Or.inl rfl) (Or.inl rfl) rfl rfl rfl (by dsimp only [List.set]) ?_
  refine y_aload_n d_Pm_init_46 rfl (by first | rfl | exact vIsR_rf _) ?_
  refine y_at 47 rfl ?_
  refine y_iconst (v := 0) d_Pm_init_47 (by decide) ?_
  refine y_put 1 d_Pm_init_48 rfl rfl i_Pm tt_Pm_ok n_Pm 7 (by decide) kf_Pm_37 (Or.inl rfl) (Or.inl rfl) rfl rfl rfl (by dsimp only [List.set]) ?_
  refine y_vret d_Pm_init_51 rfl ?_
  exact ⟨rfl, rfl, q, rfl⟩
theorem c_It_init {a : Nat} {k v n r : Int32} {p : Option Nat} : VL G M_It_init 4 100 0 [(0, .ref a), (1, .int k), (2, .int v), (3, va_rf p), (4, .int n), (5, .int r)] [] B ((a, oE 1 [.int 0, .int 0, .null, .int 0, .int 0]) :: xs) 0 0 (lQ G (fun z B' xs' => z = .inl none ∧ B' = B ∧ xs' = (a, oE 1 [.int k, .int v, va_rf p, .int r, .int n]) :: xs)) := by
  refine y_aload_n d_It_init_0 rfl (by first | rfl | exact vIsR_rf _) ?_
  refine y_objInit d_It_init_1 km_It_1 (by decide) (by decide) ?_
  refine y_aload_n d_It_init_4 rfl (by first | rfl | exact vIsR_rf _) ?_
  refine y_iload_n d_It_init_5 rfl ?_
  refine y_put 0 d_It_init_6 rfl rfl i_It tt_It_ok n_It 0 (by decide) kf_It_7 (Or.inl rfl) (Or.inr ⟨rfl, rfl, rfl⟩) rfl rfl rfl (by dsimp only [List.set]) ?_
  refine y_aload_n d_It_init_9 rfl (by first | rfl | exact vIsR_rf _) ?_
  refine y_iload_n d_It_init_10 rfl ?_
  refine y_put 0 d_It_init_11 rfl rfl i_It tt_It_ok n_It 1 (by decide) kf_It_13 (Or.inl rfl) (Or.inr ⟨rfl, rfl, rfl⟩) rfl rfl rfl (by dsimp only [List.set]) ?_
  refine y_at 14 rfl ?_
  refine y_aload_n d_It_init_14 rfl (by first | rfl | exact vIsR_rf _) ?_
  refine y_aload_n d_It_init_15 rfl (by first | rfl | exact vIsR_rf _) ?_
  refine y_put 0 d_It_init_16 rfl rfl i_It tt_It_ok n_It 2 (by decide) kf_It_16 (Or.inl rfl) (Or.inr ⟨rfl, rfl, rfl⟩) (by cases p <;> rfl) (by cases p <;> rfl) rfl (by dsimp only [List.set]) ?_
  refine y_aload_n d_It_init_19 rfl (by first | rfl | exact vIsR_rf _) ?_
  refine y_iload d_It_init_20 rfl ?_
  refine y_put 0 d_It_init_22 rfl rfl i_It tt_It_ok n_It 3 (by decide) kf_It_20 (Or.inl rfl) (Or.inr ⟨rfl, rfl, rfl⟩) rfl rfl rfl (by dsimp only [List.set]) ?_
  refine y_aload_n d_It_init_25 rfl (by first | rfl | exact vIsR_rf _) ?_
  refine y_iload d_It_init_26 rfl ?_
  refine y_at 28 rfl ?_
  refine y_put 0 d_It_init_28 rfl rfl i_It tt_It_ok n_It 4 (by decide) kf_It_23 (Or.inl rfl) (Or.inl rfl) rfl rfl rfl (by dsimp only [List.set]) ?_
  refine y_vret d_It_init_31 rfl ?_
  exact ⟨rfl, rfl, rfl⟩
/-- the cells of a new object of the class -/
def csX (G : vG) (f : Nat → Nat) : List (Nat × aE) := [(f 12, zE G 24), (f 11, iE G 24), (f 10, iE G 24), (f 9, iE G 24), (f 8, iE G 24), (f 7, iE G 8), (f 4, oE 0 [.ref (f 1), .ref (f 7), .ref (f 8), .ref (f 9), .ref (f 10), .ref (f 11), .ref (f 12), .int 0]), (f 3, oE 5 [.ref (f 1), .int 0]), (f 2, oE 6 [.int 0, .int 0]), (f 6, .inr (4, [])), (f 5, .inr (3, [])), (f 1, oE 2 [.ref (f 5), .ref (f 6)]), (f 0, oE 7 [.ref (f 1), .ref (f 2), .ref (f 3), .ref (f 4), .int 0])]
theorem c_Cs_init {a : Nat} : VL G M_Cs_init 5 140 0 [(0, .ref a)] [] B ((a, oE 7 [.null, .null, .null, .null, .int 0]) :: xs) 12 148 (lQ G (fun r B' xs' => r = .inl none ∧ B' = B ∧ ∃ f, f 0 = a ∧ xs' = csX G f ++ xs)) := by
  refine y_aload_n d_Cs_init_0 rfl (by first | rfl | exact vIsR_rf _) ?_
  refine y_objInit d_Cs_init_1 km_Cs_1 (by decide) (by decide) ?_
  refine y_aload_n d_Cs_init_4 rfl (by first | rfl | exact vIsR_rf _) ?_
  refine y_new (ci := 2) (fs := [.null, .null]) d_Cs_init_5 rfl i_Pr tt_Pr_ok kc_Cs_7 kn_Pr ki_Pr (fun j hj => by rcases (show j = 0 ∨ j = 1 by omega) with rfl | rfl <;> rfl) (fun pr => ?_)
  refine y_dup d_Cs_init_8 (by first | rfl | exact vRf_cat _) ?_
  refine y_callI0 (M1 := M_Pr_init) d_Cs_init_9 rfl rfl rfl (Or.inl km_Cs_9) kI_Pr_init (by decide) (by decide) kM_Pr_init ki_Pr (by decide) (by decide +kernel) (c_Pr_init) (fun B9 xs9 z9 => ?_) (fun v B9 xs9 z9 => nomatch z9.1) (fun E B9 xs9 z9 => nomatch z9.1)
  obtain ⟨-, rfl, l1, l2, rfl⟩ := z9
  refine y_put 3 d_Cs_init_12 rfl rfl i_Cs tt_Cs_ok n_Cs 0 (by decide) kf_Cs_10 (Or.inl rfl) (Or.inr ⟨rfl, rfl, rfl⟩) rfl rfl rfl (by dsimp only [List.set]) ?_
  refine y_aload_n d_Cs_init_15 rfl (by first | rfl | exact vIsR_rf _) ?_
  refine y_new (ci := 6) (fs := [.int 0, .int 0]) d_Cs_init_16 rfl i_Ru tt_Ru_ok kc_Cs_16 kn_Ru ki_Ru (fun j hj => by rcases (show j = 0 ∨ j = 1 by omega) with rfl | rfl <;> rfl) (fun ru => ?_)
  refine y_dup d_Cs_init_19 (by first | rfl | exact vRf_cat _) ?_
  refine y_callI0 (M1 := M_Ru_init) d_Cs_init_20 rfl rfl rfl (Or.inr rfl) kI_Ru_init (by decide) (by decide) kM_Ru_init ki_Ru (by decide) (by decide +kernel) (c_Ru_init) (fun B9 xs9 z9 => ?_) (fun v B9 xs9 z9 => nomatch z9.1) (fun E B9 xs9 z9 => nomatch z9.1)
  obtain ⟨-, rfl, rfl⟩ := z9
  refine y_put 4 d_Cs_init_23 rfl rfl i_Cs tt_Cs_ok n_Cs 1 (by decide) kf_Cs_19 (Or.inl rfl) (Or.inr ⟨rfl, rfl, rfl⟩) rfl rfl rfl (by dsimp only [List.set]) ?_
  refine y_aload_n d_Cs_init_26 rfl (by first | rfl | exact vIsR_rf _) ?_
  refine y_new (ci := 5) (fs := [.null, .int 0]) d_Cs_init_27 rfl i_Re tt_Re_ok kc_Cs_23 kn_Re ki_Re (fun j hj => by rcases (show j = 0 ∨ j = 1 by omega) with rfl | rfl <;> rfl) (fun re => ?_)
  refine y_dup d_Cs_init_30 (by first | rfl | exact vRf_cat _) ?_
  refine y_aload_n d_Cs_init_31 rfl (by first | rfl | exact vIsR_rf _) ?_
  refine y_get 5 d_Cs_init_32 rfl rfl i_Cs 0 (by decide) kf_Cs_10 (Or.inl rfl) rfl ?_
  refine y_callI1 (M1 := M_Re_init) d_Cs_init_35 rfl rfl rfl (Or.inl km_Cs_25) kI_Re_init (by decide) (by first | rfl | exact vRf_cat _) (by decide) kM_Re_init ki_Re (by decide) (by decide +kernel) (c_Re_init) (fun B9 xs9 z9 => ?_) (fun v B9 xs9 z9 => nomatch z9.1) (fun E B9 xs9 z9 => nomatch z9.1)
  obtain ⟨-, rfl, rfl⟩ := z9
  refine y_put 5 d_Cs_init_38 rfl rfl i_Cs tt_Cs_ok n_Cs 2 (by decide) kf_Cs_28 (Or.inl rfl) (Or.inr ⟨rfl, rfl, rfl⟩) rfl rfl rfl (by dsimp only [List.set]) ?_
  refine y_aload_n d_Cs_init_41 rfl (by first | rfl | exact vIsR_rf _) ?_
  refine y_new (ci := 0) (fs := [.null, .null, .null, .null, .null, .null, .null, .int 0]) d_Cs_init_42 rfl i_Fa tt_Fa_ok kc_Cs_32 kn_Fa ki_Fa (fun j hj => by rcases (show j = 0 ∨ j = 1 ∨ j = 2 ∨ j = 3 ∨ j = 4 ∨ j = 5 ∨ j = 6 ∨ j = 7 by omega) with rfl | rfl | rfl | rfl | rfl | rfl | rfl | rfl <;> rfl) (fun fa => ?_)
  refine y_dup d_Cs_init_45 (by first | rfl | exact vRf_cat _) ?_
  refine y_aload_n d_Cs_init_46 rfl (by first | rfl | exact vIsR_rf _) ?_
  refine y_get 6 d_Cs_init_47 rfl rfl i_Cs 0 (by decide) kf_Cs_10 (Or.inl rfl) rfl ?_
  refine y_callI1 (M1 := M_Fa_init) d_Cs_init_50 rfl rfl rfl (Or.inl km_Cs_34) kI_Fa_init (by decide) (by first | rfl | exact vRf_cat _) (by decide) kM_Fa_init ki_Fa (by decide) (by decide +kernel) (c_Fa_init) (fun B9 xs9 z9 => ?_) (fun v B9 xs9 z9 => nomatch z9.1) (fun E B9 xs9 z9 => nomatch z9.1)
  obtain ⟨-, rfl, q0, q1, q2, q3, q4, q5, rfl⟩ := z9
  refine y_put 12 d_Cs_init_53 rfl rfl i_Cs tt_Cs_ok n_Cs 3 (by decide) kf_Cs_35 (Or.inl rfl) (Or.inr ⟨rfl, rfl, rfl⟩) rfl rfl rfl (by dsimp only [List.set]) ?_
  refine y_aload_n d_Cs_init_56 rfl (by first | rfl | exact vIsR_rf _) ?_
  refine y_iconst (v := 0) d_Cs_init_57 (by decide) ?_
  refine y_put 12 d_Cs_init_58 rfl rfl i_Cs tt_Cs_ok n_Cs 4 (by decide) kf_Cs_39 (Or.inl rfl) (Or.inl rfl) rfl rfl rfl (by dsimp only [List.set]) ?_
  refine y_vret d_Cs_init_61 rfl ?_
  exact ⟨rfl, rfl, fun i => [a, pr, ru, re, fa, l1, l2, q0, q1, q2, q3, q4, q5].getD i 0, rfl, rfl⟩

def moX (G : vG) (a : Nat) (f : Nat → Nat) : List (Nat × aE) := [(f 30, iE G 17), (f 29, iE G 17), (f 28, iE G 17), (f 27, iE G 8), (f 26, iE G 24), (f 25, iE G 120), (f 24, iE G 144), (f 23, iE G 144), (f 22, iE G 144), (f 21, iE G 144), (f 20, iE G 144), (f 15, iE G 120), (f 14, iE G 120), (f 13, iE G 120), (f 12, iE G 120), (f 11, zE G 8), (f 10, zE G 24), (f 9, zE G 24), (f 8, iE G 24), (f 7, iE G 24), (f 6, iE G 24), (f 5, iE G 24), (f 4, iE G 24), (f 3, iE G 24), (f 2, iE G 24), (f 1, iE G 8), (f 0, iE G 8), (a, oE 8 [.ref (f 0), .ref (f 1), .ref (f 2), .ref (f 3), .ref (f 4), .ref (f 5), .ref (f 6), .ref (f 7), .ref (f 8), .ref (f 9), .ref (f 10), .ref (f 11), .ref (f 12), .ref (f 13), .ref (f 14), .ref (f 15), .int 0, .int 0, .int 0, .int 0, .ref (f 20), .ref (f 21), .ref (f 22), .ref (f 23), .ref (f 24), .ref (f 25), .ref (f 26), .ref (f 27), .ref (f 28), .ref (f 29), .ref (f 30)])]
theorem c_Mo_init {a : Nat} : VL G M_Mo_init 4 100 0 [(0, .ref a)] [] B ((a, oE 8 [.null, .null, .null, .null, .null, .null, .null, .null, .null, .null, .null, .null, .null, .null, .null, .null, .int 0, .int 0, .int 0, .int 0, .null, .null, .null, .null, .null, .null, .null, .null, .null, .null, .null]) :: xs) 27 1643 (lQ G (fun r B' xs' => r = .inl none ∧ B' = B ∧ ∃ f, xs' = moX G a f ++ xs)) := by
  refine y_aload_n d_Mo_init_0 rfl (by first | rfl | exact vIsR_rf _) ?_
  refine y_objInit d_Mo_init_1 km_Mo_1 (by decide) (by decide) ?_
  refine y_aload_n d_Mo_init_4 rfl (by first | rfl | exact vIsR_rf _) ?_
  refine y_bipush (v := 8) d_Mo_init_5 (by decide) ?_
  refine y_newi (n := 8) d_Mo_init_7 rfl (by decide) (fun q0 => ?_)
  refine y_put 1 d_Mo_init_9 rfl rfl i_Mo tt_Mo_ok n_Mo 0 (by decide) kf_Mo_7 (Or.inl rfl) (Or.inr ⟨rfl, rfl, rfl⟩) rfl rfl rfl (by dsimp only [List.set]) ?_
  refine y_aload_n d_Mo_init_12 rfl (by first | rfl | exact vIsR_rf _) ?_
  refine y_bipush (v := 8) d_Mo_init_13 (by decide) ?_
  refine y_at 15 rfl ?_
  refine y_newi (n := 8) d_Mo_init_15 rfl (by decide) (fun q1 => ?_)
  refine y_put 2 d_Mo_init_17 rfl rfl i_Mo tt_Mo_ok n_Mo 1 (by decide) kf_Mo_13 (Or.inl rfl) (Or.inr ⟨rfl, rfl, rfl⟩) rfl rfl rfl (by dsimp only [List.set]) ?_
  refine y_aload_n d_Mo_init_20 rfl (by first | rfl | exact vIsR_rf _) ?_
  refine y_bipush (v := 24) d_Mo_init_21 (by decide) ?_
  refine y_newi (n := 24) d_Mo_init_23 rfl (by decide) (fun q2 => ?_)
  refine y_put 3 d_Mo_init_25 rfl rfl i_Mo tt_Mo_ok n_Mo 2 (by decide) kf_Mo_16 (Or.inl rfl) (Or.inr ⟨rfl, rfl, rfl⟩) rfl rfl rfl (by dsimp only [List.set]) ?_
  refine y_aload_n d_Mo_init_28 rfl (by first | rfl | exact vIsR_rf _) ?_
  refine y_bipush (v := 24) d_Mo_init_29 (by decide) ?_
  refine y_at 31 rfl ?_
  refine y_newi (n := 24) d_Mo_init_31 rfl (by decide) (fun q3 => ?_)
  refine y_put 4 d_Mo_init_33 rfl rfl i_Mo tt_Mo_ok n_Mo 3 (by decide) kf_Mo_19 (Or.inl rfl) (Or.inr ⟨rfl, rfl, rfl⟩) rfl rfl rfl (by dsimp only [List.set]) ?_
  refine y_aload_n d_Mo_init_36 rfl (by first | rfl | exact vIsR_rf _) ?_
  refine y_bipush (v := 24) d_Mo_init_37 (by decide) ?_
  refine y_newi (n := 24) d_Mo_init_39 rfl (by decide) (fun q4 => ?_)
  refine y_put 5 d_Mo_init_41 rfl rfl i_Mo tt_Mo_ok n_Mo 4 (by decide) kf_Mo_22 (Or.inl rfl) (Or.inr ⟨rfl, rfl, rfl⟩) rfl rfl rfl (by dsimp only [List.set]) ?_
  refine y_aload_n d_Mo_init_44 rfl (by first | rfl | exact vIsR_rf _) ?_
  refine y_bipush (v := 24) d_Mo_init_45 (by decide) ?_
  refine y_at 47 rfl ?_
  refine y_newi (n := 24) d_Mo_init_47 rfl (by decide) (fun q5 => ?_)
  refine y_put 6 d_Mo_init_49 rfl rfl i_Mo tt_Mo_ok n_Mo 5 (by decide) kf_Mo_25 (Or.inl rfl) (Or.inr ⟨rfl, rfl, rfl⟩) rfl rfl rfl (by dsimp only [List.set]) ?_
  refine y_aload_n d_Mo_init_52 rfl (by first | rfl | exact vIsR_rf _) ?_
  refine y_bipush (v := 24) d_Mo_init_53 (by decide) ?_
  refine y_newi (n := 24) d_Mo_init_55 rfl (by decide) (fun q6 => ?_)
  refine y_put 7 d_Mo_init_57 rfl rfl i_Mo tt_Mo_ok n_Mo 6 (by decide) kf_Mo_28 (Or.inl rfl) (Or.inr ⟨rfl, rfl, rfl⟩) rfl rfl rfl (by dsimp only [List.set]) ?_
  refine y_aload_n d_Mo_init_60 rfl (by first | rfl | exact vIsR_rf _) ?_
  refine y_bipush (v := 24) d_Mo_init_61 (by decide) ?_
  refine y_at 63 rfl ?_
  refine y_newi (n := 24) d_Mo_init_63 rfl (by decide) (fun q7 => ?_)
  refine y_put 8 d_Mo_init_65 rfl rfl i_Mo tt_Mo_ok n_Mo 7 (by decide) kf_Mo_31 (Or.inl rfl) (Or.inr ⟨rfl, rfl, rfl⟩) rfl rfl rfl (by dsimp only [List.set]) ?_
  refine y_aload_n d_Mo_init_68 rfl (by first | rfl | exact vIsR_rf _) ?_
  refine y_bipush (v := 24) d_Mo_init_69 (by decide) ?_
  refine y_newi (n := 24) d_Mo_init_71 rfl (by decide) (fun q8 => ?_)
  refine y_put 9 d_Mo_init_73 rfl rfl i_Mo tt_Mo_ok n_Mo 8 (by decide) kf_Mo_34 (Or.inl rfl) (Or.inr ⟨rfl, rfl, rfl⟩) rfl rfl rfl (by dsimp only [List.set]) ?_
  refine y_aload_n d_Mo_init_76 rfl (by first | rfl | exact vIsR_rf _) ?_
  refine y_bipush (v := 24) d_Mo_init_77 (by decide) ?_
  refine y_at 79 rfl ?_
  refine y_newz (n := 24) d_Mo_init_79 rfl (by decide) (fun q9 => ?_)
  refine y_put 10 d_Mo_init_81 rfl rfl i_Mo tt_Mo_ok n_Mo 9 (by decide) kf_Mo_37 (Or.inl rfl) (Or.inr ⟨rfl, rfl, rfl⟩) rfl rfl rfl (by dsimp only [List.set]) ?_
  refine y_aload_n d_Mo_init_84 rfl (by first | rfl | exact vIsR_rf _) ?_
  refine y_bipush (v := 24) d_Mo_init_85 (by decide) ?_
  refine y_newz (n := 24) d_Mo_init_87 rfl (by decide) (fun q10 => ?_)
  refine y_put 11 d_Mo_init_89 rfl rfl i_Mo tt_Mo_ok n_Mo 10 (by decide) kf_Mo_41 (Or.inl rfl) (Or.inr ⟨rfl, rfl, rfl⟩) rfl rfl rfl (by dsimp only [List.set]) ?_
  refine y_aload_n d_Mo_init_92 rfl (by first | rfl | exact vIsR_rf _) ?_
  refine y_bipush (v := 8) d_Mo_init_93 (by decide) ?_
  refine y_at 95 rfl ?_
  refine y_newz (n := 8) d_Mo_init_95 rfl (by decide) (fun q11 => ?_)
  refine y_put 12 d_Mo_init_97 rfl rfl i_Mo tt_Mo_ok n_Mo 11 (by decide) kf_Mo_44 (Or.inl rfl) (Or.inr ⟨rfl, rfl, rfl⟩) rfl rfl rfl (by dsimp only [List.set]) ?_
  refine y_aload_n d_Mo_init_100 rfl (by first | rfl | exact vIsR_rf _) ?_
  refine y_bipush (v := 120) d_Mo_init_101 (by decide) ?_
  refine y_newi (n := 120) d_Mo_init_103 rfl (by decide) (fun q12 => ?_)
  refine y_put 13 d_Mo_init_105 rfl rfl i_Mo tt_Mo_ok n_Mo 12 (by decide) kf_Mo_47 (Or.inl rfl) (Or.inr ⟨rfl, rfl, rfl⟩) rfl rfl rfl (by dsimp only [List.set]) ?_
  refine y_aload_n d_Mo_init_108 rfl (by first | rfl | exact vIsR_rf _) ?_
  refine y_bipush (v := 120) d_Mo_init_109 (by decide) ?_
  refine y_at 111 rfl ?_
  refine y_newi (n := 120) d_Mo_init_111 rfl (by decide) (fun q13 => ?_)
  refine y_put 14 d_Mo_init_113 rfl rfl i_Mo tt_Mo_ok n_Mo 13 (by decide) kf_Mo_50 (Or.inl rfl) (Or.inr ⟨rfl, rfl, rfl⟩) rfl rfl rfl (by dsimp only [List.set]) ?_
  refine y_aload_n d_Mo_init_116 rfl (by first | rfl | exact vIsR_rf _) ?_
  refine y_bipush (v := 120) d_Mo_init_117 (by decide) ?_
  refine y_newi (n := 120) d_Mo_init_119 rfl (by decide) (fun q14 => ?_)
  refine y_put 15 d_Mo_init_121 rfl rfl i_Mo tt_Mo_ok n_Mo 14 (by decide) kf_Mo_53 (Or.inl rfl) (Or.inr ⟨rfl, rfl, rfl⟩) rfl rfl rfl (by dsimp only [List.set]) ?_
  refine y_aload_n d_Mo_init_124 rfl (by first | rfl | exact vIsR_rf _) ?_
  refine y_bipush (v := 120) d_Mo_init_125 (by decide) ?_
  refine y_at 127 rfl ?_
  refine y_newi (n := 120) d_Mo_init_127 rfl (by decide) (fun q15 => ?_)
  refine y_put 16 d_Mo_init_129 rfl rfl i_Mo tt_Mo_ok n_Mo 15 (by decide) kf_Mo_56 (Or.inl rfl) (Or.inr ⟨rfl, rfl, rfl⟩) rfl rfl rfl (by dsimp only [List.set]) ?_
  refine y_aload_n d_Mo_init_132 rfl (by first | rfl | exact vIsR_rf _) ?_
  refine y_sipush (v := 144) d_Mo_init_133 (by decide) ?_
  refine y_newi (n := 144) d_Mo_init_136 rfl (by decide) (fun q16 => ?_)
  refine y_put 17 d_Mo_init_138 rfl rfl i_Mo tt_Mo_ok n_Mo 20 (by decide) kf_Mo_59 (Or.inl rfl) (Or.inr ⟨rfl, rfl, rfl⟩) rfl rfl rfl (by dsimp only [List.set]) ?_
  refine y_aload_n d_Mo_init_141 rfl (by first | rfl | exact vIsR_rf _) ?_
  refine y_sipush (v := 144) d_Mo_init_142 (by decide) ?_
  refine y_at 145 rfl ?_
  refine y_newi (n := 144) d_Mo_init_145 rfl (by decide) (fun q17 => ?_)
  refine y_put 18 d_Mo_init_147 rfl rfl i_Mo tt_Mo_ok n_Mo 21 (by decide) kf_Mo_62 (Or.inl rfl) (Or.inr ⟨rfl, rfl, rfl⟩) rfl rfl rfl (by dsimp only [List.set]) ?_
  refine y_aload_n d_Mo_init_150 rfl (by first | rfl | exact vIsR_rf _) ?_
  refine y_sipush (v := 144) d_Mo_init_151 (by decide) ?_
  refine y_newi (n := 144) d_Mo_init_154 rfl (by decide) (fun q18 => ?_)
  refine y_put 19 d_Mo_init_156 rfl rfl i_Mo tt_Mo_ok n_Mo 22 (by decide) kf_Mo_65 (Or.inl rfl) (Or.inr ⟨rfl, rfl, rfl⟩) rfl rfl rfl (by dsimp only [List.set]) ?_
  refine y_aload_n d_Mo_init_159 rfl (by first | rfl | exact vIsR_rf _) ?_
  refine y_sipush (v := 144) d_Mo_init_160 (by decide) ?_
  refine y_at 163 rfl ?_
  refine y_newi (n := 144) d_Mo_init_163 rfl (by decide) (fun q19 => ?_)
  refine y_put 20 d_Mo_init_165 rfl rfl i_Mo tt_Mo_ok n_Mo 23 (by decide) kf_Mo_68 (Or.inl rfl) (Or.inr ⟨rfl, rfl, rfl⟩) rfl rfl rfl (by dsimp only [List.set]) ?_
  refine y_aload_n d_Mo_init_168 rfl (by first | rfl | exact vIsR_rf _) ?_
  refine y_sipush (v := 144) d_Mo_init_169 (by decide) ?_
  refine y_newi (n := 144) d_Mo_init_172 rfl (by decide) (fun q20 => ?_)
  refine y_put 21 d_Mo_init_174 rfl rfl i_Mo tt_Mo_ok n_Mo 24 (by decide) kf_Mo_71 (Or.inl rfl) (Or.inr ⟨rfl, rfl, rfl⟩) rfl rfl rfl (by dsimp only [List.set]) ?_
  refine y_aload_n d_Mo_init_177 rfl (by first | rfl | exact vIsR_rf _) ?_
  refine y_bipush (v := 120) d_Mo_init_178 (by decide) ?_
  refine y_at 180 rfl ?_
  refine y_newi (n := 120) d_Mo_init_180 rfl (by decide) (fun q21 => ?_)
  refine y_put 22 d_Mo_init_182 rfl rfl i_Mo tt_Mo_ok n_Mo 25 (by decide) kf_Mo_74 (Or.inl rfl) (Or.inr ⟨rfl, rfl, rfl⟩) rfl rfl rfl (by dsimp only [List.set]) ?_
  refine y_aload_n d_Mo_init_185 rfl (by first | rfl | exact vIsR_rf _) ?_
  refine y_bipush (v := 24) d_Mo_init_186 (by decide) ?_
  refine y_newi (n := 24) d_Mo_init_188 rfl (by decide) (fun q22 => ?_)
  refine y_put 23 d_Mo_init_190 rfl rfl i_Mo tt_Mo_ok n_Mo 26 (by decide) kf_Mo_77 (Or.inl rfl) (Or.inr ⟨rfl, rfl, rfl⟩) rfl rfl rfl (by dsimp only [List.set]) ?_
  refine y_aload_n d_Mo_init_193 rfl (by first | rfl | exact vIsR_rf _) ?_
  refine y_bipush (v := 8) d_Mo_init_194 (by decide) ?_
  refine y_at 196 rfl ?_
  refine y_newi (n := 8) d_Mo_init_196 rfl (by decide) (fun q23 => ?_)
  refine y_put 24 d_Mo_init_198 rfl rfl i_Mo tt_Mo_ok n_Mo 27 (by decide) kf_Mo_80 (Or.inl rfl) (Or.inr ⟨rfl, rfl, rfl⟩) rfl rfl rfl (by dsimp only [List.set]) ?_
  refine y_aload_n d_Mo_init_201 rfl (by first | rfl | exact vIsR_rf _) ?_
  refine y_bipush (v := 17) d_Mo_init_202 (by decide) ?_
  refine y_newi (n := 17) d_Mo_init_204 rfl (by decide) (fun q24 => ?_)
  refine y_put 25 d_Mo_init_206 rfl rfl i_Mo tt_Mo_ok n_Mo 28 (by decide) kf_Mo_83 (Or.inl rfl) (Or.inr ⟨rfl, rfl, rfl⟩) rfl rfl rfl (by dsimp only [List.set]) ?_
  refine y_aload_n d_Mo_init_209 rfl (by first | rfl | exact vIsR_rf _) ?_
  refine y_bipush (v := 17) d_Mo_init_210 (by decide) ?_
  refine y_at 212 rfl ?_
  refine y_newi (n := 17) d_Mo_init_212 rfl (by decide) (fun q25 => ?_)
  refine y_put 26 d_Mo_init_214 rfl rfl i_Mo tt_Mo_ok n_Mo 29 (by decide) kf_Mo_86 (Or.inl rfl) (Or.inr ⟨rfl, rfl, rfl⟩) rfl rfl rfl (by dsimp only [List.set]) ?_
  refine y_aload_n d_Mo_init_217 rfl (by first | rfl | exact vIsR_rf _) ?_
  refine y_bipush (v := 17) d_Mo_init_218 (by decide) ?_
  refine y_newi (n := 17) d_Mo_init_220 rfl (by decide) (fun q26 => ?_)
  refine y_put 27 d_Mo_init_222 rfl rfl i_Mo tt_Mo_ok n_Mo 30 (by decide) kf_Mo_89 (Or.inl rfl) (Or.inr ⟨rfl, rfl, rfl⟩) rfl rfl rfl (by dsimp only [List.set]) ?_
  refine y_vret d_Mo_init_225 rfl ?_
  exact ⟨rfl, rfl, fun i => [q0, q1, q2, q3, q4, q5, q6, q7, q8, q9, q10, q11, q12, q13, q14, q15, 0, 0, 0, 0, q16, q17, q18, q19, q20, q21, q22, q23, q24, q25, q26].getD i 0, rfl⟩
end VCt
