/-! The law's helpers: a call of the class, its answer or the number of its exception. -/
section VLh
variable {G : vG} {M M1 : vM} {fr lo pc fr1 lo1 mc ms mc1 ms1 : Nat} {lv : List (Nat × Value)} {st : List Value} {Q : vQ} {C C' Mo : vH → Prop} {o x : Nat} {w : Nat → Int64}
/-- the class's object stands there -/
def cAt (C : vH → Prop) (ci x : Nat) : Prop := ∀ hc : vH, C hc → x ∈ hc.1 ∧ ∃ fs, hc.2 x = .inr (ci, fs)
theorem w_clsR {idx b ci : Nat} {q : vw_C} {As st0 : List Value} {v : Option Value} (d : decode M.2.1 pc = .ok (.invokevirtual idx, 3)) (hb : cAt C ci b) (hc : vCl[ci]? = some q) (hw : Cond.methodLink M.1.cls idx M1.1 ∈ vT) (hin : Cond.instanceMethod M1.1 ∈ vT) (hse : Cond.selects q.1 M1.1 M1.1 ∈ vT) (hok : vOk M M1 fr lo fr1 lo1 (.ref b :: As) st) (hp : (parseMethodDescriptor M1.1.desc).map (fun d => d.parameters.length) = some As.length) (hs0 : As.reverse ++ .ref b :: st = st0) (hV : ∀ hc, C hc → V G M1 fr1 lo1 0 (vArgs 0 (.ref b :: As)) [] hc mc1 ms1 (fun r h' => r = .inl v ∧ C' h')) (kk : VW G M fr lo (pc + 3) lv (v.toList ++ st) (lwQ G C' Mo o w) (mc - mc1) (ms - ms1) Q) (b1 : mc1 ≤ mc := by first | exact Nat.le_of_ble_eq_true rfl | omega) (b2 : ms1 ≤ ms := by first | exact Nat.le_of_ble_eq_true rfl | omega) : VW G M fr lo pc lv st0 (lwQ G C Mo o w) mc ms Q := w_cls d hb hc hw hin hse hok hp hs0 hV (fun v' h hl => by
  obtain ⟨hc', hm, z1, z2, z3, z4, z5, z6, ⟨z7, z7'⟩, z8⟩ := hl
  cases z7
  exact kk h ⟨hc', hm, z1, z2, z3, z4, z5, z6, z7', z8⟩) (fun E h hl => by
  obtain ⟨hc', hm, z1, z2, z3, z4, z5, z6, ⟨z7, z7'⟩, z8⟩ := hl
  cases z7) b1 b2
theorem w_clsX {idx b ci : Nat} {q : vw_C} {As st0 : List Value} {E : String} (d : decode M.2.1 pc = .ok (.invokevirtual idx, 3)) (hb : cAt C ci b) (hc : vCl[ci]? = some q) (hw : Cond.methodLink M.1.cls idx M1.1 ∈ vT) (hin : Cond.instanceMethod M1.1 ∈ vT) (hse : Cond.selects q.1 M1.1 M1.1 ∈ vT) (hok : vOk M M1 fr lo fr1 lo1 (.ref b :: As) st) (hp : (parseMethodDescriptor M1.1.desc).map (fun d => d.parameters.length) = some As.length) (hs0 : As.reverse ++ .ref b :: st = st0) (hV : ∀ hc, C hc → V G M1 fr1 lo1 0 (vArgs 0 (.ref b :: As)) [] hc mc1 ms1 (fun r h' => r = .inr E ∧ C' h')) (kx : ∀ h', lwQ G C' Mo o w h' → vXh G M fr lo pc lv h' (mc - mc1) (ms - ms1) Q E) (b1 : mc1 ≤ mc := by first | exact Nat.le_of_ble_eq_true rfl | omega) (b2 : ms1 ≤ ms := by first | exact Nat.le_of_ble_eq_true rfl | omega) : VW G M fr lo pc lv st0 (lwQ G C Mo o w) mc ms Q := w_cls d hb hc hw hin hse hok hp hs0 hV (fun v' h hl => by
  obtain ⟨hc', hm, z1, z2, z3, z4, z5, z6, ⟨z7, z7'⟩, z8⟩ := hl
  cases z7) (fun E h hl => by
  obtain ⟨hc', hm, z1, z2, z3, z4, z5, z6, ⟨z7, z7'⟩, z8⟩ := hl
  cases z7
  exact kx h ⟨hc', hm, z1, z2, z3, z4, z5, z6, z7', z8⟩) b1 b2

theorem h_add_ok {a : Int32} {v0 : Int32} (hb : cAt C 7 x) (hV : ∀ hc, C hc → V G M_Cs_add 42 1010 0 (vArgs 0 (.ref x :: [.int v0])) [] hc 4 140 (fun r h' => r = .inl (some (.int a)) ∧ C' h')) : VW G M_Lw_add 43 1050 0 [(0, .ref x), (1, .int v0), (2, .ref o)] [] (lwQ G C Mo o w) 4 140 (fun r h' => r = .inl (some (.int 0)) ∧ lwQ G C' Mo o (vp_updL w 0 a.toInt64) h') := by
  refine w_aload_n d_Lw_add_0 rfl (by first | rfl | exact vIsR_rf _) ?_
  refine w_iconst (v := 0) d_Lw_add_1 (by decide) ?_
  refine w_aload_n d_Lw_add_2 rfl (by first | rfl | exact vIsR_rf _) ?_
  refine w_iload_n d_Lw_add_3 rfl ?_
  refine w_clsR (M1 := M_Cs_add) (ci := 7) (As := [.int v0]) (st := [.int 0, .ref o]) (fr1 := 42) (lo1 := 1010) (mc1 := 4) (ms1 := 140) d_Lw_add_4 hb rfl km_Lw_7 kI_Cs_add ks_Cs_Cs_add ⟨by decide, (by intro v hv; simp only [List.mem_cons, List.not_mem_nil, or_false] at hv; rcases hv with rfl | rfl <;> rfl), Nat.le_of_ble_eq_true rfl, kM_Cs_add, ki_Cs, by decide, by decide, Nat.le_of_ble_eq_true rfl, by decide, by decide⟩ (show _ = some 1 from by decide +kernel) rfl hV ?_
  refine w_i2l d_Lw_add_7 ?_
  refine w_last d_Lw_add_8 ?_
  refine w_goto (tgt := 18) d_Lw_add_9 (by decide) ?_
  refine w_iconst (v := 0) d_Lw_add_18 (by decide) ?_
  refine w_iret d_Lw_add_19 rfl rfl ?_
  exact fun h hW => ⟨rfl, hW⟩
theorem h_add_x1 {v0 : Int32} (hb : cAt C 7 x) (hV : ∀ hc, C hc → V G M_Cs_add 42 1010 0 (vArgs 0 (.ref x :: [.int v0])) [] hc 4 140 (fun r h' => r = .inr eIa ∧ C' h')) : VW G M_Lw_add 43 1050 0 [(0, .ref x), (1, .int v0), (2, .ref o)] [] (lwQ G C Mo o w) 4 140 (fun r h' => r = .inl (some (.int 1)) ∧ lwQ G C' Mo o w h') := by
  have hk : ∀ q, VW G M_Lw_add 43 1050 12 [(0, .ref x), (1, .int v0), (2, .ref o)] [.ref q] (lwQ G C' Mo o w) (4 - 4) (140 - 140) (fun r h' => r = .inl (some (.int 1)) ∧ lwQ G C' Mo o w h') := by
    intro q
    refine w_astore_n d_Lw_add_12 (by first | rfl | exact vIsR_rf _) (by decide) rfl ?_
    refine w_iconst (v := 1) d_Lw_add_13 (by decide) ?_
    refine w_iret d_Lw_add_14 rfl rfl ?_
    exact fun h hW => ⟨rfl, hW⟩
  refine w_aload_n d_Lw_add_0 rfl (by first | rfl | exact vIsR_rf _) ?_
  refine w_iconst (v := 0) d_Lw_add_1 (by decide) ?_
  refine w_aload_n d_Lw_add_2 rfl (by first | rfl | exact vIsR_rf _) ?_
  refine w_iload_n d_Lw_add_3 rfl ?_
  refine w_clsX (M1 := M_Cs_add) (ci := 7) (As := [.int v0]) (st := [.int 0, .ref o]) (fr1 := 42) (lo1 := 1010) (mc1 := 4) (ms1 := 140) d_Lw_add_4 hb rfl km_Lw_7 kI_Cs_add ks_Cs_Cs_add ⟨by decide, (by intro v hv; simp only [List.mem_cons, List.not_mem_nil, or_false] at hv; rcases hv with rfl | rfl <;> rfl), Nat.le_of_ble_eq_true rfl, kM_Cs_add, ki_Cs, by decide, by decide, Nat.le_of_ble_eq_true rfl, by decide, by decide⟩ (show _ = some 1 from by decide +kernel) rfl hV (fun h' hl => Or.inr ⟨[], (0, 9, 12, 13), [(0, 9, 15, 15)], rfl, (fun z hz => nomatch hz), rfl, by decide, ⟨"java/lang/IllegalArgumentException", kc_Lw_13, kx_Ia_Ia⟩, fun q => hk q h' hl⟩)
theorem h_add_x2 {v0 : Int32} (hb : cAt C 7 x) (hV : ∀ hc, C hc → V G M_Cs_add 42 1010 0 (vArgs 0 (.ref x :: [.int v0])) [] hc 4 140 (fun r h' => r = .inr eIs ∧ C' h')) : VW G M_Lw_add 43 1050 0 [(0, .ref x), (1, .int v0), (2, .ref o)] [] (lwQ G C Mo o w) 4 140 (fun r h' => r = .inl (some (.int 2)) ∧ lwQ G C' Mo o w h') := by
  have hk : ∀ q, VW G M_Lw_add 43 1050 15 [(0, .ref x), (1, .int v0), (2, .ref o)] [.ref q] (lwQ G C' Mo o w) (4 - 4) (140 - 140) (fun r h' => r = .inl (some (.int 2)) ∧ lwQ G C' Mo o w h') := by
    intro q
    refine w_astore_n d_Lw_add_15 (by first | rfl | exact vIsR_rf _) (by decide) rfl ?_
    refine w_iconst (v := 2) d_Lw_add_16 (by decide) ?_
    refine w_iret d_Lw_add_17 rfl rfl ?_
    exact fun h hW => ⟨rfl, hW⟩
  refine w_aload_n d_Lw_add_0 rfl (by first | rfl | exact vIsR_rf _) ?_
  refine w_iconst (v := 0) d_Lw_add_1 (by decide) ?_
  refine w_aload_n d_Lw_add_2 rfl (by first | rfl | exact vIsR_rf _) ?_
  refine w_iload_n d_Lw_add_3 rfl ?_
  refine w_clsX (M1 := M_Cs_add) (ci := 7) (As := [.int v0]) (st := [.int 0, .ref o]) (fr1 := 42) (lo1 := 1010) (mc1 := 4) (ms1 := 140) d_Lw_add_4 hb rfl km_Lw_7 kI_Cs_add ks_Cs_Cs_add ⟨by decide, (by intro v hv; simp only [List.mem_cons, List.not_mem_nil, or_false] at hv; rcases hv with rfl | rfl <;> rfl), Nat.le_of_ble_eq_true rfl, kM_Cs_add, ki_Cs, by decide, by decide, Nat.le_of_ble_eq_true rfl, by decide, by decide⟩ (show _ = some 1 from by decide +kernel) rfl hV (fun h' hl => Or.inr ⟨[(0, 9, 12, 13)], (0, 9, 15, 15), [], rfl, (fun z hz => by simp only [List.mem_cons, List.not_mem_nil, or_false] at hz; rcases hz with rfl; exact Or.inr ⟨by decide, "java/lang/IllegalArgumentException", kc_Lw_13, List.mem_of_getElem? (i := 0) rfl⟩), rfl, by decide, ⟨"java/lang/IllegalStateException", kc_Lw_15, kx_Is_Is⟩, fun q => hk q h' hl⟩)
theorem h_method_ok {a : Int32} {v0 v1 v2 : Int32} (hb : cAt C 7 x) (hV : ∀ hc, C hc → V G M_Cs_method 42 1010 0 (vArgs 0 (.ref x :: [.int v0, .int v1, .int v2])) [] hc 4 140 (fun r h' => r = .inl (some (.int a)) ∧ C' h')) : VW G M_Lw_method 43 1050 0 [(0, .ref x), (1, .int v0), (2, .int v1), (3, .int v2), (4, .ref o)] [] (lwQ G C Mo o w) 4 140 (fun r h' => r = .inl (some (.int 0)) ∧ lwQ G C' Mo o (vp_updL w 0 a.toInt64) h') := by
  refine w_aload d_Lw_method_0 rfl (by first | rfl | exact vIsR_rf _) ?_
  refine w_iconst (v := 0) d_Lw_method_2 (by decide) ?_
  refine w_aload_n d_Lw_method_3 rfl (by first | rfl | exact vIsR_rf _) ?_
  refine w_iload_n d_Lw_method_4 rfl ?_
  refine w_iload_n d_Lw_method_5 rfl ?_
  refine w_iload_n d_Lw_method_6 rfl ?_
  refine w_clsR (M1 := M_Cs_method) (ci := 7) (As := [.int v0, .int v1, .int v2]) (st := [.int 0, .ref o]) (fr1 := 42) (lo1 := 1010) (mc1 := 4) (ms1 := 140) d_Lw_method_7 hb rfl km_Lw_17 kI_Cs_method ks_Cs_Cs_method ⟨by decide, (by intro v hv; simp only [List.mem_cons, List.not_mem_nil, or_false] at hv; rcases hv with rfl | rfl | rfl | rfl <;> rfl), Nat.le_of_ble_eq_true rfl, kM_Cs_method, ki_Cs, by decide, by decide, Nat.le_of_ble_eq_true rfl, by decide, by decide⟩ (show _ = some 3 from by decide +kernel) rfl hV ?_
  refine w_i2l d_Lw_method_10 ?_
  refine w_last d_Lw_method_11 ?_
  refine w_goto (tgt := 23) d_Lw_method_12 (by decide) ?_
  refine w_iconst (v := 0) d_Lw_method_23 (by decide) ?_
  refine w_iret d_Lw_method_24 rfl rfl ?_
  exact fun h hW => ⟨rfl, hW⟩
theorem h_method_x1 {v0 v1 v2 : Int32} (hb : cAt C 7 x) (hV : ∀ hc, C hc → V G M_Cs_method 42 1010 0 (vArgs 0 (.ref x :: [.int v0, .int v1, .int v2])) [] hc 4 140 (fun r h' => r = .inr eIa ∧ C' h')) : VW G M_Lw_method 43 1050 0 [(0, .ref x), (1, .int v0), (2, .int v1), (3, .int v2), (4, .ref o)] [] (lwQ G C Mo o w) 4 140 (fun r h' => r = .inl (some (.int 1)) ∧ lwQ G C' Mo o w h') := by
  have hk : ∀ q, VW G M_Lw_method 43 1050 15 [(0, .ref x), (1, .int v0), (2, .int v1), (3, .int v2), (4, .ref o)] [.ref q] (lwQ G C' Mo o w) (4 - 4) (140 - 140) (fun r h' => r = .inl (some (.int 1)) ∧ lwQ G C' Mo o w h') := by
    intro q
    refine w_astore d_Lw_method_15 (by first | rfl | exact vIsR_rf _) (by decide) rfl ?_
    refine w_iconst (v := 1) d_Lw_method_17 (by decide) ?_
    refine w_iret d_Lw_method_18 rfl rfl ?_
    exact fun h hW => ⟨rfl, hW⟩
  refine w_aload d_Lw_method_0 rfl (by first | rfl | exact vIsR_rf _) ?_
  refine w_iconst (v := 0) d_Lw_method_2 (by decide) ?_
  refine w_aload_n d_Lw_method_3 rfl (by first | rfl | exact vIsR_rf _) ?_
  refine w_iload_n d_Lw_method_4 rfl ?_
  refine w_iload_n d_Lw_method_5 rfl ?_
  refine w_iload_n d_Lw_method_6 rfl ?_
  refine w_clsX (M1 := M_Cs_method) (ci := 7) (As := [.int v0, .int v1, .int v2]) (st := [.int 0, .ref o]) (fr1 := 42) (lo1 := 1010) (mc1 := 4) (ms1 := 140) d_Lw_method_7 hb rfl km_Lw_17 kI_Cs_method ks_Cs_Cs_method ⟨by decide, (by intro v hv; simp only [List.mem_cons, List.not_mem_nil, or_false] at hv; rcases hv with rfl | rfl | rfl | rfl <;> rfl), Nat.le_of_ble_eq_true rfl, kM_Cs_method, ki_Cs, by decide, by decide, Nat.le_of_ble_eq_true rfl, by decide, by decide⟩ (show _ = some 3 from by decide +kernel) rfl hV (fun h' hl => Or.inr ⟨[], (0, 12, 15, 13), [(0, 12, 19, 15)], rfl, (fun z hz => nomatch hz), rfl, by decide, ⟨"java/lang/IllegalArgumentException", kc_Lw_13, kx_Ia_Ia⟩, fun q => hk q h' hl⟩)
theorem h_method_x2 {v0 v1 v2 : Int32} (hb : cAt C 7 x) (hV : ∀ hc, C hc → V G M_Cs_method 42 1010 0 (vArgs 0 (.ref x :: [.int v0, .int v1, .int v2])) [] hc 4 140 (fun r h' => r = .inr eIs ∧ C' h')) : VW G M_Lw_method 43 1050 0 [(0, .ref x), (1, .int v0), (2, .int v1), (3, .int v2), (4, .ref o)] [] (lwQ G C Mo o w) 4 140 (fun r h' => r = .inl (some (.int 2)) ∧ lwQ G C' Mo o w h') := by
  have hk : ∀ q, VW G M_Lw_method 43 1050 19 [(0, .ref x), (1, .int v0), (2, .int v1), (3, .int v2), (4, .ref o)] [.ref q] (lwQ G C' Mo o w) (4 - 4) (140 - 140) (fun r h' => r = .inl (some (.int 2)) ∧ lwQ G C' Mo o w h') := by
    intro q
    refine w_astore d_Lw_method_19 (by first | rfl | exact vIsR_rf _) (by decide) rfl ?_
    refine w_iconst (v := 2) d_Lw_method_21 (by decide) ?_
    refine w_iret d_Lw_method_22 rfl rfl ?_
    exact fun h hW => ⟨rfl, hW⟩
  refine w_aload d_Lw_method_0 rfl (by first | rfl | exact vIsR_rf _) ?_
  refine w_iconst (v := 0) d_Lw_method_2 (by decide) ?_
  refine w_aload_n d_Lw_method_3 rfl (by first | rfl | exact vIsR_rf _) ?_
  refine w_iload_n d_Lw_method_4 rfl ?_
  refine w_iload_n d_Lw_method_5 rfl ?_
  refine w_iload_n d_Lw_method_6 rfl ?_
  refine w_clsX (M1 := M_Cs_method) (ci := 7) (As := [.int v0, .int v1, .int v2]) (st := [.int 0, .ref o]) (fr1 := 42) (lo1 := 1010) (mc1 := 4) (ms1 := 140) d_Lw_method_7 hb rfl km_Lw_17 kI_Cs_method ks_Cs_Cs_method ⟨by decide, (by intro v hv; simp only [List.mem_cons, List.not_mem_nil, or_false] at hv; rcases hv with rfl | rfl | rfl | rfl <;> rfl), Nat.le_of_ble_eq_true rfl, kM_Cs_method, ki_Cs, by decide, by decide, Nat.le_of_ble_eq_true rfl, by decide, by decide⟩ (show _ = some 3 from by decide +kernel) rfl hV (fun h' hl => Or.inr ⟨[(0, 12, 15, 13)], (0, 12, 19, 15), [], rfl, (fun z hz => by simp only [List.mem_cons, List.not_mem_nil, or_false] at hz; rcases hz with rfl; exact Or.inr ⟨by decide, "java/lang/IllegalArgumentException", kc_Lw_13, List.mem_of_getElem? (i := 0) rfl⟩), rfl, by decide, ⟨"java/lang/IllegalStateException", kc_Lw_15, kx_Is_Is⟩, fun q => hk q h' hl⟩)
theorem h_item_ok {a : Int32} {v0 v1 v2 v3 v4 : Int32} (hb : cAt C 7 x) (hV : ∀ hc, C hc → V G M_Cs_item 42 1010 0 (vArgs 0 (.ref x :: [.int v0, .int v1, .int v2, .int v3, .int v4])) [] hc 4 140 (fun r h' => r = .inl (some (.int a)) ∧ C' h')) : VW G M_Lw_item 43 1050 0 [(0, .ref x), (1, .int v0), (2, .int v1), (3, .int v2), (4, .int v3), (5, .int v4), (6, .ref o)] [] (lwQ G C Mo o w) 4 140 (fun r h' => r = .inl (some (.int 0)) ∧ lwQ G C' Mo o (vp_updL w 0 a.toInt64) h') := by
  refine w_aload d_Lw_item_0 rfl (by first | rfl | exact vIsR_rf _) ?_
  refine w_iconst (v := 0) d_Lw_item_2 (by decide) ?_
  refine w_aload_n d_Lw_item_3 rfl (by first | rfl | exact vIsR_rf _) ?_
  refine w_iload_n d_Lw_item_4 rfl ?_
  refine w_iload_n d_Lw_item_5 rfl ?_
  refine w_iload_n d_Lw_item_6 rfl ?_
  refine w_iload d_Lw_item_7 rfl ?_
  refine w_iload d_Lw_item_9 rfl ?_
  refine w_clsR (M1 := M_Cs_item) (ci := 7) (As := [.int v0, .int v1, .int v2, .int v3, .int v4]) (st := [.int 0, .ref o]) (fr1 := 42) (lo1 := 1010) (mc1 := 4) (ms1 := 140) d_Lw_item_11 hb rfl km_Lw_21 kI_Cs_item ks_Cs_Cs_item ⟨by decide, (by intro v hv; simp only [List.mem_cons, List.not_mem_nil, or_false] at hv; rcases hv with rfl | rfl | rfl | rfl | rfl | rfl <;> rfl), Nat.le_of_ble_eq_true rfl, kM_Cs_item, ki_Cs, by decide, by decide, Nat.le_of_ble_eq_true rfl, by decide, by decide⟩ (show _ = some 5 from by decide +kernel) rfl hV ?_
  refine w_i2l d_Lw_item_14 ?_
  refine w_last d_Lw_item_15 ?_
  refine w_goto (tgt := 27) d_Lw_item_16 (by decide) ?_
  refine w_iconst (v := 0) d_Lw_item_27 (by decide) ?_
  refine w_iret d_Lw_item_28 rfl rfl ?_
  exact fun h hW => ⟨rfl, hW⟩
theorem h_item_x1 {v0 v1 v2 v3 v4 : Int32} (hb : cAt C 7 x) (hV : ∀ hc, C hc → V G M_Cs_item 42 1010 0 (vArgs 0 (.ref x :: [.int v0, .int v1, .int v2, .int v3, .int v4])) [] hc 4 140 (fun r h' => r = .inr eIa ∧ C' h')) : VW G M_Lw_item 43 1050 0 [(0, .ref x), (1, .int v0), (2, .int v1), (3, .int v2), (4, .int v3), (5, .int v4), (6, .ref o)] [] (lwQ G C Mo o w) 4 140 (fun r h' => r = .inl (some (.int 1)) ∧ lwQ G C' Mo o w h') := by
  have hk : ∀ q, VW G M_Lw_item 43 1050 19 [(0, .ref x), (1, .int v0), (2, .int v1), (3, .int v2), (4, .int v3), (5, .int v4), (6, .ref o)] [.ref q] (lwQ G C' Mo o w) (4 - 4) (140 - 140) (fun r h' => r = .inl (some (.int 1)) ∧ lwQ G C' Mo o w h') := by
    intro q
    refine w_astore d_Lw_item_19 (by first | rfl | exact vIsR_rf _) (by decide) rfl ?_
    refine w_iconst (v := 1) d_Lw_item_21 (by decide) ?_
    refine w_iret d_Lw_item_22 rfl rfl ?_
    exact fun h hW => ⟨rfl, hW⟩
  refine w_aload d_Lw_item_0 rfl (by first | rfl | exact vIsR_rf _) ?_
  refine w_iconst (v := 0) d_Lw_item_2 (by decide) ?_
  refine w_aload_n d_Lw_item_3 rfl (by first | rfl | exact vIsR_rf _) ?_
  refine w_iload_n d_Lw_item_4 rfl ?_
  refine w_iload_n d_Lw_item_5 rfl ?_
  refine w_iload_n d_Lw_item_6 rfl ?_
  refine w_iload d_Lw_item_7 rfl ?_
  refine w_iload d_Lw_item_9 rfl ?_
  refine w_clsX (M1 := M_Cs_item) (ci := 7) (As := [.int v0, .int v1, .int v2, .int v3, .int v4]) (st := [.int 0, .ref o]) (fr1 := 42) (lo1 := 1010) (mc1 := 4) (ms1 := 140) d_Lw_item_11 hb rfl km_Lw_21 kI_Cs_item ks_Cs_Cs_item ⟨by decide, (by intro v hv; simp only [List.mem_cons, List.not_mem_nil, or_false] at hv; rcases hv with rfl | rfl | rfl | rfl | rfl | rfl <;> rfl), Nat.le_of_ble_eq_true rfl, kM_Cs_item, ki_Cs, by decide, by decide, Nat.le_of_ble_eq_true rfl, by decide, by decide⟩ (show _ = some 5 from by decide +kernel) rfl hV (fun h' hl => Or.inr ⟨[], (0, 16, 19, 13), [(0, 16, 23, 15)], rfl, (fun z hz => nomatch hz), rfl, by decide, ⟨"java/lang/IllegalArgumentException", kc_Lw_13, kx_Ia_Ia⟩, fun q => hk q h' hl⟩)
theorem h_item_x2 {v0 v1 v2 v3 v4 : Int32} (hb : cAt C 7 x) (hV : ∀ hc, C hc → V G M_Cs_item 42 1010 0 (vArgs 0 (.ref x :: [.int v0, .int v1, .int v2, .int v3, .int v4])) [] hc 4 140 (fun r h' => r = .inr eIs ∧ C' h')) : VW G M_Lw_item 43 1050 0 [(0, .ref x), (1, .int v0), (2, .int v1), (3, .int v2), (4, .int v3), (5, .int v4), (6, .ref o)] [] (lwQ G C Mo o w) 4 140 (fun r h' => r = .inl (some (.int 2)) ∧ lwQ G C' Mo o w h') := by
  have hk : ∀ q, VW G M_Lw_item 43 1050 23 [(0, .ref x), (1, .int v0), (2, .int v1), (3, .int v2), (4, .int v3), (5, .int v4), (6, .ref o)] [.ref q] (lwQ G C' Mo o w) (4 - 4) (140 - 140) (fun r h' => r = .inl (some (.int 2)) ∧ lwQ G C' Mo o w h') := by
    intro q
    refine w_astore d_Lw_item_23 (by first | rfl | exact vIsR_rf _) (by decide) rfl ?_
    refine w_iconst (v := 2) d_Lw_item_25 (by decide) ?_
    refine w_iret d_Lw_item_26 rfl rfl ?_
    exact fun h hW => ⟨rfl, hW⟩
  refine w_aload d_Lw_item_0 rfl (by first | rfl | exact vIsR_rf _) ?_
  refine w_iconst (v := 0) d_Lw_item_2 (by decide) ?_
  refine w_aload_n d_Lw_item_3 rfl (by first | rfl | exact vIsR_rf _) ?_
  refine w_iload_n d_Lw_item_4 rfl ?_
  refine w_iload_n d_Lw_item_5 rfl ?_
  refine w_iload_n d_Lw_item_6 rfl ?_
  refine w_iload d_Lw_item_7 rfl ?_
  refine w_iload d_Lw_item_9 rfl ?_
  refine w_clsX (M1 := M_Cs_item) (ci := 7) (As := [.int v0, .int v1, .int v2, .int v3, .int v4]) (st := [.int 0, .ref o]) (fr1 := 42) (lo1 := 1010) (mc1 := 4) (ms1 := 140) d_Lw_item_11 hb rfl km_Lw_21 kI_Cs_item ks_Cs_Cs_item ⟨by decide, (by intro v hv; simp only [List.mem_cons, List.not_mem_nil, or_false] at hv; rcases hv with rfl | rfl | rfl | rfl | rfl | rfl <;> rfl), Nat.le_of_ble_eq_true rfl, kM_Cs_item, ki_Cs, by decide, by decide, Nat.le_of_ble_eq_true rfl, by decide, by decide⟩ (show _ = some 5 from by decide +kernel) rfl hV (fun h' hl => Or.inr ⟨[(0, 16, 19, 13)], (0, 16, 23, 15), [], rfl, (fun z hz => by simp only [List.mem_cons, List.not_mem_nil, or_false] at hz; rcases hz with rfl; exact Or.inr ⟨by decide, "java/lang/IllegalArgumentException", kc_Lw_13, List.mem_of_getElem? (i := 0) rfl⟩), rfl, by decide, ⟨"java/lang/IllegalStateException", kc_Lw_15, kx_Is_Is⟩, fun q => hk q h' hl⟩)
theorem h_keep_ok {v0 v1 : Int32} (hb : cAt C 7 x) (hV : ∀ hc, C hc → V G M_Cs_keep 42 1010 0 (vArgs 0 (.ref x :: [.int v0, .int v1])) [] hc 4 140 (fun r h' => r = .inl none ∧ C' h')) : VW G M_Lw_keep 43 1050 0 [(0, .ref x), (1, .int v0), (2, .int v1)] [] (lwQ G C Mo o w) 4 140 (fun r h' => r = .inl (some (.int 0)) ∧ lwQ G C' Mo o w h') := by
  refine w_aload_n d_Lw_keep_0 rfl (by first | rfl | exact vIsR_rf _) ?_
  refine w_iload_n d_Lw_keep_1 rfl ?_
  refine w_iload_n d_Lw_keep_2 rfl ?_
  refine w_clsR (M1 := M_Cs_keep) (ci := 7) (As := [.int v0, .int v1]) (st := []) (fr1 := 42) (lo1 := 1010) (mc1 := 4) (ms1 := 140) d_Lw_keep_3 hb rfl km_Lw_25 kI_Cs_keep ks_Cs_Cs_keep ⟨by decide, (by intro v hv; simp only [List.mem_cons, List.not_mem_nil, or_false] at hv; rcases hv with rfl | rfl | rfl <;> rfl), Nat.le_of_ble_eq_true rfl, kM_Cs_keep, ki_Cs, by decide, by decide, Nat.le_of_ble_eq_true rfl, by decide, by decide⟩ (show _ = some 2 from by decide +kernel) rfl hV ?_
  refine w_goto (tgt := 12) d_Lw_keep_6 (by decide) ?_
  refine w_iconst (v := 0) d_Lw_keep_12 (by decide) ?_
  refine w_iret d_Lw_keep_13 rfl rfl ?_
  exact fun h hW => ⟨rfl, hW⟩
theorem h_keep_x1 {v0 v1 : Int32} (hb : cAt C 7 x) (hV : ∀ hc, C hc → V G M_Cs_keep 42 1010 0 (vArgs 0 (.ref x :: [.int v0, .int v1])) [] hc 4 140 (fun r h' => r = .inr eIa ∧ C' h')) : VW G M_Lw_keep 43 1050 0 [(0, .ref x), (1, .int v0), (2, .int v1)] [] (lwQ G C Mo o w) 4 140 (fun r h' => r = .inl (some (.int 1)) ∧ lwQ G C' Mo o w h') := by
  have hk : ∀ q, VW G M_Lw_keep 43 1050 9 [(0, .ref x), (1, .int v0), (2, .int v1)] [.ref q] (lwQ G C' Mo o w) (4 - 4) (140 - 140) (fun r h' => r = .inl (some (.int 1)) ∧ lwQ G C' Mo o w h') := by
    intro q
    refine w_astore_n d_Lw_keep_9 (by first | rfl | exact vIsR_rf _) (by decide) rfl ?_
    refine w_iconst (v := 1) d_Lw_keep_10 (by decide) ?_
    refine w_iret d_Lw_keep_11 rfl rfl ?_
    exact fun h hW => ⟨rfl, hW⟩
  refine w_aload_n d_Lw_keep_0 rfl (by first | rfl | exact vIsR_rf _) ?_
  refine w_iload_n d_Lw_keep_1 rfl ?_
  refine w_iload_n d_Lw_keep_2 rfl ?_
  refine w_clsX (M1 := M_Cs_keep) (ci := 7) (As := [.int v0, .int v1]) (st := []) (fr1 := 42) (lo1 := 1010) (mc1 := 4) (ms1 := 140) d_Lw_keep_3 hb rfl km_Lw_25 kI_Cs_keep ks_Cs_Cs_keep ⟨by decide, (by intro v hv; simp only [List.mem_cons, List.not_mem_nil, or_false] at hv; rcases hv with rfl | rfl | rfl <;> rfl), Nat.le_of_ble_eq_true rfl, kM_Cs_keep, ki_Cs, by decide, by decide, Nat.le_of_ble_eq_true rfl, by decide, by decide⟩ (show _ = some 2 from by decide +kernel) rfl hV (fun h' hl => Or.inr ⟨[], (0, 6, 9, 13), [], rfl, (fun z hz => nomatch hz), rfl, by decide, ⟨"java/lang/IllegalArgumentException", kc_Lw_13, kx_Ia_Ia⟩, fun q => hk q h' hl⟩)
theorem h_run_ok {a : Int32} {v0 v1 v2 : Int32} (hb : cAt C 7 x) (hV : ∀ hc, C hc → V G M_Cs_run 42 1010 0 (vArgs 0 (.ref x :: [.int v0, .int v1, .int v2])) [] hc 4 140 (fun r h' => r = .inl (some (.int a)) ∧ C' h')) : VW G M_Lw_run 43 1050 0 [(0, .ref x), (1, .int v0), (2, .int v1), (3, .int v2), (4, .ref o)] [] (lwQ G C Mo o w) 4 140 (fun r h' => r = .inl (some (.int 0)) ∧ lwQ G C' Mo o (vp_updL w 0 a.toInt64) h') := by
  refine w_aload d_Lw_run_0 rfl (by first | rfl | exact vIsR_rf _) ?_
  refine w_iconst (v := 0) d_Lw_run_2 (by decide) ?_
  refine w_aload_n d_Lw_run_3 rfl (by first | rfl | exact vIsR_rf _) ?_
  refine w_iload_n d_Lw_run_4 rfl ?_
  refine w_iload_n d_Lw_run_5 rfl ?_
  refine w_iload_n d_Lw_run_6 rfl ?_
  refine w_clsR (M1 := M_Cs_run) (ci := 7) (As := [.int v0, .int v1, .int v2]) (st := [.int 0, .ref o]) (fr1 := 42) (lo1 := 1010) (mc1 := 4) (ms1 := 140) d_Lw_run_7 hb rfl km_Lw_29 kI_Cs_run ks_Cs_Cs_run ⟨by decide, (by intro v hv; simp only [List.mem_cons, List.not_mem_nil, or_false] at hv; rcases hv with rfl | rfl | rfl | rfl <;> rfl), Nat.le_of_ble_eq_true rfl, kM_Cs_run, ki_Cs, by decide, by decide, Nat.le_of_ble_eq_true rfl, by decide, by decide⟩ (show _ = some 3 from by decide +kernel) rfl hV ?_
  refine w_i2l d_Lw_run_10 ?_
  refine w_last d_Lw_run_11 ?_
  refine w_goto (tgt := 27) d_Lw_run_12 (by decide) ?_
  refine w_iconst (v := 0) d_Lw_run_27 (by decide) ?_
  refine w_iret d_Lw_run_28 rfl rfl ?_
  exact fun h hW => ⟨rfl, hW⟩
theorem h_run_x1 {v0 v1 v2 : Int32} (hb : cAt C 7 x) (hV : ∀ hc, C hc → V G M_Cs_run 42 1010 0 (vArgs 0 (.ref x :: [.int v0, .int v1, .int v2])) [] hc 4 140 (fun r h' => r = .inr eIa ∧ C' h')) : VW G M_Lw_run 43 1050 0 [(0, .ref x), (1, .int v0), (2, .int v1), (3, .int v2), (4, .ref o)] [] (lwQ G C Mo o w) 4 140 (fun r h' => r = .inl (some (.int 1)) ∧ lwQ G C' Mo o w h') := by
  have hk : ∀ q, VW G M_Lw_run 43 1050 15 [(0, .ref x), (1, .int v0), (2, .int v1), (3, .int v2), (4, .ref o)] [.ref q] (lwQ G C' Mo o w) (4 - 4) (140 - 140) (fun r h' => r = .inl (some (.int 1)) ∧ lwQ G C' Mo o w h') := by
    intro q
    refine w_astore d_Lw_run_15 (by first | rfl | exact vIsR_rf _) (by decide) rfl ?_
    refine w_iconst (v := 1) d_Lw_run_17 (by decide) ?_
    refine w_iret d_Lw_run_18 rfl rfl ?_
    exact fun h hW => ⟨rfl, hW⟩
  refine w_aload d_Lw_run_0 rfl (by first | rfl | exact vIsR_rf _) ?_
  refine w_iconst (v := 0) d_Lw_run_2 (by decide) ?_
  refine w_aload_n d_Lw_run_3 rfl (by first | rfl | exact vIsR_rf _) ?_
  refine w_iload_n d_Lw_run_4 rfl ?_
  refine w_iload_n d_Lw_run_5 rfl ?_
  refine w_iload_n d_Lw_run_6 rfl ?_
  refine w_clsX (M1 := M_Cs_run) (ci := 7) (As := [.int v0, .int v1, .int v2]) (st := [.int 0, .ref o]) (fr1 := 42) (lo1 := 1010) (mc1 := 4) (ms1 := 140) d_Lw_run_7 hb rfl km_Lw_29 kI_Cs_run ks_Cs_Cs_run ⟨by decide, (by intro v hv; simp only [List.mem_cons, List.not_mem_nil, or_false] at hv; rcases hv with rfl | rfl | rfl | rfl <;> rfl), Nat.le_of_ble_eq_true rfl, kM_Cs_run, ki_Cs, by decide, by decide, Nat.le_of_ble_eq_true rfl, by decide, by decide⟩ (show _ = some 3 from by decide +kernel) rfl hV (fun h' hl => Or.inr ⟨[], (0, 12, 15, 13), [(0, 12, 19, 32), (0, 12, 23, 15)], rfl, (fun z hz => nomatch hz), rfl, by decide, ⟨"java/lang/IllegalArgumentException", kc_Lw_13, kx_Ia_Ia⟩, fun q => hk q h' hl⟩)
theorem h_run_x2 {v0 v1 v2 : Int32} (hb : cAt C 7 x) (hV : ∀ hc, C hc → V G M_Cs_run 42 1010 0 (vArgs 0 (.ref x :: [.int v0, .int v1, .int v2])) [] hc 4 140 (fun r h' => r = .inr eNs ∧ C' h')) : VW G M_Lw_run 43 1050 0 [(0, .ref x), (1, .int v0), (2, .int v1), (3, .int v2), (4, .ref o)] [] (lwQ G C Mo o w) 4 140 (fun r h' => r = .inl (some (.int 2)) ∧ lwQ G C' Mo o w h') := by
  have hk : ∀ q, VW G M_Lw_run 43 1050 19 [(0, .ref x), (1, .int v0), (2, .int v1), (3, .int v2), (4, .ref o)] [.ref q] (lwQ G C' Mo o w) (4 - 4) (140 - 140) (fun r h' => r = .inl (some (.int 2)) ∧ lwQ G C' Mo o w h') := by
    intro q
    refine w_astore d_Lw_run_19 (by first | rfl | exact vIsR_rf _) (by decide) rfl ?_
    refine w_iconst (v := 2) d_Lw_run_21 (by decide) ?_
    refine w_iret d_Lw_run_22 rfl rfl ?_
    exact fun h hW => ⟨rfl, hW⟩
  refine w_aload d_Lw_run_0 rfl (by first | rfl | exact vIsR_rf _) ?_
  refine w_iconst (v := 0) d_Lw_run_2 (by decide) ?_
  refine w_aload_n d_Lw_run_3 rfl (by first | rfl | exact vIsR_rf _) ?_
  refine w_iload_n d_Lw_run_4 rfl ?_
  refine w_iload_n d_Lw_run_5 rfl ?_
  refine w_iload_n d_Lw_run_6 rfl ?_
  refine w_clsX (M1 := M_Cs_run) (ci := 7) (As := [.int v0, .int v1, .int v2]) (st := [.int 0, .ref o]) (fr1 := 42) (lo1 := 1010) (mc1 := 4) (ms1 := 140) d_Lw_run_7 hb rfl km_Lw_29 kI_Cs_run ks_Cs_Cs_run ⟨by decide, (by intro v hv; simp only [List.mem_cons, List.not_mem_nil, or_false] at hv; rcases hv with rfl | rfl | rfl | rfl <;> rfl), Nat.le_of_ble_eq_true rfl, kM_Cs_run, ki_Cs, by decide, by decide, Nat.le_of_ble_eq_true rfl, by decide, by decide⟩ (show _ = some 3 from by decide +kernel) rfl hV (fun h' hl => Or.inr ⟨[(0, 12, 15, 13)], (0, 12, 19, 32), [(0, 12, 23, 15)], rfl, (fun z hz => by simp only [List.mem_cons, List.not_mem_nil, or_false] at hz; rcases hz with rfl; exact Or.inr ⟨by decide, "java/lang/IllegalArgumentException", kc_Lw_13, List.mem_of_getElem? (i := 1) rfl⟩), rfl, by decide, ⟨"java/util/NoSuchElementException", kc_Lw_32, kx_Ns_Ns⟩, fun q => hk q h' hl⟩)
theorem h_run_x3 {v0 v1 v2 : Int32} (hb : cAt C 7 x) (hV : ∀ hc, C hc → V G M_Cs_run 42 1010 0 (vArgs 0 (.ref x :: [.int v0, .int v1, .int v2])) [] hc 4 140 (fun r h' => r = .inr eIs ∧ C' h')) : VW G M_Lw_run 43 1050 0 [(0, .ref x), (1, .int v0), (2, .int v1), (3, .int v2), (4, .ref o)] [] (lwQ G C Mo o w) 4 140 (fun r h' => r = .inl (some (.int 3)) ∧ lwQ G C' Mo o w h') := by
  have hk : ∀ q, VW G M_Lw_run 43 1050 23 [(0, .ref x), (1, .int v0), (2, .int v1), (3, .int v2), (4, .ref o)] [.ref q] (lwQ G C' Mo o w) (4 - 4) (140 - 140) (fun r h' => r = .inl (some (.int 3)) ∧ lwQ G C' Mo o w h') := by
    intro q
    refine w_astore d_Lw_run_23 (by first | rfl | exact vIsR_rf _) (by decide) rfl ?_
    refine w_iconst (v := 3) d_Lw_run_25 (by decide) ?_
    refine w_iret d_Lw_run_26 rfl rfl ?_
    exact fun h hW => ⟨rfl, hW⟩
  refine w_aload d_Lw_run_0 rfl (by first | rfl | exact vIsR_rf _) ?_
  refine w_iconst (v := 0) d_Lw_run_2 (by decide) ?_
  refine w_aload_n d_Lw_run_3 rfl (by first | rfl | exact vIsR_rf _) ?_
  refine w_iload_n d_Lw_run_4 rfl ?_
  refine w_iload_n d_Lw_run_5 rfl ?_
  refine w_iload_n d_Lw_run_6 rfl ?_
  refine w_clsX (M1 := M_Cs_run) (ci := 7) (As := [.int v0, .int v1, .int v2]) (st := [.int 0, .ref o]) (fr1 := 42) (lo1 := 1010) (mc1 := 4) (ms1 := 140) d_Lw_run_7 hb rfl km_Lw_29 kI_Cs_run ks_Cs_Cs_run ⟨by decide, (by intro v hv; simp only [List.mem_cons, List.not_mem_nil, or_false] at hv; rcases hv with rfl | rfl | rfl | rfl <;> rfl), Nat.le_of_ble_eq_true rfl, kM_Cs_run, ki_Cs, by decide, by decide, Nat.le_of_ble_eq_true rfl, by decide, by decide⟩ (show _ = some 3 from by decide +kernel) rfl hV (fun h' hl => Or.inr ⟨[(0, 12, 15, 13), (0, 12, 19, 32)], (0, 12, 23, 15), [], rfl, (fun z hz => by simp only [List.mem_cons, List.not_mem_nil, or_false] at hz; rcases hz with rfl | rfl; exact Or.inr ⟨by decide, "java/lang/IllegalArgumentException", kc_Lw_13, List.mem_of_getElem? (i := 0) rfl⟩; exact Or.inr ⟨by decide, "java/util/NoSuchElementException", kc_Lw_32, List.mem_of_getElem? (i := 5) rfl⟩), rfl, by decide, ⟨"java/lang/IllegalStateException", kc_Lw_15, kx_Is_Is⟩, fun q => hk q h' hl⟩)
theorem h_told_ok {a : Int32} {v0 v1 : Int32} (hb : cAt C 7 x) (hV : ∀ hc, C hc → V G M_Cs_told 42 1010 0 (vArgs 0 (.ref x :: [.int v0, .int v1])) [] hc 4 140 (fun r h' => r = .inl (some (.int a)) ∧ C' h')) : VW G M_Lw_told 43 1050 0 [(0, .ref x), (1, .int v0), (2, .int v1), (3, .ref o)] [] (lwQ G C Mo o w) 4 140 (fun r h' => r = .inl (some (.int 0)) ∧ lwQ G C' Mo o (vp_updL w 0 a.toInt64) h') := by
  refine w_aload_n d_Lw_told_0 rfl (by first | rfl | exact vIsR_rf _) ?_
  refine w_iconst (v := 0) d_Lw_told_1 (by decide) ?_
  refine w_aload_n d_Lw_told_2 rfl (by first | rfl | exact vIsR_rf _) ?_
  refine w_iload_n d_Lw_told_3 rfl ?_
  refine w_iload_n d_Lw_told_4 rfl ?_
  refine w_clsR (M1 := M_Cs_told) (ci := 7) (As := [.int v0, .int v1]) (st := [.int 0, .ref o]) (fr1 := 42) (lo1 := 1010) (mc1 := 4) (ms1 := 140) d_Lw_told_5 hb rfl km_Lw_34 kI_Cs_told ks_Cs_Cs_told ⟨by decide, (by intro v hv; simp only [List.mem_cons, List.not_mem_nil, or_false] at hv; rcases hv with rfl | rfl | rfl <;> rfl), Nat.le_of_ble_eq_true rfl, kM_Cs_told, ki_Cs, by decide, by decide, Nat.le_of_ble_eq_true rfl, by decide, by decide⟩ (show _ = some 2 from by decide +kernel) rfl hV ?_
  refine w_i2l d_Lw_told_8 ?_
  refine w_last d_Lw_told_9 ?_
  refine w_goto (tgt := 17) d_Lw_told_10 (by decide) ?_
  refine w_iconst (v := 0) d_Lw_told_17 (by decide) ?_
  refine w_iret d_Lw_told_18 rfl rfl ?_
  exact fun h hW => ⟨rfl, hW⟩
theorem h_told_x1 {v0 v1 : Int32} (hb : cAt C 7 x) (hV : ∀ hc, C hc → V G M_Cs_told 42 1010 0 (vArgs 0 (.ref x :: [.int v0, .int v1])) [] hc 4 140 (fun r h' => r = .inr eIa ∧ C' h')) : VW G M_Lw_told 43 1050 0 [(0, .ref x), (1, .int v0), (2, .int v1), (3, .ref o)] [] (lwQ G C Mo o w) 4 140 (fun r h' => r = .inl (some (.int 1)) ∧ lwQ G C' Mo o w h') := by
  have hk : ∀ q, VW G M_Lw_told 43 1050 13 [(0, .ref x), (1, .int v0), (2, .int v1), (3, .ref o)] [.ref q] (lwQ G C' Mo o w) (4 - 4) (140 - 140) (fun r h' => r = .inl (some (.int 1)) ∧ lwQ G C' Mo o w h') := by
    intro q
    refine w_astore d_Lw_told_13 (by first | rfl | exact vIsR_rf _) (by decide) rfl ?_
    refine w_iconst (v := 1) d_Lw_told_15 (by decide) ?_
    refine w_iret d_Lw_told_16 rfl rfl ?_
    exact fun h hW => ⟨rfl, hW⟩
  refine w_aload_n d_Lw_told_0 rfl (by first | rfl | exact vIsR_rf _) ?_
  refine w_iconst (v := 0) d_Lw_told_1 (by decide) ?_
  refine w_aload_n d_Lw_told_2 rfl (by first | rfl | exact vIsR_rf _) ?_
  refine w_iload_n d_Lw_told_3 rfl ?_
  refine w_iload_n d_Lw_told_4 rfl ?_
  refine w_clsX (M1 := M_Cs_told) (ci := 7) (As := [.int v0, .int v1]) (st := [.int 0, .ref o]) (fr1 := 42) (lo1 := 1010) (mc1 := 4) (ms1 := 140) d_Lw_told_5 hb rfl km_Lw_34 kI_Cs_told ks_Cs_Cs_told ⟨by decide, (by intro v hv; simp only [List.mem_cons, List.not_mem_nil, or_false] at hv; rcases hv with rfl | rfl | rfl <;> rfl), Nat.le_of_ble_eq_true rfl, kM_Cs_told, ki_Cs, by decide, by decide, Nat.le_of_ble_eq_true rfl, by decide, by decide⟩ (show _ = some 2 from by decide +kernel) rfl hV (fun h' hl => Or.inr ⟨[], (0, 10, 13, 13), [], rfl, (fun z hz => nomatch hz), rfl, by decide, ⟨"java/lang/IllegalArgumentException", kc_Lw_13, kx_Ia_Ia⟩, fun q => hk q h' hl⟩)
theorem h_inside_ok {a : Int32} {v0 v1 v2 : Int32} (hb : cAt C 7 x) (hV : ∀ hc, C hc → V G M_Cs_inside 42 1010 0 (vArgs 0 (.ref x :: [.int v0, .int v1, .int v2])) [] hc 4 140 (fun r h' => r = .inl (some (.int a)) ∧ C' h')) : VW G M_Lw_inside 43 1050 0 [(0, .ref x), (1, .int v0), (2, .int v1), (3, .int v2), (4, .ref o)] [] (lwQ G C Mo o w) 4 140 (fun r h' => r = .inl (some (.int 0)) ∧ lwQ G C' Mo o (vp_updL w 0 a.toInt64) h') := by
  refine w_aload d_Lw_inside_0 rfl (by first | rfl | exact vIsR_rf _) ?_
  refine w_iconst (v := 0) d_Lw_inside_2 (by decide) ?_
  refine w_aload_n d_Lw_inside_3 rfl (by first | rfl | exact vIsR_rf _) ?_
  refine w_iload_n d_Lw_inside_4 rfl ?_
  refine w_iload_n d_Lw_inside_5 rfl ?_
  refine w_iload_n d_Lw_inside_6 rfl ?_
  refine w_clsR (M1 := M_Cs_inside) (ci := 7) (As := [.int v0, .int v1, .int v2]) (st := [.int 0, .ref o]) (fr1 := 42) (lo1 := 1010) (mc1 := 4) (ms1 := 140) d_Lw_inside_7 hb rfl km_Lw_38 kI_Cs_inside ks_Cs_Cs_inside ⟨by decide, (by intro v hv; simp only [List.mem_cons, List.not_mem_nil, or_false] at hv; rcases hv with rfl | rfl | rfl | rfl <;> rfl), Nat.le_of_ble_eq_true rfl, kM_Cs_inside, ki_Cs, by decide, by decide, Nat.le_of_ble_eq_true rfl, by decide, by decide⟩ (show _ = some 3 from by decide +kernel) rfl hV ?_
  refine w_i2l d_Lw_inside_10 ?_
  refine w_last d_Lw_inside_11 ?_
  refine w_goto (tgt := 23) d_Lw_inside_12 (by decide) ?_
  refine w_iconst (v := 0) d_Lw_inside_23 (by decide) ?_
  refine w_iret d_Lw_inside_24 rfl rfl ?_
  exact fun h hW => ⟨rfl, hW⟩
theorem h_inside_x1 {v0 v1 v2 : Int32} (hb : cAt C 7 x) (hV : ∀ hc, C hc → V G M_Cs_inside 42 1010 0 (vArgs 0 (.ref x :: [.int v0, .int v1, .int v2])) [] hc 4 140 (fun r h' => r = .inr eIa ∧ C' h')) : VW G M_Lw_inside 43 1050 0 [(0, .ref x), (1, .int v0), (2, .int v1), (3, .int v2), (4, .ref o)] [] (lwQ G C Mo o w) 4 140 (fun r h' => r = .inl (some (.int 1)) ∧ lwQ G C' Mo o w h') := by
  have hk : ∀ q, VW G M_Lw_inside 43 1050 15 [(0, .ref x), (1, .int v0), (2, .int v1), (3, .int v2), (4, .ref o)] [.ref q] (lwQ G C' Mo o w) (4 - 4) (140 - 140) (fun r h' => r = .inl (some (.int 1)) ∧ lwQ G C' Mo o w h') := by
    intro q
    refine w_astore d_Lw_inside_15 (by first | rfl | exact vIsR_rf _) (by decide) rfl ?_
    refine w_iconst (v := 1) d_Lw_inside_17 (by decide) ?_
    refine w_iret d_Lw_inside_18 rfl rfl ?_
    exact fun h hW => ⟨rfl, hW⟩
  refine w_aload d_Lw_inside_0 rfl (by first | rfl | exact vIsR_rf _) ?_
  refine w_iconst (v := 0) d_Lw_inside_2 (by decide) ?_
  refine w_aload_n d_Lw_inside_3 rfl (by first | rfl | exact vIsR_rf _) ?_
  refine w_iload_n d_Lw_inside_4 rfl ?_
  refine w_iload_n d_Lw_inside_5 rfl ?_
  refine w_iload_n d_Lw_inside_6 rfl ?_
  refine w_clsX (M1 := M_Cs_inside) (ci := 7) (As := [.int v0, .int v1, .int v2]) (st := [.int 0, .ref o]) (fr1 := 42) (lo1 := 1010) (mc1 := 4) (ms1 := 140) d_Lw_inside_7 hb rfl km_Lw_38 kI_Cs_inside ks_Cs_Cs_inside ⟨by decide, (by intro v hv; simp only [List.mem_cons, List.not_mem_nil, or_false] at hv; rcases hv with rfl | rfl | rfl | rfl <;> rfl), Nat.le_of_ble_eq_true rfl, kM_Cs_inside, ki_Cs, by decide, by decide, Nat.le_of_ble_eq_true rfl, by decide, by decide⟩ (show _ = some 3 from by decide +kernel) rfl hV (fun h' hl => Or.inr ⟨[], (0, 12, 15, 13), [(0, 12, 19, 32)], rfl, (fun z hz => nomatch hz), rfl, by decide, ⟨"java/lang/IllegalArgumentException", kc_Lw_13, kx_Ia_Ia⟩, fun q => hk q h' hl⟩)
theorem h_inside_x2 {v0 v1 v2 : Int32} (hb : cAt C 7 x) (hV : ∀ hc, C hc → V G M_Cs_inside 42 1010 0 (vArgs 0 (.ref x :: [.int v0, .int v1, .int v2])) [] hc 4 140 (fun r h' => r = .inr eNs ∧ C' h')) : VW G M_Lw_inside 43 1050 0 [(0, .ref x), (1, .int v0), (2, .int v1), (3, .int v2), (4, .ref o)] [] (lwQ G C Mo o w) 4 140 (fun r h' => r = .inl (some (.int 2)) ∧ lwQ G C' Mo o w h') := by
  have hk : ∀ q, VW G M_Lw_inside 43 1050 19 [(0, .ref x), (1, .int v0), (2, .int v1), (3, .int v2), (4, .ref o)] [.ref q] (lwQ G C' Mo o w) (4 - 4) (140 - 140) (fun r h' => r = .inl (some (.int 2)) ∧ lwQ G C' Mo o w h') := by
    intro q
    refine w_astore d_Lw_inside_19 (by first | rfl | exact vIsR_rf _) (by decide) rfl ?_
    refine w_iconst (v := 2) d_Lw_inside_21 (by decide) ?_
    refine w_iret d_Lw_inside_22 rfl rfl ?_
    exact fun h hW => ⟨rfl, hW⟩
  refine w_aload d_Lw_inside_0 rfl (by first | rfl | exact vIsR_rf _) ?_
  refine w_iconst (v := 0) d_Lw_inside_2 (by decide) ?_
  refine w_aload_n d_Lw_inside_3 rfl (by first | rfl | exact vIsR_rf _) ?_
  refine w_iload_n d_Lw_inside_4 rfl ?_
  refine w_iload_n d_Lw_inside_5 rfl ?_
  refine w_iload_n d_Lw_inside_6 rfl ?_
  refine w_clsX (M1 := M_Cs_inside) (ci := 7) (As := [.int v0, .int v1, .int v2]) (st := [.int 0, .ref o]) (fr1 := 42) (lo1 := 1010) (mc1 := 4) (ms1 := 140) d_Lw_inside_7 hb rfl km_Lw_38 kI_Cs_inside ks_Cs_Cs_inside ⟨by decide, (by intro v hv; simp only [List.mem_cons, List.not_mem_nil, or_false] at hv; rcases hv with rfl | rfl | rfl | rfl <;> rfl), Nat.le_of_ble_eq_true rfl, kM_Cs_inside, ki_Cs, by decide, by decide, Nat.le_of_ble_eq_true rfl, by decide, by decide⟩ (show _ = some 3 from by decide +kernel) rfl hV (fun h' hl => Or.inr ⟨[(0, 12, 15, 13)], (0, 12, 19, 32), [], rfl, (fun z hz => by simp only [List.mem_cons, List.not_mem_nil, or_false] at hz; rcases hz with rfl; exact Or.inr ⟨by decide, "java/lang/IllegalArgumentException", kc_Lw_13, List.mem_of_getElem? (i := 1) rfl⟩), rfl, by decide, ⟨"java/util/NoSuchElementException", kc_Lw_32, kx_Ns_Ns⟩, fun q => hk q h' hl⟩)
theorem h_trace_ok {a : Int32} {v0 v1 v2 : Int32} (hb : cAt C 7 x) (hV : ∀ hc, C hc → V G M_Cs_trace 42 1010 0 (vArgs 0 (.ref x :: [.int v0, .int v1, .int v2])) [] hc 4 140 (fun r h' => r = .inl (some (.int a)) ∧ C' h')) : VW G M_Lw_trace 43 1050 0 [(0, .ref x), (1, .int v0), (2, .int v1), (3, .int v2), (4, .ref o)] [] (lwQ G C Mo o w) 4 140 (fun r h' => r = .inl (some (.int 0)) ∧ lwQ G C' Mo o (vp_updL w 0 a.toInt64) h') := by
  refine w_aload d_Lw_trace_0 rfl (by first | rfl | exact vIsR_rf _) ?_
  refine w_iconst (v := 0) d_Lw_trace_2 (by decide) ?_
  refine w_aload_n d_Lw_trace_3 rfl (by first | rfl | exact vIsR_rf _) ?_
  refine w_iload_n d_Lw_trace_4 rfl ?_
  refine w_iload_n d_Lw_trace_5 rfl ?_
  refine w_iload_n d_Lw_trace_6 rfl ?_
  refine w_clsR (M1 := M_Cs_trace) (ci := 7) (As := [.int v0, .int v1, .int v2]) (st := [.int 0, .ref o]) (fr1 := 42) (lo1 := 1010) (mc1 := 4) (ms1 := 140) d_Lw_trace_7 hb rfl km_Lw_41 kI_Cs_trace ks_Cs_Cs_trace ⟨by decide, (by intro v hv; simp only [List.mem_cons, List.not_mem_nil, or_false] at hv; rcases hv with rfl | rfl | rfl | rfl <;> rfl), Nat.le_of_ble_eq_true rfl, kM_Cs_trace, ki_Cs, by decide, by decide, Nat.le_of_ble_eq_true rfl, by decide, by decide⟩ (show _ = some 3 from by decide +kernel) rfl hV ?_
  refine w_i2l d_Lw_trace_10 ?_
  refine w_last d_Lw_trace_11 ?_
  refine w_goto (tgt := 23) d_Lw_trace_12 (by decide) ?_
  refine w_iconst (v := 0) d_Lw_trace_23 (by decide) ?_
  refine w_iret d_Lw_trace_24 rfl rfl ?_
  exact fun h hW => ⟨rfl, hW⟩
theorem h_trace_x1 {v0 v1 v2 : Int32} (hb : cAt C 7 x) (hV : ∀ hc, C hc → V G M_Cs_trace 42 1010 0 (vArgs 0 (.ref x :: [.int v0, .int v1, .int v2])) [] hc 4 140 (fun r h' => r = .inr eIa ∧ C' h')) : VW G M_Lw_trace 43 1050 0 [(0, .ref x), (1, .int v0), (2, .int v1), (3, .int v2), (4, .ref o)] [] (lwQ G C Mo o w) 4 140 (fun r h' => r = .inl (some (.int 1)) ∧ lwQ G C' Mo o w h') := by
  have hk : ∀ q, VW G M_Lw_trace 43 1050 15 [(0, .ref x), (1, .int v0), (2, .int v1), (3, .int v2), (4, .ref o)] [.ref q] (lwQ G C' Mo o w) (4 - 4) (140 - 140) (fun r h' => r = .inl (some (.int 1)) ∧ lwQ G C' Mo o w h') := by
    intro q
    refine w_astore d_Lw_trace_15 (by first | rfl | exact vIsR_rf _) (by decide) rfl ?_
    refine w_iconst (v := 1) d_Lw_trace_17 (by decide) ?_
    refine w_iret d_Lw_trace_18 rfl rfl ?_
    exact fun h hW => ⟨rfl, hW⟩
  refine w_aload d_Lw_trace_0 rfl (by first | rfl | exact vIsR_rf _) ?_
  refine w_iconst (v := 0) d_Lw_trace_2 (by decide) ?_
  refine w_aload_n d_Lw_trace_3 rfl (by first | rfl | exact vIsR_rf _) ?_
  refine w_iload_n d_Lw_trace_4 rfl ?_
  refine w_iload_n d_Lw_trace_5 rfl ?_
  refine w_iload_n d_Lw_trace_6 rfl ?_
  refine w_clsX (M1 := M_Cs_trace) (ci := 7) (As := [.int v0, .int v1, .int v2]) (st := [.int 0, .ref o]) (fr1 := 42) (lo1 := 1010) (mc1 := 4) (ms1 := 140) d_Lw_trace_7 hb rfl km_Lw_41 kI_Cs_trace ks_Cs_Cs_trace ⟨by decide, (by intro v hv; simp only [List.mem_cons, List.not_mem_nil, or_false] at hv; rcases hv with rfl | rfl | rfl | rfl <;> rfl), Nat.le_of_ble_eq_true rfl, kM_Cs_trace, ki_Cs, by decide, by decide, Nat.le_of_ble_eq_true rfl, by decide, by decide⟩ (show _ = some 3 from by decide +kernel) rfl hV (fun h' hl => Or.inr ⟨[], (0, 12, 15, 13), [(0, 12, 19, 32)], rfl, (fun z hz => nomatch hz), rfl, by decide, ⟨"java/lang/IllegalArgumentException", kc_Lw_13, kx_Ia_Ia⟩, fun q => hk q h' hl⟩)
theorem h_trace_x2 {v0 v1 v2 : Int32} (hb : cAt C 7 x) (hV : ∀ hc, C hc → V G M_Cs_trace 42 1010 0 (vArgs 0 (.ref x :: [.int v0, .int v1, .int v2])) [] hc 4 140 (fun r h' => r = .inr eNs ∧ C' h')) : VW G M_Lw_trace 43 1050 0 [(0, .ref x), (1, .int v0), (2, .int v1), (3, .int v2), (4, .ref o)] [] (lwQ G C Mo o w) 4 140 (fun r h' => r = .inl (some (.int 2)) ∧ lwQ G C' Mo o w h') := by
  have hk : ∀ q, VW G M_Lw_trace 43 1050 19 [(0, .ref x), (1, .int v0), (2, .int v1), (3, .int v2), (4, .ref o)] [.ref q] (lwQ G C' Mo o w) (4 - 4) (140 - 140) (fun r h' => r = .inl (some (.int 2)) ∧ lwQ G C' Mo o w h') := by
    intro q
    refine w_astore d_Lw_trace_19 (by first | rfl | exact vIsR_rf _) (by decide) rfl ?_
    refine w_iconst (v := 2) d_Lw_trace_21 (by decide) ?_
    refine w_iret d_Lw_trace_22 rfl rfl ?_
    exact fun h hW => ⟨rfl, hW⟩
  refine w_aload d_Lw_trace_0 rfl (by first | rfl | exact vIsR_rf _) ?_
  refine w_iconst (v := 0) d_Lw_trace_2 (by decide) ?_
  refine w_aload_n d_Lw_trace_3 rfl (by first | rfl | exact vIsR_rf _) ?_
  refine w_iload_n d_Lw_trace_4 rfl ?_
  refine w_iload_n d_Lw_trace_5 rfl ?_
  refine w_iload_n d_Lw_trace_6 rfl ?_
  refine w_clsX (M1 := M_Cs_trace) (ci := 7) (As := [.int v0, .int v1, .int v2]) (st := [.int 0, .ref o]) (fr1 := 42) (lo1 := 1010) (mc1 := 4) (ms1 := 140) d_Lw_trace_7 hb rfl km_Lw_41 kI_Cs_trace ks_Cs_Cs_trace ⟨by decide, (by intro v hv; simp only [List.mem_cons, List.not_mem_nil, or_false] at hv; rcases hv with rfl | rfl | rfl | rfl <;> rfl), Nat.le_of_ble_eq_true rfl, kM_Cs_trace, ki_Cs, by decide, by decide, Nat.le_of_ble_eq_true rfl, by decide, by decide⟩ (show _ = some 3 from by decide +kernel) rfl hV (fun h' hl => Or.inr ⟨[(0, 12, 15, 13)], (0, 12, 19, 32), [], rfl, (fun z hz => by simp only [List.mem_cons, List.not_mem_nil, or_false] at hz; rcases hz with rfl; exact Or.inr ⟨by decide, "java/lang/IllegalArgumentException", kc_Lw_13, List.mem_of_getElem? (i := 1) rfl⟩), rfl, by decide, ⟨"java/util/NoSuchElementException", kc_Lw_32, kx_Ns_Ns⟩, fun q => hk q h' hl⟩)
end VLh
