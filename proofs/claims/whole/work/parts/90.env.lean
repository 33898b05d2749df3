/-! What holds where the law begins. -/
section VEn
theorem tb_1 {w : Cond} (i : Nat) (h : tables_1_1[i]? = some w) : w ∈ lw_tbl := List.mem_append_right _ (by have h := List.mem_of_getElem? h; exact List.mem_append_left _ h)
theorem tb_2 {w : Cond} (i : Nat) (h : tables_1_2[i]? = some w) : w ∈ lw_tbl := List.mem_append_right _ (by have h := List.mem_of_getElem? h; exact List.mem_append_right _ (List.mem_append_left _ h))
theorem tb_3 {w : Cond} (i : Nat) (h : tables_1_3[i]? = some w) : w ∈ lw_tbl := List.mem_append_right _ (by have h := List.mem_of_getElem? h; exact List.mem_append_right _ (List.mem_append_right _ (List.mem_append_left _ h)))
theorem tb_4 {w : Cond} (i : Nat) (h : tables_1_4[i]? = some w) : w ∈ lw_tbl := List.mem_append_right _ (by have h := List.mem_of_getElem? h; exact List.mem_append_right _ (List.mem_append_right _ (List.mem_append_right _ (List.mem_append_left _ h))))
theorem vT_tbl {w : Cond} (h : w ∈ vT) : w ∈ lw_tbl := (List.mem_filter.mp h).1
theorem ar_cls {s : State} {args : Array Value} {ty : FieldType} (h : (Cond.arrayClass ty).before args s = true) (hp : ∀ C, ty ≠ .object C) : ∃ cA, ArrOfT s cA ty ∧ va_RA s cA ty := by
  obtain ⟨cA, kA, comp, h1, h2, h3⟩ := Cond.arrayClass_spec h
  refine ⟨cA, fun n z => ⟨fun k h => (by cases h), kA, h2, comp, h3⟩, ?_⟩
  cases ty with
  | object C => exact absurd rfl (hp C)
  | _ => exact h1
theorem ar_obj {s : State} {args : Array Value} {C : String} (h : (Cond.arrayOver (.object C)).before args s = true) : ∃ cA, ArrOfT s cA (.object C) ∧ va_RA s cA (.object C) := by
  obtain ⟨comp, cA, kA, h1, h2, h3, h4, h5⟩ := Cond.arrayOver_spec h
  exact ⟨cA, fun n z => ⟨fun k h => (by cases h), kA, h3, comp, h4⟩, kA, comp, h3, h4, h1, h5⟩
theorem vLs_of {s : State} {args : Array Value} {C n d : String} (h : (Cond.laysStatic C n d).before args s = true) : vLs C n d (fun q => s.heap.size ≤ q) s s.heap := by
  obtain ⟨c, k, i, f, a, cell, h1, h2, h3, h4, h5, h6, h7, h8, h9⟩ := Cond.laysStatic_spec h
  exact ⟨c, k, i, f, a, cell, h1, h2, h3, h4, h5, h6, h7, h8, h9, Nat.not_le.mpr (Array.getElem?_eq_some_iff.mp h5).1⟩
theorem st_of {s : State} {args : Array Value} {own tx : String} {k : Nat} (h1 : (Cond.stringRef own k tx).before args s = true) (h2 : (Cond.exactly (.string own k) "java/lang/String").before args s = true) : ∃ sa, vk_R own k tx sa s := by
  obtain ⟨a, c, cell, kk, e1, -⟩ := Cond.exactly_spec h2
  exact ⟨a, vk_R.of h1 e1⟩
theorem nw_s0 : (Cond.exactly (.string "CodeShrinker" 193) "java/lang/String") ∈ flatC (Jvm.Cond.and given_1 narrow_1) := by decide +kernel
theorem nw_s1 : (Cond.exactly (.string "CodeShrinker" 63) "java/lang/String") ∈ flatC (Jvm.Cond.and given_1 narrow_1) := by decide +kernel
theorem nw_s2 : (Cond.exactly (.string "CodeShrinker" 94) "java/lang/String") ∈ flatC (Jvm.Cond.and given_1 narrow_1) := by decide +kernel
theorem nw_s3 : (Cond.exactly (.string "CodeShrinker" 112) "java/lang/String") ∈ flatC (Jvm.Cond.and given_1 narrow_1) := by decide +kernel
theorem nw_s4 : (Cond.exactly (.string "CodeShrinker$Runner" 24) "java/lang/String") ∈ flatC (Jvm.Cond.and given_1 narrow_1) := by decide +kernel
theorem nw_s5 : (Cond.exactly (.string "CodeShrinker$Runner" 37) "java/lang/String") ∈ flatC (Jvm.Cond.and given_1 narrow_1) := by decide +kernel
theorem nw_s6 : (Cond.exactly (.string "CodeShrinker$Runner" 62) "java/lang/String") ∈ flatC (Jvm.Cond.and given_1 narrow_1) := by decide +kernel
theorem nw_s7 : (Cond.exactly (.string "CodeShrinker" 165) "java/lang/String") ∈ flatC (Jvm.Cond.and given_1 narrow_1) := by decide +kernel
theorem nw_s8 : (Cond.exactly (.string "CodeShrinker" 174) "java/lang/String") ∈ flatC (Jvm.Cond.and given_1 narrow_1) := by decide +kernel
theorem nw_c0 : (Cond.not (.castable "java/lang/IllegalStateException" "java/lang/IllegalArgumentException")) ∈ flatC (Jvm.Cond.and given_1 narrow_1) := by decide +kernel
theorem nw_c1 : (Cond.not (.castable "java/util/NoSuchElementException" "java/lang/IllegalArgumentException")) ∈ flatC (Jvm.Cond.and given_1 narrow_1) := by decide +kernel
theorem nw_c2 : (Cond.not (.castable "java/lang/IllegalArgumentException" "java/lang/IllegalStateException")) ∈ flatC (Jvm.Cond.and given_1 narrow_1) := by decide +kernel
theorem nw_c3 : (Cond.not (.castable "java/util/NoSuchElementException" "java/lang/IllegalStateException")) ∈ flatC (Jvm.Cond.and given_1 narrow_1) := by decide +kernel
theorem nw_c4 : (Cond.not (.castable "java/lang/IllegalArgumentException" "java/util/NoSuchElementException")) ∈ flatC (Jvm.Cond.and given_1 narrow_1) := by decide +kernel
theorem nw_c5 : (Cond.not (.castable "java/lang/IllegalStateException" "java/util/NoSuchElementException")) ∈ flatC (Jvm.Cond.and given_1 narrow_1) := by decide +kernel
theorem nw_us : (Cond.isRef (.static "java/lang/Throwable" "UNASSIGNED_STACK" "[Ljava/lang/StackTraceElement;")) ∈ flatC (Jvm.Cond.and given_1 narrow_1) := by decide +kernel
theorem nw_ss : (Cond.isRef (.static "java/lang/Throwable" "SUPPRESSED_SENTINEL" "Ljava/util/List;")) ∈ flatC (Jvm.Cond.and given_1 narrow_1) := by decide +kernel
theorem nw_mi : (Cond.isRef (.mirror "[Ljava/lang/Object;")) ∈ flatC (Jvm.Cond.and given_1 narrow_1) := by decide +kernel
theorem nw_da : (Cond.arrayOf (.static "java/util/ArrayList" "DEFAULTCAPACITY_EMPTY_ELEMENTDATA" "[Ljava/lang/Object;") (.object "java/lang/Object")) ∈ flatC (Jvm.Cond.and given_1 narrow_1) := by decide +kernel
theorem nw_dl : (Cond.eq (.length (.static "java/util/ArrayList" "DEFAULTCAPACITY_EMPTY_ELEMENTDATA" "[Ljava/lang/Object;")) (.int 0)) ∈ flatC (Jvm.Cond.and given_1 narrow_1) := by decide +kernel
theorem law_env {s : State} {b L : Nat} {xs : Nat → Int32} (hts : ∀ w ∈ lw_tbl, w.before #[Value.ref b] s = true) (hX : va_X b L xs s s.heap) (hbl : b < s.heap.size) (hgv : (Jvm.Cond.and given_1 narrow_1).before #[Value.ref b] s = true) : ∃ G : vG, G.2.2.2.2 = (b, L, xs) ∧ vEnv G (fun q => s.heap.size ≤ q) s s.heap := by
  have hs := flat_of_before _ hgv
  have hA : ∀ a : Nat, a < s.heap.size → ¬ s.heap.size ≤ a := fun a h => Nat.not_le.mpr h
  have hT : ∀ w ∈ vT, w.before #[Value.ref b] s = true := fun w hw => hts w (vT_tbl hw)
  obtain ⟨c0, i0, k0⟩ := u_known (C := R_Fa) (T := F_Fa) (N := 8) hT i_Fa (hT _ kn_Fa)
  obtain ⟨c1, i1, k1⟩ := u_known (C := R_It) (T := F_It) (N := 5) hT i_It (hT _ kn_It)
  obtain ⟨c2, i2, k2⟩ := u_known (C := R_Pr) (T := F_Pr) (N := 2) hT i_Pr (hT _ kn_Pr)
  obtain ⟨c3, i3, k3⟩ := u_known (C := R_Pc) (T := F_Pc) (N := 5) hT i_Pc (hT _ kn_Pc)
  obtain ⟨c4, i4, k4⟩ := u_known (C := R_Pm) (T := F_Pm) (N := 8) hT i_Pm (hT _ kn_Pm)
  obtain ⟨c5, i5, k5⟩ := u_known (C := R_Re) (T := F_Re) (N := 2) hT i_Re (hT _ kn_Re)
  obtain ⟨c6, i6, k6⟩ := u_known (C := R_Ru) (T := F_Ru) (N := 2) hT i_Ru (hT _ kn_Ru)
  obtain ⟨c7, i7, k7⟩ := u_known (C := R_Cs) (T := F_Cs) (N := 5) hT i_Cs (hT _ kn_Cs)
  obtain ⟨c8, i8, k8⟩ := u_known (C := R_Mo) (T := F_Mo) (N := 31) hT i_Mo (hT _ kn_Mo)
  obtain ⟨c9, i9, k9⟩ := u_known (C := R_Al) (T := F_Al) (N := 3) hT i_Al (hT _ kn_Al)
  obtain ⟨a0, r0⟩ := ar_cls (hT _ kz_136) (fun C h => by cases h)
  obtain ⟨a1, r1⟩ := ar_cls (hT _ kz_137) (fun C h => by cases h)
  obtain ⟨a2, r2⟩ := ar_cls (hT _ kz_959) (fun C h => by cases h)
  have hov : (Cond.arrayOver (.object "java/lang/Object")).before #[Value.ref b] s = true := hts _ (tb_3 47 rfl)
  obtain ⟨a3, r3⟩ := ar_obj hov
  have hlz : (Cond.laysStatic "java/util/ArrayList" "DEFAULTCAPACITY_EMPTY_ELEMENTDATA" "[Ljava/lang/Object;").before #[Value.ref b] s = true := hts _ (tb_1 52 rfl)
  obtain ⟨ed, e1, e2⟩ := va_Tof (N := 0) (f := fun _ => .null) (A := fun q => s.heap.size ≤ q) (by decide) (hs _ nw_da) (Cond.eq_int (hs _ nw_dl) rfl) (fun j hj => absurd hj (Nat.not_lt_zero j)) hA
  obtain ⟨mi, hmi⟩ := va_Mi.of (hs _ nw_mi)
  have hl1 : (Cond.laysStatic Bundle.tN "UNASSIGNED_STACK" Bundle.steD).before #[Value.ref b] s = true := hts _ (tb_2 147 rfl)
  have hl2 : (Cond.laysStatic Bundle.tN "SUPPRESSED_SENTINEL" Bundle.listD).before #[Value.ref b] s = true := hts _ (tb_2 149 rfl)
  refine ⟨((fun k => [c0, c1, c2, c3, c4, c5, c6, c7, c8, c9].getD k c0, fun k => [i0, i1, i2, i3, i4, i5, i6, i7, i8, i9].getD k i0), fun k => [a0, a1, a2, a3].getD k a0, ed, mi, b, L, xs), rfl, ?_, ⟨fun k q hq => ?_, fun k q hq => ?_⟩, ?_, ⟨va_Zref hlz (hT _ ki_Al) e1 hA, e2⟩, ⟨va_Zqof hl1 (hT _ ki_Th) (hs _ nw_us) hA, vLs_of hl1⟩, ⟨va_Zqof hl2 (hT _ ki_Th) (hs _ nw_ss) hA, vLs_of hl2⟩, ?_, hmi, va_AO.of hov, ?_, hX, hbl, hA b hbl⟩
  · exact fun w hw a' => vWord (State.WarmedH.refl s) (vT_good hw) (hT w hw)
  · match k, hq with
    | 0, hq => cases hq; exact k0
    | 1, hq => cases hq; exact k1
    | 2, hq => cases hq; exact k2
    | 3, hq => cases hq; exact k3
    | 4, hq => cases hq; exact k4
    | 5, hq => cases hq; exact k5
    | 6, hq => cases hq; exact k6
    | 7, hq => cases hq; exact k7
    | 8, hq => cases hq; exact k8
    | 9, hq => cases hq; exact k9
    | k + 10, hq => exact absurd hq (by simp [vCl])
  · match k, hq with
    | 0, hq => cases hq; exact r0
    | 1, hq => cases hq; exact r1
    | 2, hq => cases hq; exact r2
    | 3, hq => cases hq; exact r3
    | k + 4, hq => exact absurd hq (by simp [vTy])
  · exact hts _ (tb_1 80 rfl)
  · intro t ht
    simp only [vStr, List.mem_cons, List.not_mem_nil, or_false] at ht
    rcases ht with rfl | rfl | rfl | rfl | rfl | rfl | rfl | rfl | rfl
    · exact st_of (hts _ (tb_2 161 rfl)) (hs _ nw_s0)
    · exact st_of (hts _ (tb_2 197 rfl)) (hs _ nw_s1)
    · exact st_of (hts _ (tb_3 67 rfl)) (hs _ nw_s2)
    · exact st_of (hts _ (tb_3 136 rfl)) (hs _ nw_s3)
    · exact st_of (hts _ (tb_3 200 rfl)) (hs _ nw_s4)
    · exact st_of (hts _ (tb_3 212 rfl)) (hs _ nw_s5)
    · exact st_of (hts _ (tb_3 226 rfl)) (hs _ nw_s6)
    · exact st_of (hts _ (tb_4 2 rfl)) (hs _ nw_s7)
    · exact st_of (hts _ (tb_4 15 rfl)) (hs _ nw_s8)
  · intro t ht
    simp only [vNo, List.mem_cons, List.not_mem_nil, or_false] at ht
    rcases ht with rfl | rfl | rfl | rfl | rfl | rfl
    · exact va_Nc.of (hs _ nw_c0)
    · exact va_Nc.of (hs _ nw_c1)
    · exact va_Nc.of (hs _ nw_c2)
    · exact va_Nc.of (hs _ nw_c3)
    · exact va_Nc.of (hs _ nw_c4)
    · exact va_Nc.of (hs _ nw_c5)
end VEn
