/-! The class: add, method, item. -/
section VC10
variable {G : vG} {M : vM} {fr lo pc mc ms : Nat} {lv : List (Nat × Value)} {st : List Value} {nc nm : Nat} {ad : Nat → Nat → Nat} {X Z : Nat → Nat → Int32} {L : Nat → Nat → List Nat} {Q : vQ} {S : sQ0}
theorem VT.s (k : VS G M fr lo pc lv st nc nm ad X Z L mc ms S) : VT G M fr lo pc lv st nc nm ad X Z L mc ms (sQ G nc nm ad S) := k
theorem VS.t (k : VT G M fr lo pc lv st nc nm ad X Z L mc ms (sQ G nc nm ad S)) : VS G M fr lo pc lv st nc nm ad X Z L mc ms S := k
theorem tv_add_go {v : Int32} (hw : nc ≤ 8) (hL : cR X nc nm L) (k : VT G M_Cs_add 9 300 18 [(0, .ref (ad 5 0)), (1, .int v)] [.int (bI (decide (v = -1) || inB v 0 (nI nc - 1)))] nc nm ad X Z L mc ms Q) : VT G M_Cs_add 9 300 0 [(0, .ref (ad 5 0)), (1, .int v)] [] nc nm ad X Z L mc ms Q := by
  by_cases e : v = -1
  · rw [decide_eq_true e, Bool.true_or] at k
    refine tv_iload_n d_Cs_add_0 rfl ?_
    refine tv_iconst (v := (-1)) d_Cs_add_1 (by decide) ?_
    refine tv_icmp_eq (tgt := 13) d_Cs_add_2 (by decide) (fun _ => ?_) (fun c => absurd (e) c)
    refine tv_iconst (v := 1) d_Cs_add_13 (by decide) ?_
    refine tv_goto (tgt := 18) d_Cs_add_14 (by decide) ?_
    exact k
  · rw [decide_eq_false e, Bool.false_or] at k
    refine tv_iload_n d_Cs_add_0 rfl ?_
    refine tv_iconst (v := (-1)) d_Cs_add_1 (by decide) ?_
    refine tv_icmp_eq (tgt := 13) d_Cs_add_2 (by decide) (fun c => absurd c (e)) (fun _ => ?_)
    refine tv_aload_n d_Cs_add_5 rfl (by first | rfl | exact vIsR_rf _) ?_
    refine tv_iload_n d_Cs_add_6 rfl ?_
    refine tv_callV1r (M1 := M_Cs_isClass) 5 0 d_Cs_add_7 rfl rfl rfl km_Cs_43 kI_Cs_isClass ks_Cs_Cs_isClass (by decide) (by first | rfl | exact vRf_cat _) (by decide) kM_Cs_isClass ki_Cs (by decide) (by decide +kernel) (c_Cs_isClass hw hL) ?_
    cases hb : inB v 0 (nI nc - 1) with
    | false =>
      rw [hb] at k
      refine tv_if_eq (tgt := 17) d_Cs_add_10 (by decide) (fun _ => ?_) (fun c => absurd (rfl) c)
      refine tv_iconst (v := 0) d_Cs_add_17 (by decide) ?_
      exact k
    | true =>
      rw [hb] at k
      refine tv_if_eq (tgt := 17) d_Cs_add_10 (by decide) (fun c => absurd c (by decide)) (fun _ => ?_)
      refine tv_iconst (v := 1) d_Cs_add_13 (by decide) ?_
      refine tv_goto (tgt := 18) d_Cs_add_14 (by decide) ?_
      exact k
theorem c_Cs_add_bad {v g : Int32} (hc : nc ≤ 8) (hL : cR X nc nm L) (hz : zK Z nc g) (hb : (decide (v = -1) || inB v 0 (nI nc - 1)) = false) : VS G M_Cs_add 9 300 0 [(0, .ref (ad 5 0)), (1, .int v)] [] nc nm ad X Z L 1 6 (cKx eIa X L nc g) := by
  refine VS.t (tv_add_go hc hL (VT.s ?_))
  rw [hb]
  refine s_callS1 (M1 := M_Cs_require) d_Cs_add_18 km_Cs_47 kS_Cs_require (by decide) (by first | rfl | exact vRf_cat _) (by decide) kM_Cs_require ki_Cs (by decide) (by decide +kernel) (c_Cs_require_f) rfl (fun v X9 Z9 L9 z => nomatch z.1) (fun E X9 Z9 L9 z => by obtain ⟨z1, rfl, rfl, rfl⟩ := z; exact ⟨z1, rfl, rfl, hz⟩)
theorem c_Cs_add_full {v g : Int32} (hL : cR X 8 nm L) (hz : zK Z 8 g) (hb : (decide (v = -1) || inB v 0 (nI 8 - 1)) = true) : VS G M_Cs_add 9 300 0 [(0, .ref (ad 5 0)), (1, .int v)] [] 8 nm ad X Z L 1 6 (cKx eIs X L 8 g) := by
  refine VS.t (tv_add_go (by omega) hL (VT.s ?_))
  rw [hb]
  refine s_callS1u (M1 := M_Cs_require) d_Cs_add_18 km_Cs_47 kS_Cs_require (by decide) (by first | rfl | exact vRf_cat _) (by decide) kM_Cs_require ki_Cs (by decide) (by decide +kernel) (c_Cs_require_t) ?_
  refine s_aload_n d_Cs_add_21 rfl (by first | rfl | exact vIsR_rf _) ?_
  refine s_get 5 0 d_Cs_add_22 rfl rfl rfl i_Cs 0 (by decide) kf_Cs_10 (Or.inl rfl) rfl ?_
  refine s_get 5 1 d_Cs_add_25 rfl rfl rfl i_Pr 0 (by decide) kf_Cs_51 (Or.inl rfl) rfl ?_
  refine s_clsSize d_Cs_add_28 km_Cs_55 hL ?_
  refine s_istore_n d_Cs_add_31 (by decide) rfl ?_
  refine s_iload_n d_Cs_add_32 rfl ?_
  refine s_bipush (v := 8) d_Cs_add_33 (by decide) ?_
  refine s_at 35 rfl ?_
  refine s_icmp_lt (tgt := 48) d_Cs_add_35 (by decide) (fun c => absurd c (by decide)) (fun _ => ?_)
  exact s_throw d_Cs_add_38 d_Cs_add_41 d_Cs_add_42 d_Cs_add_44 d_Cs_add_47 (by decide) kc_Cs_61 ki_Is (text := "no room for one more CLASS") (List.mem_of_getElem? (i := 1) rfl) tw_Cs_65 rfl (by first | decide | omega) (by first | exact Nat.le_of_ble_eq_true rfl | omega) ⟨rfl, rfl, rfl, hz⟩
/-- what add leaves -/
def acQ (G : vG) (nc nm : Nat) (ad : Nat → Nat → Nat) (X : Nat → Nat → Int32) (v g : Int32) : vQ := fun r h' => r = .inl (some (.int (nI nc))) ∧ ∃ ad' Z' L', cP G (nc + 1) nm ad' (mW (mW X 0 nc v) 1 nc (nI nc)) Z' L' h' ∧ cR (mW (mW X 0 nc v) 1 nc (nI nc)) (nc + 1) nm L' ∧ zK Z' (nc + 1) g ∧ ad' 5 = ad 5
theorem tv_add_end {v g : Int32} {po : Option Nat} (hw : wW X nc nm) (hL : cR X nc nm L) (hz : zK Z nc g) (hn : nc < 8) (hv : (po = none ∧ v = -1) ∨ ∃ d, d < nc ∧ po = some d ∧ v = nI d) : VT G M_Cs_add 9 300 72 [(0, .ref (ad 5 0)), (1, .int v), (2, .int (nI nc)), (3, va_rf (po.map (ad 0)))] [] nc nm ad X Z L 3 68 (acQ G nc nm ad X v g) := by
  refine tv_aload_n d_Cs_add_72 rfl (by first | rfl | exact vIsR_rf _) ?_
  refine tv_get 5 0 d_Cs_add_73 rfl rfl rfl i_Cs 0 (by decide) kf_Cs_10 (Or.inl rfl) rfl ?_
  refine tv_get 5 1 d_Cs_add_76 rfl rfl rfl i_Pr 0 (by decide) kf_Cs_51 (Or.inl rfl) rfl ?_
  refine VT.ofL (fun F hF => ?_)
  have hFl := hF.1 5 5 rfl
  refine y_new (ci := 3) (fs := [.null, .int 0, .null, .int 0, .int 0]) d_Cs_add_79 rfl i_Pc tt_Pc_ok kc_Cs_72 kn_Pc ki_Pc (fun j hj => by rcases (show j = 0 ∨ j = 1 ∨ j = 2 ∨ j = 3 ∨ j = 4 by omega) with rfl | rfl | rfl | rfl | rfl <;> rfl) (fun a => ?_)
  refine y_dup d_Cs_add_82 (by first | rfl | exact vRf_cat _) ?_
  refine y_iload_n d_Cs_add_83 rfl ?_
  refine y_aload_n d_Cs_add_84 rfl (by first | rfl | exact vIsR_rf _) ?_
  refine y_callI2 (M1 := M_Pc_init) d_Cs_add_85 rfl rfl rfl (Or.inl km_Cs_74) kI_Pc_init (by decide) (by first | rfl | exact vRf_cat _) (by first | rfl | exact vRf_cat _) (by decide) kM_Pc_init ki_Pc (by decide) (by decide +kernel) (c_Pc_init) (fun B9 xs9 z9 => ?_) (fun v B9 xs9 z9 => nomatch z9.1) (fun E B9 xs9 z9 => nomatch z9.1)
  obtain ⟨-, rfl, q, rfl⟩ := z9
  refine y_addF 1 d_Cs_add_88 km_Cs_77 (hFl) ((by rw [List.length_map, hL.1, List.length_range]; omega)) rfl rfl kx_Pc_Ob ?_
  refine y_pop d_Cs_add_91 (by first | rfl | exact vRf_cat _) ?_
  refine y_iload_n d_Cs_add_92 rfl ?_
  refine y_iretQ d_Cs_add_93 rfl rfl ?_
  intro hN h hR
  exact ⟨rfl, _, _, _, ⟨_, hR, cF_add hw hL hF hv hN⟩, cR_add hw hL, zK_add hz, by rw [adN_f (by decide), adN_f (by decide)]⟩
theorem c_Cs_add_ok {v g : Int32} (hw : wW X nc nm) (hL : cR X nc nm L) (hz : zK Z nc g) (hn : nc < 8) (hb : (decide (v = -1) || inB v 0 (nI nc - 1)) = true) : VT G M_Cs_add 9 300 0 [(0, .ref (ad 5 0)), (1, .int v)] [] nc nm ad X Z L 3 68 (acQ G nc nm ad X v g) := by
  refine tv_add_go hw.1.1 hL ?_
  rw [hb]
  refine tv_callS1u (M1 := M_Cs_require) d_Cs_add_18 km_Cs_47 kS_Cs_require (by decide) (by first | rfl | exact vRf_cat _) (by decide) kM_Cs_require ki_Cs (by decide) (by decide +kernel) (c_Cs_require_t) ?_
  refine tv_aload_n d_Cs_add_21 rfl (by first | rfl | exact vIsR_rf _) ?_
  refine tv_get 5 0 d_Cs_add_22 rfl rfl rfl i_Cs 0 (by decide) kf_Cs_10 (Or.inl rfl) rfl ?_
  refine tv_get 5 1 d_Cs_add_25 rfl rfl rfl i_Pr 0 (by decide) kf_Cs_51 (Or.inl rfl) rfl ?_
  refine tv_clsSize d_Cs_add_28 km_Cs_55 hL ?_
  refine tv_istore_n d_Cs_add_31 (by decide) rfl ?_
  refine tv_iload_n d_Cs_add_32 rfl ?_
  refine tv_bipush (v := 8) d_Cs_add_33 (by decide) ?_
  refine tv_at 35 rfl ?_
  refine tv_icmp_lt (tgt := 48) d_Cs_add_35 (by decide) (fun _ => ?_) (fun c => absurd (nI_lt (b := 8) hn (by omega)) c)
  by_cases e : v = -1
  · refine tv_iload_n d_Cs_add_48 rfl ?_
    refine tv_iconst (v := (-1)) d_Cs_add_49 (by decide) ?_
    refine tv_icmp_ne (tgt := 57) d_Cs_add_50 (by decide) (fun c => absurd (e) c) (fun _ => ?_)
    refine tv_null d_Cs_add_53 ?_
    refine tv_goto (tgt := 71) d_Cs_add_54 (by decide) ?_
    refine tv_astore_n d_Cs_add_71 (by first | rfl | exact vIsR_rf _) (by decide) rfl ?_
    exact tv_add_end (po := none) hw hL hz hn (Or.inl ⟨rfl, e⟩)
  · rw [decide_eq_false e, Bool.false_or] at hb
    obtain ⟨d, d1, d2⟩ := (inB_iff (by omega)).mp hb
    refine tv_iload_n d_Cs_add_48 rfl ?_
    refine tv_iconst (v := (-1)) d_Cs_add_49 (by decide) ?_
    refine tv_icmp_ne (tgt := 57) d_Cs_add_50 (by decide) (fun _ => ?_) (fun c => absurd c (e))
    subst d2
    refine tv_aload_n d_Cs_add_57 rfl (by first | rfl | exact vIsR_rf _) ?_
    refine tv_get 5 0 d_Cs_add_58 rfl rfl rfl i_Cs 0 (by decide) kf_Cs_10 (Or.inl rfl) rfl ?_
    refine tv_get 5 1 d_Cs_add_61 rfl rfl rfl i_Pr 0 (by decide) kf_Cs_51 (Or.inl rfl) rfl ?_
    refine tv_iload_n d_Cs_add_64 rfl ?_
    refine tv_clsGet d_Cs_add_65 km_Cs_68 hL (d) rfl (d1) ?_
    refine tv_cast 0 (d) d_Cs_add_68 (decide_eq_true (d1)) rfl rfl kc_Cs_72 kx_Pc_Pc ?_
    refine tv_astore_n d_Cs_add_71 (by first | rfl | exact vIsR_rf _) (by decide) rfl ?_
    exact tv_add_end (po := some d) hw hL hz hn (Or.inr ⟨d, d1, rfl, rfl⟩)
theorem tv_met_go {o n r : Int32} (hw : nc ≤ 8) (hL : cR X nc nm L) (k : VT G M_Cs_method 9 300 27 [(0, .ref (ad 5 0)), (1, .int o), (2, .int n), (3, .int r)] [.int (bI (inB o 0 (nI nc - 1) && inB n 0 25 && inB r 0 2))] nc nm ad X Z L mc ms Q) : VT G M_Cs_method 9 300 0 [(0, .ref (ad 5 0)), (1, .int o), (2, .int n), (3, .int r)] [] nc nm ad X Z L mc ms Q := by
  refine tv_aload_n d_Cs_method_0 rfl (by first | rfl | exact vIsR_rf _) ?_
  refine tv_iload_n d_Cs_method_1 rfl ?_
  refine tv_callV1r (M1 := M_Cs_isClass) 5 0 d_Cs_method_2 rfl rfl rfl km_Cs_43 kI_Cs_isClass ks_Cs_Cs_isClass (by decide) (by first | rfl | exact vRf_cat _) (by decide) kM_Cs_isClass ki_Cs (by decide) (by decide +kernel) (c_Cs_isClass hw hL) ?_
  cases h1 : inB o 0 (nI nc - 1) with
  | false =>
    rw [h1, Bool.false_and, Bool.false_and] at k
    refine tv_if_eq (tgt := 26) d_Cs_method_5 (by decide) (fun _ => ?_) (fun c => absurd (rfl) c)
    refine tv_iconst (v := 0) d_Cs_method_26 (by decide) ?_
    exact k
  | true =>
    rw [h1, Bool.true_and] at k
    refine tv_if_eq (tgt := 26) d_Cs_method_5 (by decide) (fun c => absurd c (by decide)) (fun _ => ?_)
    refine tv_iload_n d_Cs_method_8 rfl ?_
    refine tv_callS1r (M1 := M_Cs_isName) d_Cs_method_9 km_Cs_81 kS_Cs_isName (by decide) (by first | rfl | exact vRf_cat _) (by decide) kM_Cs_isName ki_Cs (by decide) (by decide +kernel) (c_Cs_isName) ?_
    cases h2 : inB n 0 25 with
    | false =>
      rw [h2, Bool.false_and] at k
      refine tv_if_eq (tgt := 26) d_Cs_method_12 (by decide) (fun _ => ?_) (fun c => absurd (rfl) c)
      refine tv_iconst (v := 0) d_Cs_method_26 (by decide) ?_
      exact k
    | true =>
      rw [h2, Bool.true_and] at k
      refine tv_if_eq (tgt := 26) d_Cs_method_12 (by decide) (fun c => absurd c (by decide)) (fun _ => ?_)
      refine tv_iload_n d_Cs_method_15 rfl ?_
      refine tv_callS1r (M1 := M_Cs_isArity) d_Cs_method_16 km_Cs_84 kS_Cs_isArity (by decide) (by first | rfl | exact vRf_cat _) (by decide) kM_Cs_isArity ki_Cs (by decide) (by decide +kernel) (c_Cs_isArity) ?_
      cases h3 : inB r 0 2 with
      | false =>
        rw [h3] at k
        refine tv_if_eq (tgt := 26) d_Cs_method_19 (by decide) (fun _ => ?_) (fun c => absurd (rfl) c)
        refine tv_iconst (v := 0) d_Cs_method_26 (by decide) ?_
        exact k
      | true =>
        rw [h3] at k
        refine tv_if_eq (tgt := 26) d_Cs_method_19 (by decide) (fun c => absurd c (by decide)) (fun _ => ?_)
        refine tv_iconst (v := 1) d_Cs_method_22 (by decide) ?_
        refine tv_goto (tgt := 27) d_Cs_method_23 (by decide) ?_
        exact k
theorem c_Cs_method_bad {o n r g : Int32} (hc : nc ≤ 8) (hL : cR X nc nm L) (hz : zK Z nc g) (hb : (inB o 0 (nI nc - 1) && inB n 0 25 && inB r 0 2) = false) : VS G M_Cs_method 9 300 0 [(0, .ref (ad 5 0)), (1, .int o), (2, .int n), (3, .int r)] [] nc nm ad X Z L 1 6 (cKx eIa X L nc g) := by
  refine VS.t (tv_met_go hc hL (VT.s ?_))
  rw [hb]
  refine s_callS1 (M1 := M_Cs_require) d_Cs_method_27 km_Cs_47 kS_Cs_require (by decide) (by first | rfl | exact vRf_cat _) (by decide) kM_Cs_require ki_Cs (by decide) (by decide +kernel) (c_Cs_require_f) rfl (fun v X9 Z9 L9 z => nomatch z.1) (fun E X9 Z9 L9 z => by obtain ⟨z1, rfl, rfl, rfl⟩ := z; exact ⟨z1, rfl, rfl, hz⟩)
theorem c_Cs_method_full {c : Nat} {n r g : Int32} (hw : wW X nc nm) (hL : cR X nc nm L) (hz : zK Z nc g) (hc : c < nc) (hb : (inB (nI c) 0 (nI nc - 1) && inB n 0 25 && inB r 0 2) = true) (hf : nm = 24 ∨ ∃ m, ownS X nm (nI c) n r = some m) : VS G M_Cs_method 9 300 0 [(0, .ref (ad 5 0)), (1, .int (nI c)), (2, .int n), (3, .int r)] [] nc nm ad X Z L 1 6 (cKx eIs X L nc g) := by
  have h24 := hw.2.1
  refine VS.t (tv_met_go hw.1.1 hL (VT.s ?_))
  rw [hb]
  refine s_callS1u (M1 := M_Cs_require) d_Cs_method_27 km_Cs_47 kS_Cs_require (by decide) (by first | rfl | exact vRf_cat _) (by decide) kM_Cs_require ki_Cs (by decide) (by decide +kernel) (c_Cs_require_t) ?_
  refine s_aload_n d_Cs_method_30 rfl (by first | rfl | exact vIsR_rf _) ?_
  refine s_get 5 0 d_Cs_method_31 rfl rfl rfl i_Cs 0 (by decide) kf_Cs_10 (Or.inl rfl) rfl ?_
  refine s_get 5 1 d_Cs_method_34 rfl rfl rfl i_Pr 1 (by decide) kf_Cs_87 (Or.inl rfl) rfl ?_
  refine s_metSize d_Cs_method_37 km_Cs_55 hL ?_
  refine s_istore d_Cs_method_40 (by decide) rfl ?_
  refine s_aload_n d_Cs_method_42 rfl (by first | rfl | exact vIsR_rf _) ?_
  refine s_get 5 0 d_Cs_method_43 rfl rfl rfl i_Cs 0 (by decide) kf_Cs_10 (Or.inl rfl) rfl ?_
  refine s_at 46 rfl ?_
  refine s_get 5 1 d_Cs_method_46 rfl rfl rfl i_Pr 0 (by decide) kf_Cs_51 (Or.inl rfl) rfl ?_
  refine s_iload_n d_Cs_method_49 rfl ?_
  refine s_clsGet d_Cs_method_50 km_Cs_68 hL (c) rfl (hc) ?_
  refine s_cast 0 (c) d_Cs_method_53 (decide_eq_true (hc)) rfl rfl kc_Cs_72 kx_Pc_Pc ?_
  refine s_astore d_Cs_method_56 (by first | rfl | exact vIsR_rf _) (by decide) rfl ?_
  refine s_iload d_Cs_method_58 rfl ?_
  refine s_bipush (v := 24) d_Cs_method_60 (by decide) ?_
  by_cases e : nm = 24
  · subst e
    refine s_icmp_ge (tgt := 75) d_Cs_method_62 (by decide) (fun _ => ?_) (fun c => absurd (by decide) c)
    exact s_throw d_Cs_method_75 d_Cs_method_78 d_Cs_method_79 d_Cs_method_81 d_Cs_method_84 (by decide) kc_Cs_61 ki_Is (text := "no room for one more METHOD, or there is one like it") (List.mem_of_getElem? (i := 2) rfl) tw_Cs_65 rfl (by first | decide | omega) (by first | exact Nat.le_of_ble_eq_true rfl | omega) ⟨rfl, rfl, rfl, hz⟩
  · obtain ⟨m, hm⟩ := hf.resolve_left e
    refine s_icmp_ge (tgt := 75) d_Cs_method_62 (by decide) (fun c => absurd c (nI_ge (b := 24) (by omega) (by omega))) (fun _ => ?_)
    refine s_aload d_Cs_method_65 rfl (by first | rfl | exact vIsR_rf _) ?_
    refine s_iload_n d_Cs_method_67 rfl ?_
    refine s_iload_n d_Cs_method_68 rfl ?_
    refine s_callV2r (M1 := M_Pc_own) 0 (c) d_Cs_method_69 (decide_eq_true (hc)) rfl rfl km_Cs_90 kI_Pc_own ks_Pc_Pc_own (by decide) (by first | rfl | exact vRf_cat _) (by first | rfl | exact vRf_cat _) (by decide) kM_Pc_own ki_Pc (by decide) (by decide +kernel) (c_Pc_own hw hL hc) ?_
    rw [hm]
    refine s_ifnull (r := some (ad 1 m)) (tgt := 85) d_Cs_method_72 (by decide) (fun z => nomatch z) (fun _ _ => ?_)
    exact s_throw d_Cs_method_75 d_Cs_method_78 d_Cs_method_79 d_Cs_method_81 d_Cs_method_84 (by decide) kc_Cs_61 ki_Is (text := "no room for one more METHOD, or there is one like it") (List.mem_of_getElem? (i := 2) rfl) tw_Cs_65 rfl (by first | decide | omega) (by first | exact Nat.le_of_ble_eq_true rfl | omega) ⟨rfl, rfl, rfl, hz⟩
def meQ (G : vG) (nc nm : Nat) (ad : Nat → Nat → Nat) (X : Nat → Nat → Int32) (c : Nat) (n r g : Int32) : vQ := fun z h' => z = .inl (some (.int (nI nm))) ∧ ∃ ad' Z' L', cP G nc (nm + 1) ad' (metX X nm c n r) Z' L' h' ∧ cR (metX X nm c n r) nc (nm + 1) L' ∧ zK Z' nc g ∧ ad' 5 = ad 5
theorem c_Cs_method_ok {c : Nat} {n r g : Int32} (hw : wW X nc nm) (hL : cR X nc nm L) (hz : zK Z nc g) (hc : c < nc) (hm : nm < 24) (hb : (inB (nI c) 0 (nI nc - 1) && inB n 0 25 && inB r 0 2) = true) (hf : ownS X nm (nI c) n r = none) : VT G M_Cs_method 9 300 0 [(0, .ref (ad 5 0)), (1, .int (nI c)), (2, .int n), (3, .int r)] [] nc nm ad X Z L 4 131 (meQ G nc nm ad X c n r g) := by
  refine tv_met_go hw.1.1 hL ?_
  rw [hb]
  refine tv_callS1u (M1 := M_Cs_require) d_Cs_method_27 km_Cs_47 kS_Cs_require (by decide) (by first | rfl | exact vRf_cat _) (by decide) kM_Cs_require ki_Cs (by decide) (by decide +kernel) (c_Cs_require_t) ?_
  refine tv_aload_n d_Cs_method_30 rfl (by first | rfl | exact vIsR_rf _) ?_
  refine tv_get 5 0 d_Cs_method_31 rfl rfl rfl i_Cs 0 (by decide) kf_Cs_10 (Or.inl rfl) rfl ?_
  refine tv_get 5 1 d_Cs_method_34 rfl rfl rfl i_Pr 1 (by decide) kf_Cs_87 (Or.inl rfl) rfl ?_
  refine tv_metSize d_Cs_method_37 km_Cs_55 hL ?_
  refine tv_istore d_Cs_method_40 (by decide) rfl ?_
  refine tv_aload_n d_Cs_method_42 rfl (by first | rfl | exact vIsR_rf _) ?_
  refine tv_get 5 0 d_Cs_method_43 rfl rfl rfl i_Cs 0 (by decide) kf_Cs_10 (Or.inl rfl) rfl ?_
  refine tv_at 46 rfl ?_
  refine tv_get 5 1 d_Cs_method_46 rfl rfl rfl i_Pr 0 (by decide) kf_Cs_51 (Or.inl rfl) rfl ?_
  refine tv_iload_n d_Cs_method_49 rfl ?_
  refine tv_clsGet d_Cs_method_50 km_Cs_68 hL (c) rfl (hc) ?_
  refine tv_cast 0 (c) d_Cs_method_53 (decide_eq_true (hc)) rfl rfl kc_Cs_72 kx_Pc_Pc ?_
  refine tv_astore d_Cs_method_56 (by first | rfl | exact vIsR_rf _) (by decide) rfl ?_
  refine tv_iload d_Cs_method_58 rfl ?_
  refine tv_bipush (v := 24) d_Cs_method_60 (by decide) ?_
  refine tv_icmp_ge (tgt := 75) d_Cs_method_62 (by decide) (fun c => absurd c (nI_ge (b := 24) (by omega) (by omega))) (fun _ => ?_)
  refine tv_at 65 rfl ?_
  refine tv_aload d_Cs_method_65 rfl (by first | rfl | exact vIsR_rf _) ?_
  refine tv_iload_n d_Cs_method_67 rfl ?_
  refine tv_iload_n d_Cs_method_68 rfl ?_
  refine tv_callV2r (M1 := M_Pc_own) 0 (c) d_Cs_method_69 (decide_eq_true (hc)) rfl rfl km_Cs_90 kI_Pc_own ks_Pc_Pc_own (by decide) (by first | rfl | exact vRf_cat _) (by first | rfl | exact vRf_cat _) (by decide) kM_Pc_own ki_Pc (by decide) (by decide +kernel) (c_Pc_own hw hL hc) ?_
  rw [hf]
  refine tv_ifnull (r := none) (tgt := 85) d_Cs_method_72 (by decide) (fun _ => ?_) (fun _ z => nomatch z)
  refine VT.ofL (fun F hF => ?_)
  have hc3 : cV X nc nm 3 c = true := decide_eq_true hc
  have hF0 := hF.1 5 0 rfl
  have hF1 := hF.1 5 1 rfl
  have hF6 := hF.1 5 6 rfl
  have hFc := hF.1 0 c (decide_eq_true hc)
  have hF3 := hF.1 3 c hc3
  have hle : (L 2 c).length ≤ 24 := by
    rw [hL.2.2 c hc]
    have := List.length_filter_le (fun m => decide (oN X m = c)) (List.range nm)
    rw [List.length_range] at this
    unfold ownL; omega
  have n3 : ad 3 c ≠ ad 5 6 := fun z => by have := (hF.2 3 c 5 6 hc3 rfl z).1; omega
  have n0 : ad 0 c ≠ ad 5 6 := fun z => by have := (hF.2 0 c 5 6 (decide_eq_true hc) rfl z).1; omega
  refine y_new (ci := 4) (fs := [.null, .int 0, .int 0, .int 0, .null, .int 0, .int 0, .int 0]) d_Cs_method_85 rfl i_Pm tt_Pm_ok kc_Cs_96 kn_Pm ki_Pm (fun j hj => by rcases (show j = 0 ∨ j = 1 ∨ j = 2 ∨ j = 3 ∨ j = 4 ∨ j = 5 ∨ j = 6 ∨ j = 7 by omega) with rfl | rfl | rfl | rfl | rfl | rfl | rfl | rfl <;> rfl) (fun a => ?_)
  refine y_dup d_Cs_method_88 (by first | rfl | exact vRf_cat _) ?_
  refine y_iload d_Cs_method_89 rfl ?_
  refine y_aload d_Cs_method_91 rfl (by first | rfl | exact vIsR_rf _) ?_
  refine y_iload_n d_Cs_method_93 rfl ?_
  refine y_iload_n d_Cs_method_94 rfl ?_
  refine y_callI4 (M1 := M_Pm_init) d_Cs_method_95 rfl rfl rfl (Or.inl km_Cs_98) kI_Pm_init (by decide) (by first | rfl | exact vRf_cat _) (by first | rfl | exact vRf_cat _) (by first | rfl | exact vRf_cat _) (by first | rfl | exact vRf_cat _) (by decide) kM_Pm_init ki_Pm (by decide) (by decide +kernel) (c_Pm_init) (fun B9 xs9 z9 => ?_) (fun v B9 xs9 z9 => nomatch z9.1) (fun E B9 xs9 z9 => nomatch z9.1)
  obtain ⟨-, rfl, q, rfl⟩ := z9
  refine y_astore d_Cs_method_98 (by first | rfl | exact vIsR_rf _) (by decide) rfl ?_
  refine y_aload_n d_Cs_method_100 rfl (by first | rfl | exact vIsR_rf _) ?_
  refine y_getF d_Cs_method_101 (hF0) rfl i_Cs 0 (by decide) kf_Cs_10 (Or.inl rfl) rfl ?_
  refine y_getF d_Cs_method_104 (hF1) rfl i_Pr 1 (by decide) kf_Cs_87 (Or.inl rfl) rfl ?_
  refine y_aload d_Cs_method_107 rfl (by first | rfl | exact vIsR_rf _) ?_
  refine y_addF 1 d_Cs_method_109 km_Cs_77 (hF6) ((by rw [List.length_map, hL.2.1, List.length_range]; omega)) rfl rfl kx_Pm_Ob ?_
  refine y_pop d_Cs_method_112 (by first | rfl | exact vRf_cat _) ?_
  refine y_aload d_Cs_method_113 rfl (by first | rfl | exact vIsR_rf _) ?_
  refine y_getF d_Cs_method_115 (((va_up_ne _ _ n0).trans hFc)) rfl i_Pc 2 (by decide) kf_Cs_101 (Or.inl rfl) rfl ?_
  refine y_aload d_Cs_method_118 rfl (by first | rfl | exact vIsR_rf _) ?_
  refine y_addF 1 d_Cs_method_120 km_Cs_77 (((va_up_ne _ _ n3).trans hF3)) ((by rw [List.length_map]; omega)) rfl rfl kx_Pm_Ob ?_
  refine y_pop d_Cs_method_123 (by first | rfl | exact vRf_cat _) ?_
  refine y_iload d_Cs_method_124 rfl ?_
  refine y_iretQ d_Cs_method_126 rfl rfl ?_
  intro hN h hR
  exact ⟨rfl, _, _, _, ⟨_, hR, cF_met hw hL hc hF hN⟩, cR_met hw hL hc, zK_met hz, by rw [adN_f (by decide), adN_f (by decide)]⟩
-- items
def iiB (nc : Nat) (k a b c : Int32) : Bool := inB k 0 2 && !((decide (k = 1) && !inB a 0 (nI nc - 1)) || (decide (0 < k) && (!inB b 0 25 || !inB c 0 2)))
theorem c_Cs_isItem {k a b c : Int32} (hw : nc ≤ 8) (hL : cR X nc nm L) : VS G M_Cs_isItem 2 50 0 [(0, .ref (ad 5 0)), (1, .int k), (2, .int a), (3, .int b), (4, .int c)] [] nc nm ad X Z L 0 0 (sRet (some (.int (bI (iiB nc k a b c)))) X Z L) := by
  have no1 : iiB nc k a b c = false → VS G M_Cs_isItem 2 50 57 [(0, .ref (ad 5 0)), (1, .int k), (2, .int a), (3, .int b), (4, .int c)] [] nc nm ad X Z L 0 0 (sRet (some (.int (bI (iiB nc k a b c)))) X Z L) := by
    intro h
    rw [h]
    refine s_iconst (v := 0) d_Cs_isItem_57 (by decide) ?_
    exact s_iret d_Cs_isItem_58 rfl rfl ⟨rfl, rfl, rfl, rfl⟩
  have no2 : iiB nc k a b c = false → VS G M_Cs_isItem 2 50 78 [(0, .ref (ad 5 0)), (1, .int k), (2, .int a), (3, .int b), (4, .int c)] [] nc nm ad X Z L 0 0 (sRet (some (.int (bI (iiB nc k a b c)))) X Z L) := by
    intro h
    rw [h]
    refine s_iconst (v := 0) d_Cs_isItem_78 (by decide) ?_
    exact s_iret d_Cs_isItem_79 rfl rfl ⟨rfl, rfl, rfl, rfl⟩
  refine s_iload_n d_Cs_isItem_0 rfl ?_
  cases hk : inB k 0 2 with
  | false =>
    have h0 : k.toInt < 0 ∨ 2 < k.toInt := by
      unfold inB at hk
      rw [Bool.and_eq_false_iff, decide_eq_false_iff_not, decide_eq_false_iff_not, Int32.le_iff_toInt_le, Int32.le_iff_toInt_le, show (0 : Int32).toInt = 0 from rfl, show (2 : Int32).toInt = 2 from rfl] at hk
      omega
    refine s_tableOut (tgt := 80) d_Cs_isItem_1 h0 (by decide) ?_
    rw [show iiB nc k a b c = false by unfold iiB; rw [hk, Bool.false_and]]
    refine s_iconst (v := 0) d_Cs_isItem_80 (by decide) ?_
    exact s_iret d_Cs_isItem_81 rfl rfl ⟨rfl, rfl, rfl, rfl⟩
  | true =>
    obtain ⟨j, j1, j2⟩ := (inB_of (n := 2) 2 rfl (by omega)).mp hk
    subst j2
    rcases (show j = 0 ∨ j = 1 ∨ j = 2 by omega) with rfl | rfl | rfl
    · refine s_tableIn (tgt := 28) (off := 27) d_Cs_isItem_1 (by decide) (by decide) (by decide) (by decide) ?_
      rw [show iiB nc (nI 0) a b c = true by unfold iiB; rw [hk]; rfl]
      refine s_iconst (v := 1) d_Cs_isItem_28 (by decide) ?_
      exact s_iret d_Cs_isItem_29 rfl rfl ⟨rfl, rfl, rfl, rfl⟩
    · refine s_tableIn (tgt := 30) (off := 29) d_Cs_isItem_1 (by decide) (by decide) (by decide) (by decide) ?_
      have e : iiB nc (nI 1) a b c = (inB a 0 (nI nc - 1) && (inB b 0 25 && inB c 0 2)) := by
        unfold iiB
        rw [hk, show decide (nI 1 = 1) = true from rfl, show decide (0 < nI 1) = true from rfl]
        cases inB a 0 (nI nc - 1) <;> cases inB b 0 25 <;> cases inB c 0 2 <;> rfl
      refine s_aload_n d_Cs_isItem_30 rfl (by first | rfl | exact vIsR_rf _) ?_
      refine s_iload_n d_Cs_isItem_31 rfl ?_
      refine s_callV1r (M1 := M_Cs_isClass) 5 0 d_Cs_isItem_32 rfl rfl rfl km_Cs_43 kI_Cs_isClass ks_Cs_Cs_isClass (by decide) (by first | rfl | exact vRf_cat _) (by decide) kM_Cs_isClass ki_Cs (by decide) (by decide +kernel) (c_Cs_isClass hw hL) ?_
      cases h1 : inB a 0 (nI nc - 1) with
      | false =>
        refine s_if_eq (tgt := 57) d_Cs_isItem_35 (by decide) (fun _ => ?_) (fun c => absurd (rfl) c)
        exact no1 (by rw [e, h1]; rfl)
      | true =>
        refine s_if_eq (tgt := 57) d_Cs_isItem_35 (by decide) (fun c => absurd c (by decide)) (fun _ => ?_)
        refine s_iload_n d_Cs_isItem_38 rfl ?_
        refine s_callS1r (M1 := M_Cs_isName) d_Cs_isItem_39 km_Cs_81 kS_Cs_isName (by decide) (by first | rfl | exact vRf_cat _) (by decide) kM_Cs_isName ki_Cs (by decide) (by decide +kernel) (c_Cs_isName) ?_
        cases h2 : inB b 0 25 with
        | false =>
          refine s_if_eq (tgt := 57) d_Cs_isItem_42 (by decide) (fun _ => ?_) (fun c => absurd (rfl) c)
          exact no1 (by rw [e, h1, h2]; rfl)
        | true =>
          refine s_if_eq (tgt := 57) d_Cs_isItem_42 (by decide) (fun c => absurd c (by decide)) (fun _ => ?_)
          refine s_iload d_Cs_isItem_45 rfl ?_
          refine s_callS1r (M1 := M_Cs_isArity) d_Cs_isItem_47 km_Cs_84 kS_Cs_isArity (by decide) (by first | rfl | exact vRf_cat _) (by decide) kM_Cs_isArity ki_Cs (by decide) (by decide +kernel) (c_Cs_isArity) ?_
          cases h3 : inB c 0 2 with
          | false =>
            refine s_if_eq (tgt := 57) d_Cs_isItem_50 (by decide) (fun _ => ?_) (fun c => absurd (rfl) c)
            exact no1 (by rw [e, h1, h2, h3]; rfl)
          | true =>
            rw [e, h1, h2, h3]
            refine s_if_eq (tgt := 57) d_Cs_isItem_50 (by decide) (fun c => absurd c (by decide)) (fun _ => ?_)
            refine s_iconst (v := 1) d_Cs_isItem_53 (by decide) ?_
            refine s_goto (tgt := 58) d_Cs_isItem_54 (by decide) ?_
            exact s_iret d_Cs_isItem_58 rfl rfl ⟨rfl, rfl, rfl, rfl⟩
    · refine s_tableIn (tgt := 59) (off := 58) d_Cs_isItem_1 (by decide) (by decide) (by decide) (by decide) ?_
      have e : iiB nc (nI 2) a b c = (inB b 0 25 && inB c 0 2) := by
        unfold iiB
        rw [hk, show decide (nI 2 = 1) = false from rfl, show decide (0 < nI 2) = true from rfl]
        cases inB b 0 25 <;> cases inB c 0 2 <;> rfl
      refine s_iload_n d_Cs_isItem_59 rfl ?_
      refine s_callS1r (M1 := M_Cs_isName) d_Cs_isItem_60 km_Cs_81 kS_Cs_isName (by decide) (by first | rfl | exact vRf_cat _) (by decide) kM_Cs_isName ki_Cs (by decide) (by decide +kernel) (c_Cs_isName) ?_
      cases h2 : inB b 0 25 with
      | false =>
        refine s_if_eq (tgt := 78) d_Cs_isItem_63 (by decide) (fun _ => ?_) (fun c => absurd (rfl) c)
        exact no2 (by rw [e, h2]; rfl)
      | true =>
        refine s_if_eq (tgt := 78) d_Cs_isItem_63 (by decide) (fun c => absurd c (by decide)) (fun _ => ?_)
        refine s_iload d_Cs_isItem_66 rfl ?_
        refine s_callS1r (M1 := M_Cs_isArity) d_Cs_isItem_68 km_Cs_84 kS_Cs_isArity (by decide) (by first | rfl | exact vRf_cat _) (by decide) kM_Cs_isArity ki_Cs (by decide) (by decide +kernel) (c_Cs_isArity) ?_
        cases h3 : inB c 0 2 with
        | false =>
          refine s_if_eq (tgt := 78) d_Cs_isItem_71 (by decide) (fun _ => ?_) (fun c => absurd (rfl) c)
          exact no2 (by rw [e, h2, h3]; rfl)
        | true =>
          rw [e, h2, h3]
          refine s_if_eq (tgt := 78) d_Cs_isItem_71 (by decide) (fun c => absurd c (by decide)) (fun _ => ?_)
          refine s_iconst (v := 1) d_Cs_isItem_74 (by decide) ?_
          refine s_goto (tgt := 79) d_Cs_isItem_75 (by decide) ?_
          exact s_iret d_Cs_isItem_79 rfl rfl ⟨rfl, rfl, rfl, rfl⟩
theorem tv_it_go {m k a b c : Int32} (hw : nc ≤ 8) (h24 : nm ≤ 24) (hL : cR X nc nm L) (kk : VT G M_Cs_item 9 300 26 [(0, .ref (ad 5 0)), (1, .int m), (2, .int k), (3, .int a), (4, .int b), (5, .int c)] [.int (bI (inB m 0 (nI nm - 1) && iiB nc k a b c))] nc nm ad X Z L mc ms Q) : VT G M_Cs_item 9 300 0 [(0, .ref (ad 5 0)), (1, .int m), (2, .int k), (3, .int a), (4, .int b), (5, .int c)] [] nc nm ad X Z L mc ms Q := by
  refine tv_aload_n d_Cs_item_0 rfl (by first | rfl | exact vIsR_rf _) ?_
  refine tv_iload_n d_Cs_item_1 rfl ?_
  refine tv_callV1r (M1 := M_Cs_isMethod) 5 0 d_Cs_item_2 rfl rfl rfl km_Cs_102 kI_Cs_isMethod ks_Cs_Cs_isMethod (by decide) (by first | rfl | exact vRf_cat _) (by decide) kM_Cs_isMethod ki_Cs (by decide) (by decide +kernel) (c_Cs_isMethod h24 hL) ?_
  cases h1 : inB m 0 (nI nm - 1) with
  | false =>
    rw [h1, Bool.false_and] at kk
    refine tv_if_eq (tgt := 25) d_Cs_item_5 (by decide) (fun _ => ?_) (fun c => absurd (rfl) c)
    refine tv_iconst (v := 0) d_Cs_item_25 (by decide) ?_
    exact kk
  | true =>
    rw [h1, Bool.true_and] at kk
    refine tv_if_eq (tgt := 25) d_Cs_item_5 (by decide) (fun c => absurd c (by decide)) (fun _ => ?_)
    refine tv_aload_n d_Cs_item_8 rfl (by first | rfl | exact vIsR_rf _) ?_
    refine tv_iload_n d_Cs_item_9 rfl ?_
    refine tv_iload_n d_Cs_item_10 rfl ?_
    refine tv_iload d_Cs_item_11 rfl ?_
    refine tv_iload d_Cs_item_13 rfl ?_
    refine tv_callV4r (M1 := M_Cs_isItem) 5 0 d_Cs_item_15 rfl rfl rfl km_Cs_105 kI_Cs_isItem ks_Cs_Cs_isItem (by decide) (by first | rfl | exact vRf_cat _) (by first | rfl | exact vRf_cat _) (by first | rfl | exact vRf_cat _) (by first | rfl | exact vRf_cat _) (by decide) kM_Cs_isItem ki_Cs (by decide) (by decide +kernel) (c_Cs_isItem hw hL) ?_
    cases h2 : iiB nc k a b c with
    | false =>
      rw [h2] at kk
      refine tv_if_eq (tgt := 25) d_Cs_item_18 (by decide) (fun _ => ?_) (fun c => absurd (rfl) c)
      refine tv_iconst (v := 0) d_Cs_item_25 (by decide) ?_
      exact kk
    | true =>
      rw [h2] at kk
      refine tv_if_eq (tgt := 25) d_Cs_item_18 (by decide) (fun c => absurd c (by decide)) (fun _ => ?_)
      refine tv_iconst (v := 1) d_Cs_item_21 (by decide) ?_
      refine tv_goto (tgt := 26) d_Cs_item_22 (by decide) ?_
      exact kk
theorem c_Cs_item_bad {m k a b c g : Int32} (hc : nc ≤ 8) (h24 : nm ≤ 24) (hL : cR X nc nm L) (hz : zK Z nc g) (hb : (inB m 0 (nI nm - 1) && iiB nc k a b c) = false) : VS G M_Cs_item 9 300 0 [(0, .ref (ad 5 0)), (1, .int m), (2, .int k), (3, .int a), (4, .int b), (5, .int c)] [] nc nm ad X Z L 1 6 (cKx eIa X L nc g) := by
  refine VS.t (tv_it_go hc h24 hL (VT.s ?_))
  rw [hb]
  refine s_callS1 (M1 := M_Cs_require) d_Cs_item_26 km_Cs_47 kS_Cs_require (by decide) (by first | rfl | exact vRf_cat _) (by decide) kM_Cs_require ki_Cs (by decide) (by decide +kernel) (c_Cs_require_f) rfl (fun v X9 Z9 L9 z => nomatch z.1) (fun E X9 Z9 L9 z => by obtain ⟨z1, rfl, rfl, rfl⟩ := z; exact ⟨z1, rfl, rfl, hz⟩)
theorem c_Cs_item_full {m : Nat} {k a b c g : Int32} (hc : nc ≤ 8) (h24 : nm ≤ 24) (hL : cR X nc nm L) (hz : zK Z nc g) (hm : m < nm) (hb : (inB (nI m) 0 (nI nm - 1) && iiB nc k a b c) = true) (hi : iN X m = 5) : VS G M_Cs_item 9 300 0 [(0, .ref (ad 5 0)), (1, .int (nI m)), (2, .int k), (3, .int a), (4, .int b), (5, .int c)] [] nc nm ad X Z L 1 6 (cKx eIs X L nc g) := by
  refine VS.t (tv_it_go hc h24 hL (VT.s ?_))
  rw [hb]
  refine s_callS1u (M1 := M_Cs_require) d_Cs_item_26 km_Cs_47 kS_Cs_require (by decide) (by first | rfl | exact vRf_cat _) (by decide) kM_Cs_require ki_Cs (by decide) (by decide +kernel) (c_Cs_require_t) ?_
  refine s_aload_n d_Cs_item_29 rfl (by first | rfl | exact vIsR_rf _) ?_
  refine s_get 5 0 d_Cs_item_30 rfl rfl rfl i_Cs 0 (by decide) kf_Cs_10 (Or.inl rfl) rfl ?_
  refine s_get 5 1 d_Cs_item_33 rfl rfl rfl i_Pr 1 (by decide) kf_Cs_87 (Or.inl rfl) rfl ?_
  refine s_iload_n d_Cs_item_36 rfl ?_
  refine s_metGet d_Cs_item_37 km_Cs_68 hL (m) rfl (hm) ?_
  refine s_cast 1 (m) d_Cs_item_40 (decide_eq_true (hm)) rfl rfl kc_Cs_96 kx_Pm_Pm ?_
  refine s_astore d_Cs_item_43 (by first | rfl | exact vIsR_rf _) (by decide) rfl ?_
  refine s_at 45 rfl ?_
  refine s_aload d_Cs_item_45 rfl (by first | rfl | exact vIsR_rf _) ?_
  refine s_get 1 (m) d_Cs_item_47 (decide_eq_true (hm)) rfl rfl i_Pm 4 (by decide) kf_Cs_109 (Or.inl rfl) rfl ?_
  refine s_itSize (m) d_Cs_item_50 km_Cs_55 (hm) ?_
  rw [hi]
  refine s_iconst (v := 5) d_Cs_item_53 (by decide) ?_
  refine s_icmp_lt (tgt := 67) d_Cs_item_54 (by decide) (fun c => absurd c (by decide)) (fun _ => ?_)
  exact s_throw d_Cs_item_57 d_Cs_item_60 d_Cs_item_61 d_Cs_item_63 d_Cs_item_66 (by decide) kc_Cs_61 ki_Is (text := "no room for one more ITEM") (List.mem_of_getElem? (i := 3) rfl) tw_Cs_65 rfl (by first | decide | omega) (by first | exact Nat.le_of_ble_eq_true rfl | omega) ⟨rfl, rfl, rfl, hz⟩
/-- the cell of a new item -/
def itE (ad : Nat → Nat → Nat) (k a b c : Int32) : aE := oE 1 [.int k, .int (if k = 0 then a else -1), va_rf (if k = 1 then some (ad 0 a.toNatClampNeg) else none), .int (if k = 0 then -1 else c), .int (if k = 0 then -1 else b)]
theorem itE_cE {m j : Nat} {k a b c : Int32} (hk : k = 0 ∨ k = 1 ∨ k = 2) : itE ad k a b c = cE G ad (itX X m j k a b c) Z L 2 (m * 5 + j) := by
  obtain ⟨v12, v13, v14, v15, -⟩ := itX_v (X := X) (m := m) (j := j) (k := k) (av := a) (bv := b) (cv := c)
  simp only [cE]
  unfold itE cN
  rw [v12, v13, v14, v15]
  rcases hk with rfl | rfl | rfl <;> rfl
def niQ (G : vG) (nc nm : Nat) (ad : Nat → Nat → Nat) (X Z : Nat → Nat → Int32) (L : Nat → Nat → List Nat) (e : aE) : vQ := fun r h' => ∃ F a, cF G nc nm ad X Z L F ∧ aN F [(a, e)] ∧ aR G (aL F [(a, e)]) h' ∧ r = .inl (some (.ref a))
theorem c_Cs_newItem {k a b c : Int32} (hw : nc ≤ 8) (hL : cR X nc nm L) (hk : k = 0 ∨ k = 1 ∨ k = 2) (ha : k = 1 → ∃ d, d < nc ∧ a = nI d) : VT G M_Cs_newItem 6 200 0 [(0, .ref (ad 5 0)), (1, .int k), (2, .int a), (3, .int b), (4, .int c)] [] nc nm ad X Z L 1 5 (niQ G nc nm ad X Z L (itE ad k a b c)) := by
  have tail : ∀ po : Option Nat, k ≠ 0 → po = (if k = 1 then some (ad 0 a.toNatClampNeg) else none) → VT G M_Cs_newItem 6 200 50 [(0, .ref (ad 5 0)), (1, .int k), (2, .int a), (3, .int b), (4, .int c), (5, va_rf po)] [] nc nm ad X Z L 1 5 (niQ G nc nm ad X Z L (itE ad k a b c)) := by
    intro po h0 hp
    refine VT.ofL (fun F hF => ?_)
    refine y_new (ci := 1) (fs := [.int 0, .int 0, .null, .int 0, .int 0]) d_Cs_newItem_50 rfl i_It tt_It_ok kc_Cs_168 kn_It ki_It (fun j hj => by rcases (show j = 0 ∨ j = 1 ∨ j = 2 ∨ j = 3 ∨ j = 4 by omega) with rfl | rfl | rfl | rfl | rfl <;> rfl) (fun q => ?_)
    refine y_dup d_Cs_newItem_53 (by first | rfl | exact vRf_cat _) ?_
    refine y_iload_n d_Cs_newItem_54 rfl ?_
    refine y_iconst (v := (-1)) d_Cs_newItem_55 (by decide) ?_
    refine y_aload d_Cs_newItem_56 rfl (by first | rfl | exact vIsR_rf _) ?_
    refine y_iload_n d_Cs_newItem_58 rfl ?_
    refine y_iload d_Cs_newItem_59 rfl ?_
    refine y_callI5 (M1 := M_It_init) d_Cs_newItem_61 rfl rfl rfl (Or.inl km_Cs_188) kI_It_init (by decide) (by first | rfl | exact vRf_cat _) (by first | rfl | exact vRf_cat _) (by first | rfl | exact vRf_cat _) (by first | rfl | exact vRf_cat _) (by first | rfl | exact vRf_cat _) (by decide) kM_It_init ki_It (by decide) (by decide +kernel) (c_It_init) (fun B9 xs9 z9 => ?_) (fun v B9 xs9 z9 => nomatch z9.1) (fun E B9 xs9 z9 => nomatch z9.1)
    obtain ⟨-, rfl, rfl⟩ := z9
    refine y_aretQ d_Cs_newItem_64 rfl (Or.inl ⟨_, rfl⟩) (by first | rfl | exact vIsR_rf _) ?_
    intro hN h hR
    have e : itE ad k a b c = oE 1 [.int k, .int (-1), va_rf po, .int c, .int b] := by
      unfold itE
      rw [if_neg h0, if_neg h0, if_neg h0, hp]
    rw [e]
    exact ⟨_, q, hF, hN, hR, rfl⟩
  rcases hk with rfl | rfl | rfl
  · refine tv_iload_n d_Cs_newItem_0 rfl ?_
    refine tv_if_ne (tgt := 17) d_Cs_newItem_1 (by decide) (fun c => absurd (rfl) c) (fun _ => ?_)
    refine VT.ofL (fun F hF => ?_)
    refine y_new (ci := 1) (fs := [.int 0, .int 0, .null, .int 0, .int 0]) d_Cs_newItem_4 rfl i_It tt_It_ok kc_Cs_168 kn_It ki_It (fun j hj => by rcases (show j = 0 ∨ j = 1 ∨ j = 2 ∨ j = 3 ∨ j = 4 by omega) with rfl | rfl | rfl | rfl | rfl <;> rfl) (fun q => ?_)
    refine y_dup d_Cs_newItem_7 (by first | rfl | exact vRf_cat _) ?_
    refine y_iconst (v := 0) d_Cs_newItem_8 (by decide) ?_
    refine y_iload_n d_Cs_newItem_9 rfl ?_
    refine y_null d_Cs_newItem_10 ?_
    refine y_iconst (v := (-1)) d_Cs_newItem_11 (by decide) ?_
    refine y_iconst (v := (-1)) d_Cs_newItem_12 (by decide) ?_
    refine y_callI5 (M1 := M_It_init) d_Cs_newItem_13 rfl rfl rfl (Or.inl km_Cs_188) kI_It_init (by decide) rfl rfl rfl rfl rfl (by decide) kM_It_init ki_It (by decide) (by decide +kernel) (c_It_init (p := none)) (fun B9 xs9 z9 => ?_) (fun v B9 xs9 z9 => nomatch z9.1) (fun E B9 xs9 z9 => nomatch z9.1)
    obtain ⟨-, rfl, rfl⟩ := z9
    refine y_aretQ d_Cs_newItem_16 rfl (Or.inl ⟨_, rfl⟩) (by first | rfl | exact vIsR_rf _) ?_
    intro hN h hR
    exact ⟨_, q, hF, hN, hR, rfl⟩
  · obtain ⟨d, d1, rfl⟩ := ha rfl
    refine tv_iload_n d_Cs_newItem_0 rfl ?_
    refine tv_if_ne (tgt := 17) d_Cs_newItem_1 (by decide) (fun _ => ?_) (fun c => absurd c (by decide))
    refine tv_iload_n d_Cs_newItem_17 rfl ?_
    refine tv_iconst (v := 1) d_Cs_newItem_18 (by decide) ?_
    refine tv_icmp_ne (tgt := 47) d_Cs_newItem_19 (by decide) (fun c => absurd (rfl) c) (fun _ => ?_)
    refine tv_aload_n d_Cs_newItem_22 rfl (by first | rfl | exact vIsR_rf _) ?_
    refine tv_iload_n d_Cs_newItem_23 rfl ?_
    refine tv_callV1r (M1 := M_Cs_isClass) 5 0 d_Cs_newItem_24 rfl rfl rfl km_Cs_43 kI_Cs_isClass ks_Cs_Cs_isClass (by decide) (by first | rfl | exact vRf_cat _) (by decide) kM_Cs_isClass ki_Cs (by decide) (by decide +kernel) (c_Cs_isClass hw hL) ?_
    rw [(inB_iff (by omega)).mpr ⟨d, d1, rfl⟩]
    refine tv_if_eq (tgt := 47) d_Cs_newItem_27 (by decide) (fun c => absurd c (by decide)) (fun _ => ?_)
    refine tv_aload_n d_Cs_newItem_30 rfl (by first | rfl | exact vIsR_rf _) ?_
    refine tv_get 5 0 d_Cs_newItem_31 rfl rfl rfl i_Cs 0 (by decide) kf_Cs_10 (Or.inl rfl) rfl ?_
    refine tv_get 5 1 d_Cs_newItem_34 rfl rfl rfl i_Pr 0 (by decide) kf_Cs_51 (Or.inl rfl) rfl ?_
    refine tv_iload_n d_Cs_newItem_37 rfl ?_
    refine tv_clsGet d_Cs_newItem_38 km_Cs_68 hL (d) rfl (d1) ?_
    refine tv_cast 0 (d) d_Cs_newItem_41 (decide_eq_true (d1)) rfl rfl kc_Cs_72 kx_Pc_Pc ?_
    refine tv_goto (tgt := 48) d_Cs_newItem_44 (by decide) ?_
    refine tv_astore d_Cs_newItem_48 (by first | rfl | exact vIsR_rf _) (by decide) rfl ?_
    exact tail (some (ad 0 d)) (by decide) (by rw [if_pos rfl, nI_clamp (by omega)])
  · refine tv_iload_n d_Cs_newItem_0 rfl ?_
    refine tv_if_ne (tgt := 17) d_Cs_newItem_1 (by decide) (fun _ => ?_) (fun c => absurd c (by decide))
    refine tv_iload_n d_Cs_newItem_17 rfl ?_
    refine tv_iconst (v := 1) d_Cs_newItem_18 (by decide) ?_
    refine tv_icmp_ne (tgt := 47) d_Cs_newItem_19 (by decide) (fun _ => ?_) (fun c => absurd c (by decide))
    refine tv_null d_Cs_newItem_47 ?_
    refine tv_astore d_Cs_newItem_48 (by first | rfl | exact vIsR_rf _) (by decide) rfl ?_
    exact tail none (by decide) (by rw [if_neg (by decide)])
def itQ (G : vG) (nc nm : Nat) (ad : Nat → Nat → Nat) (X : Nat → Nat → Int32) (m j : Nat) (k a b c g : Int32) : vQ := fun r h' => r = .inl (some (.int (nI (j + 1)))) ∧ ∃ ad' Z' L', cP G nc nm ad' (itX X m j k a b c) Z' L' h' ∧ cR (itX X m j k a b c) nc nm L' ∧ zK Z' nc g ∧ ad' 5 = ad 5
theorem c_Cs_item_ok {m j : Nat} {k a b c g : Int32} (hw : wW X nc nm) (hL : cR X nc nm L) (hz : zK Z nc g) (hm : m < nm) (hb : (inB (nI m) 0 (nI nm - 1) && iiB nc k a b c) = true) (hi : iN X m = j) (hj : j < 5) (hk : k = 0 ∨ k = 1 ∨ k = 2) (ha : k = 1 → ∃ d, d < nc ∧ a = nI d) : VT G M_Cs_item 9 300 0 [(0, .ref (ad 5 0)), (1, .int (nI m)), (2, .int k), (3, .int a), (4, .int b), (5, .int c)] [] nc nm ad X Z L 2 65 (itQ G nc nm ad X m j k a b c g) := by
  have h8 := hw.1.1
  refine tv_it_go h8 hw.2.1 hL ?_
  rw [hb]
  refine tv_callS1u (M1 := M_Cs_require) d_Cs_item_26 km_Cs_47 kS_Cs_require (by decide) (by first | rfl | exact vRf_cat _) (by decide) kM_Cs_require ki_Cs (by decide) (by decide +kernel) (c_Cs_require_t) ?_
  refine tv_aload_n d_Cs_item_29 rfl (by first | rfl | exact vIsR_rf _) ?_
  refine tv_get 5 0 d_Cs_item_30 rfl rfl rfl i_Cs 0 (by decide) kf_Cs_10 (Or.inl rfl) rfl ?_
  refine tv_get 5 1 d_Cs_item_33 rfl rfl rfl i_Pr 1 (by decide) kf_Cs_87 (Or.inl rfl) rfl ?_
  refine tv_iload_n d_Cs_item_36 rfl ?_
  refine tv_metGet d_Cs_item_37 km_Cs_68 hL (m) rfl (hm) ?_
  refine tv_cast 1 (m) d_Cs_item_40 (decide_eq_true (hm)) rfl rfl kc_Cs_96 kx_Pm_Pm ?_
  refine tv_astore d_Cs_item_43 (by first | rfl | exact vIsR_rf _) (by decide) rfl ?_
  refine tv_at 45 rfl ?_
  refine tv_aload d_Cs_item_45 rfl (by first | rfl | exact vIsR_rf _) ?_
  refine tv_get 1 (m) d_Cs_item_47 (decide_eq_true (hm)) rfl rfl i_Pm 4 (by decide) kf_Cs_109 (Or.inl rfl) rfl ?_
  refine tv_itSize (m) d_Cs_item_50 km_Cs_55 (hm) ?_
  rw [hi]
  refine tv_iconst (v := 5) d_Cs_item_53 (by decide) ?_
  refine tv_icmp_lt (tgt := 67) d_Cs_item_54 (by decide) (fun _ => ?_) (fun c => absurd (nI_lt (b := 5) hj (by omega)) c)
  refine tv_aload d_Cs_item_67 rfl (by first | rfl | exact vIsR_rf _) ?_
  refine tv_get 1 (m) d_Cs_item_69 (decide_eq_true (hm)) rfl rfl i_Pm 4 (by decide) kf_Cs_109 (Or.inl rfl) rfl ?_
  refine tv_aload_n d_Cs_item_72 rfl (by first | rfl | exact vIsR_rf _) ?_
  refine tv_iload_n d_Cs_item_73 rfl ?_
  refine tv_iload_n d_Cs_item_74 rfl ?_
  refine tv_iload d_Cs_item_75 rfl ?_
  refine tv_iload d_Cs_item_77 rfl ?_
  intro h hP
  have ho := hP.o (k := 5) (i := 0) rfl rfl
  refine v_callV4 (M1 := M_Cs_newItem) d_Cs_item_79 ho.1 ho.2 rfl km_Cs_114 kI_Cs_newItem ks_Cs_Cs_newItem (by decide) rfl rfl rfl rfl (by decide) kM_Cs_newItem ki_Cs (by decide) (by decide +kernel) (c_Cs_newItem h8 hL hk ha h hP) (fun v h' z => ?_) (fun E h' z => ?_)
  · obtain ⟨F, q, hF, hN, hR, z4⟩ := z
    cases z4
    have hF4 := hF.1 4 m (decide_eq_true hm)
    have hF1 := hF.1 1 m (decide_eq_true hm)
    have n1 : ad 1 m ≠ ad 4 m := fun z => by have := (hF.2 1 m 4 m (decide_eq_true hm) (decide_eq_true hm) z).1; omega
    simp only [cE] at hF4
    rw [hi] at hF4
    have go : VL G M_Cs_item 9 300 82 [(0, .ref (ad 5 0)), (1, .int (nI m)), (2, .int k), (3, .int a), (4, .int b), (5, .int c), (6, .ref (ad 1 m))] [.ref q, .ref (ad 4 m)] F [(q, itE ad k a b c)] 1 60 (itQ G nc nm ad X m j k a b c g) := by
      unfold itE
      refine y_addF 0 d_Cs_item_82 km_Cs_77 (hF4) ((by rw [List.length_map, List.length_range]; omega)) rfl rfl kx_It_Ob ?_
      refine y_pop d_Cs_item_85 (by first | rfl | exact vRf_cat _) ?_
      refine y_aload d_Cs_item_86 rfl (by first | rfl | exact vIsR_rf _) ?_
      refine y_getF d_Cs_item_88 (((va_up_ne _ _ n1).trans hF1)) rfl i_Pm 4 (by decide) kf_Cs_109 (Or.inl rfl) rfl ?_
      refine y_sizeF d_Cs_item_91 km_Cs_55 ((va_up_self _ _ _)) ?_
      rw [List.length_append, List.length_map, List.length_range]
      refine y_iretQ d_Cs_item_94 rfl rfl ?_
      intro hN h hR
      refine ⟨rfl, _, _, _, ⟨_, hR, cF_it hw hm hi hj hF (itE_cE hk) hN⟩, cR_same (fun i => itX_k (by omega)) hL, hz, adN_f (by decide)⟩
    exact go hN h' hR
  · obtain ⟨F, q, hF, hN, hR, z4⟩ := z
    cases z4
end VC10
