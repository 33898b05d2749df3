/-! The class: the small methods. -/
section VC4
variable {G : vG} {M : vM} {fr lo pc mc ms : Nat} {lv : List (Nat × Value)} {st : List Value} {nc nm : Nat} {ad : Nat → Nat → Nat} {X Z : Nat → Nat → Int32} {L : Nat → Nat → List Nat} {Q : sQ0}
theorem s_throwN {ik is ic ix : Nat} {cls text : String} {b : ByteArray} (b0 : decode b 0 = .ok (.aload_n 0, 1)) (b1 : decode b 1 = .ok (.aload_n 1, 1)) (b2 : decode b 2 = .ok (.invokespecial ix, 3)) (b5 : decode b 5 = .ok (.return_, 1)) (d0 : decode M.2.1 pc = .ok (.new ik, 3)) (d3 : decode M.2.1 (pc + 3) = .ok (.dup, 1)) (d4 : decode M.2.1 (pc + 4) = .ok (.ldc is, 2)) (d6 : decode M.2.1 (pc + 6) = .ok (.invokespecial ic, 3)) (d9 : decode M.2.1 (pc + 9) = .ok (.athrow, 1)) (hcls : Bundle.fit cls = true) (hk : Cond.classLink M.1.cls ik cls ∈ vT) (hi : Cond.initialized cls ∈ vT) (hstr : (M.1.cls, is, text) ∈ vStr) (hw : ∀ w ∈ vThN M.1.cls ic cls ix b, w ∈ vFour ∨ w ∈ vT) (hh : M.2.2.2.2 = []) (hfr : 6 ≤ fr) (hlo : (st.map fun v => v.category).sum + 90 ≤ lo) (hq : Q (.inr cls) X Z L) (e1 : 1 ≤ mc := by decide) (e2 : 6 ≤ ms := by decide) : VS G M fr lo pc lv st nc nm ad X Z L mc ms Q := fun h hP => v_throwN b0 b1 b2 b5 d0 d3 d4 d6 d9 hcls hk hi hstr hw hh hfr hlo ⟨X, Z, L, hP, hq⟩ e1 e2
def sThr (E : String) (X' Z' : Nat → Nat → Int32) (L' : Nat → Nat → List Nat) : sQ0 := fun r X Z L => r = .inr E ∧ X = X' ∧ Z = Z' ∧ L = L'
def eIa : String := "java/lang/IllegalArgumentException"
def eIs : String := "java/lang/IllegalStateException"
def eNs : String := "java/util/NoSuchElementException"
theorem inB_no {v : Int32} {n : Nat} (hn : n < 1000) (h : v < 0 ∨ nI n ≤ v) : inB v 0 (nI n - 1) = false := by
  cases e : inB v 0 (nI n - 1) with
  | false => rfl
  | true =>
    obtain ⟨c, h1, rfl⟩ := (inB_iff hn).mp e
    rcases h with z | z
    · exact absurd z (nI_pos (by omega))
    · exact absurd z (nI_ge h1 (by omega))
theorem inB_yes {v : Int32} {n : Nat} (hn : n < 1000) (h1 : ¬ v < 0) (h2 : ¬ nI n ≤ v) : inB v 0 (nI n - 1) = true := by
  rcases pk_ix v (n := n) (by omega) with z | z | ⟨j, z1, z2⟩
  · exact absurd z h1
  · exact absurd z h2
  · exact (inB_iff hn).mpr ⟨j, z1, z2⟩
theorem c_Cs_isClass {v : Int32} (hn : nc ≤ 8) (hL : cR X nc nm L) : VS G M_Cs_isClass 1 22 0 [(0, .ref (ad 5 0)), (1, .int v)] [] nc nm ad X Z L 0 0 (sRet (some (.int (bI (inB v 0 (nI nc - 1))))) X Z L) := by
  have no : inB v 0 (nI nc - 1) = false → VS G M_Cs_isClass 1 22 22 [(0, .ref (ad 5 0)), (1, .int v)] [] nc nm ad X Z L 0 0 (sRet (some (.int (bI (inB v 0 (nI nc - 1))))) X Z L) := by
    intro h
    rw [h]
    refine s_iconst (v := 0) d_Cs_isClass_22 (by decide) ?_
    exact s_iret d_Cs_isClass_23 rfl rfl ⟨rfl, rfl, rfl, rfl⟩
  refine s_iload_n d_Cs_isClass_0 rfl ?_
  refine s_if_lt (tgt := 22) d_Cs_isClass_1 (by decide) (fun c_1 => ?_) (fun c_1 => ?_)
  · exact no (inB_no (by omega) (Or.inl c_1))
  · refine s_iload_n d_Cs_isClass_4 rfl ?_
    refine s_aload_n d_Cs_isClass_5 rfl (by first | rfl | exact vIsR_rf _) ?_
    refine s_get 5 0 d_Cs_isClass_6 rfl rfl rfl i_Cs 0 (by decide) kf_Cs_10 (Or.inl rfl) rfl ?_
    refine s_get 5 1 d_Cs_isClass_9 rfl rfl rfl i_Pr 0 (by decide) kf_Cs_51 (Or.inl rfl) rfl ?_
    refine s_clsSize d_Cs_isClass_12 km_Cs_55 hL ?_
    refine s_icmp_ge (tgt := 22) d_Cs_isClass_15 (by decide) (fun c_15 => ?_) (fun c_15 => ?_)
    · exact no (inB_no (by omega) (Or.inr c_15))
    · rw [inB_yes (by omega) c_1 c_15]
      refine s_iconst (v := 1) d_Cs_isClass_18 (by decide) ?_
      refine s_goto (tgt := 23) d_Cs_isClass_19 (by decide) ?_
      exact s_iret d_Cs_isClass_23 rfl rfl ⟨rfl, rfl, rfl, rfl⟩
theorem c_Cs_isMethod {v : Int32} (hn : nm ≤ 24) (hL : cR X nc nm L) : VS G M_Cs_isMethod 1 22 0 [(0, .ref (ad 5 0)), (1, .int v)] [] nc nm ad X Z L 0 0 (sRet (some (.int (bI (inB v 0 (nI nm - 1))))) X Z L) := by
  have no : inB v 0 (nI nm - 1) = false → VS G M_Cs_isMethod 1 22 22 [(0, .ref (ad 5 0)), (1, .int v)] [] nc nm ad X Z L 0 0 (sRet (some (.int (bI (inB v 0 (nI nm - 1))))) X Z L) := by
    intro h
    rw [h]
    refine s_iconst (v := 0) d_Cs_isMethod_22 (by decide) ?_
    exact s_iret d_Cs_isMethod_23 rfl rfl ⟨rfl, rfl, rfl, rfl⟩
  refine s_iload_n d_Cs_isMethod_0 rfl ?_
  refine s_if_lt (tgt := 22) d_Cs_isMethod_1 (by decide) (fun c_1 => ?_) (fun c_1 => ?_)
  · exact no (inB_no (by omega) (Or.inl c_1))
  · refine s_iload_n d_Cs_isMethod_4 rfl ?_
    refine s_aload_n d_Cs_isMethod_5 rfl (by first | rfl | exact vIsR_rf _) ?_
    refine s_get 5 0 d_Cs_isMethod_6 rfl rfl rfl i_Cs 0 (by decide) kf_Cs_10 (Or.inl rfl) rfl ?_
    refine s_get 5 1 d_Cs_isMethod_9 rfl rfl rfl i_Pr 1 (by decide) kf_Cs_87 (Or.inl rfl) rfl ?_
    refine s_metSize d_Cs_isMethod_12 km_Cs_55 hL ?_
    refine s_icmp_ge (tgt := 22) d_Cs_isMethod_15 (by decide) (fun c_15 => ?_) (fun c_15 => ?_)
    · exact no (inB_no (by omega) (Or.inr c_15))
    · rw [inB_yes (by omega) c_1 c_15]
      refine s_iconst (v := 1) d_Cs_isMethod_18 (by decide) ?_
      refine s_goto (tgt := 23) d_Cs_isMethod_19 (by decide) ?_
      exact s_iret d_Cs_isMethod_23 rfl rfl ⟨rfl, rfl, rfl, rfl⟩
theorem c_Cs_isName {v : Int32} : VS G M_Cs_isName 0 0 0 [(0, .int v)] [] nc nm ad X Z L 0 0 (sRet (some (.int (bI (inB v 0 25)))) X Z L) := by
  have no : inB v 0 25 = false → VS G M_Cs_isName 0 0 14 [(0, .int v)] [] nc nm ad X Z L 0 0 (sRet (some (.int (bI (inB v 0 25)))) X Z L) := by
    intro h
    rw [h]
    refine s_iconst (v := 0) d_Cs_isName_14 (by decide) ?_
    exact s_iret d_Cs_isName_15 rfl rfl ⟨rfl, rfl, rfl, rfl⟩
  refine s_iload_n d_Cs_isName_0 rfl ?_
  refine s_if_lt (tgt := 14) d_Cs_isName_1 (by decide) (fun c_1 => ?_) (fun c_1 => ?_)
  · exact no (inB_no (n := 26) (by omega) (Or.inl c_1))
  · refine s_iload_n d_Cs_isName_4 rfl ?_
    refine s_bipush (v := 26) d_Cs_isName_5 (by decide) ?_
    refine s_icmp_ge (tgt := 14) d_Cs_isName_7 (by decide) (fun c_7 => ?_) (fun c_7 => ?_)
    · exact no (inB_no (n := 26) (by omega) (Or.inr c_7))
    · rw [show inB v 0 25 = true from inB_yes (n := 26) (by omega) c_1 c_7]
      refine s_iconst (v := 1) d_Cs_isName_10 (by decide) ?_
      refine s_goto (tgt := 15) d_Cs_isName_11 (by decide) ?_
      exact s_iret d_Cs_isName_15 rfl rfl ⟨rfl, rfl, rfl, rfl⟩
theorem c_Cs_isArity {v : Int32} : VS G M_Cs_isArity 0 0 0 [(0, .int v)] [] nc nm ad X Z L 0 0 (sRet (some (.int (bI (inB v 0 2)))) X Z L) := by
  have no : inB v 0 2 = false → VS G M_Cs_isArity 0 0 13 [(0, .int v)] [] nc nm ad X Z L 0 0 (sRet (some (.int (bI (inB v 0 2)))) X Z L) := by
    intro h
    rw [h]
    refine s_iconst (v := 0) d_Cs_isArity_13 (by decide) ?_
    exact s_iret d_Cs_isArity_14 rfl rfl ⟨rfl, rfl, rfl, rfl⟩
  refine s_iload_n d_Cs_isArity_0 rfl ?_
  refine s_if_lt (tgt := 13) d_Cs_isArity_1 (by decide) (fun c_1 => ?_) (fun c_1 => ?_)
  · exact no (inB_no (n := 3) (by omega) (Or.inl c_1))
  · refine s_iload_n d_Cs_isArity_4 rfl ?_
    refine s_iconst (v := 3) d_Cs_isArity_5 (by decide) ?_
    refine s_icmp_ge (tgt := 13) d_Cs_isArity_6 (by decide) (fun c_6 => ?_) (fun c_6 => ?_)
    · exact no (inB_no (n := 3) (by omega) (Or.inr c_6))
    · rw [show inB v 0 2 = true from inB_yes (n := 3) (by omega) c_1 c_6]
      refine s_iconst (v := 1) d_Cs_isArity_9 (by decide) ?_
      refine s_goto (tgt := 14) d_Cs_isArity_10 (by decide) ?_
      exact s_iret d_Cs_isArity_14 rfl rfl ⟨rfl, rfl, rfl, rfl⟩
theorem c_Cs_require_t : VS G M_Cs_require 0 0 0 [(0, .int (bI true))] [] nc nm ad X Z L 0 0 (sRet none X Z L) := by
  refine s_iload_n d_Cs_require_0 rfl ?_
  refine s_if_ne (tgt := 14) d_Cs_require_1 (by decide) (fun _ => ?_) (fun c => absurd c (by decide))
  exact s_vret d_Cs_require_14 rfl ⟨rfl, rfl, rfl, rfl⟩
theorem c_Cs_require_f : VS G M_Cs_require 6 90 0 [(0, .int (bI false))] [] nc nm ad X Z L 1 6 (sThr eIa X Z L) := by
  refine s_iload_n d_Cs_require_0 rfl ?_
  refine s_if_ne (tgt := 14) d_Cs_require_1 (by decide) (fun c => absurd (rfl) c) (fun _ => ?_)
  exact s_throw d_Cs_require_4 d_Cs_require_7 d_Cs_require_8 d_Cs_require_10 d_Cs_require_13 (by decide) kc_Cs_191 ki_Ia (text := "a number out of range, or a CLASS or METHOD that is not there") (List.mem_of_getElem? (i := 0) rfl) tw_Cs_195 rfl (by first | decide | omega) (by first | exact Nat.le_of_ble_eq_true rfl | omega) ⟨rfl, rfl, rfl, rfl⟩
/-- numbers stand where they should -/
def zR (Z : Nat → Nat → Int32) (nc : Nat) : Prop := ∀ c, c < nc → Z 0 c = nI c
theorem c_Cs_parentOf {v : Int32} (hw : wW X nc nm) (hL : cR X nc nm L) (hz : zR Z nc) : VS G M_Cs_parentOf 3 64 0 [(0, .ref (ad 5 0)), (1, .int v)] [] nc nm ad X Z L 0 0 (sRet (some (.int (if inB v 0 (nI nc - 1) then X 0 v.toNatClampNeg else -2))) X Z L) := by
  have h8 := hw.1.1
  refine s_aload_n d_Cs_parentOf_0 rfl (by first | rfl | exact vIsR_rf _) ?_
  refine s_iload_n d_Cs_parentOf_1 rfl ?_
  refine s_callV1r (M1 := M_Cs_isClass) 5 0 d_Cs_parentOf_2 rfl rfl rfl km_Cs_43 kI_Cs_isClass ks_Cs_Cs_isClass (by decide) (by first | rfl | exact vRf_cat _) (by decide) kM_Cs_isClass ki_Cs (by decide) (by decide +kernel) (c_Cs_isClass h8 hL) ?_
  cases hb : inB v 0 (nI nc - 1) with
  | false =>
    refine s_if_ne (tgt := 11) d_Cs_parentOf_5 (by decide) (fun c => absurd (rfl) c) (fun _ => ?_)
    refine s_bipush (v := (-2)) d_Cs_parentOf_8 (by decide) ?_
    exact s_iret d_Cs_parentOf_10 rfl rfl ⟨rfl, rfl, rfl, rfl⟩
  | true =>
    obtain ⟨c, hc, rfl⟩ := (inB_iff (by omega)).mp hb
    rw [nI_clamp (by omega), if_pos rfl]
    refine s_if_ne (tgt := 11) d_Cs_parentOf_5 (by decide) (fun _ => ?_) (fun c => absurd c (by decide))
    refine s_aload_n d_Cs_parentOf_11 rfl (by first | rfl | exact vIsR_rf _) ?_
    refine s_get 5 0 d_Cs_parentOf_12 rfl rfl rfl i_Cs 0 (by decide) kf_Cs_10 (Or.inl rfl) rfl ?_
    refine s_get 5 1 d_Cs_parentOf_15 rfl rfl rfl i_Pr 0 (by decide) kf_Cs_51 (Or.inl rfl) rfl ?_
    refine s_iload_n d_Cs_parentOf_18 rfl ?_
    refine s_clsGet d_Cs_parentOf_19 km_Cs_68 hL (c) rfl (hc) ?_
    refine s_cast 0 (c) d_Cs_parentOf_22 (decide_eq_true (hc)) rfl rfl kc_Cs_72 kx_Pc_Pc ?_
    refine s_get 0 (c) d_Cs_parentOf_25 (decide_eq_true (hc)) rfl rfl i_Pc 0 (by decide) kf_Cs_185 (Or.inl rfl) rfl ?_
    rcases wP_cases hw.1 hc with ⟨h1, h2⟩ | ⟨d, h1, h2, h3⟩
    · rw [h2, h1]
      refine s_astore_n d_Cs_parentOf_28 (by first | rfl | exact vIsR_rf _) (by decide) rfl ?_
      refine s_aload_n d_Cs_parentOf_29 rfl (by first | rfl | exact vIsR_rf _) ?_
      refine s_ifnonnull (r := none) (tgt := 37) d_Cs_parentOf_30 (by decide) (fun _ => ?_) (fun _ z => nomatch z)
      refine s_iconst (v := (-1)) d_Cs_parentOf_33 (by decide) ?_
      refine s_goto (tgt := 41) d_Cs_parentOf_34 (by decide) ?_
      exact s_iret d_Cs_parentOf_41 rfl rfl ⟨rfl, rfl, rfl, rfl⟩
    · rw [h3, h2]
      refine s_astore_n d_Cs_parentOf_28 (by first | rfl | exact vIsR_rf _) (by decide) rfl ?_
      refine s_aload_n d_Cs_parentOf_29 rfl (by first | rfl | exact vIsR_rf _) ?_
      refine s_ifnonnull (r := some (ad 0 d)) (tgt := 37) d_Cs_parentOf_30 (by decide) (fun z => nomatch z) (fun _ _ => ?_)
      refine s_aload_n d_Cs_parentOf_37 rfl (by first | rfl | exact vIsR_rf _) ?_
      refine s_get 0 (d) d_Cs_parentOf_38 (decide_eq_true ((show d < nc by omega))) rfl rfl i_Pc 3 (by decide) kf_Cs_147 (Or.inl rfl) rfl ?_
      rw [hz d (by omega)]
      exact s_iret d_Cs_parentOf_41 rfl rfl ⟨rfl, rfl, rfl, rfl⟩
theorem c_Pr_liveMethods {t : tT} (hw : wW X nc nm) (hL : cR X nc nm L) : VS G M_Pr_liveMethods 3 64 0 [(0, .ref (ad 5 1))] [] nc nm ad X (zT Z nc nm t) L 0 0 (sRet (some (.int (nI (cntB t.2.1 nm)))) X (zT Z nc nm t) L) := by
  have h24 := hw.2.1
  have loop : ∀ r m, m + r = nm → VS G M_Pr_liveMethods 3 64 4 [(0, .ref (ad 5 1)), (1, .int (nI (cntB t.2.1 m))), (2, .int (nI m))] [] nc nm ad X (zT Z nc nm t) L 0 0 (sRet (some (.int (nI (cntB t.2.1 nm)))) X (zT Z nc nm t) L) := by
    intro r
    induction r with
    | zero =>
      intro m hm
      have hmn : m = nm := by omega
      subst hmn
      refine s_iload_n d_Pr_liveMethods_4 rfl ?_
      refine s_aload_n d_Pr_liveMethods_5 rfl (by first | rfl | exact vIsR_rf _) ?_
      refine s_get 5 1 d_Pr_liveMethods_6 rfl rfl rfl i_Pr 1 (by decide) kf_Pr_16 (Or.inl rfl) rfl ?_
      refine s_metSize d_Pr_liveMethods_9 km_Pr_19 hL ?_
      refine s_icmp_ge (tgt := 41) d_Pr_liveMethods_12 (by decide) (fun _ => ?_) (fun c => absurd (nI_le (Nat.le_refl _) (by omega)) c)
      refine s_iload_n d_Pr_liveMethods_41 rfl ?_
      exact s_iret d_Pr_liveMethods_42 rfl rfl ⟨rfl, rfl, rfl, rfl⟩
    | succ r ih =>
      intro m hm
      have hmn : m < nm := by omega
      have nx := ih (m + 1) (by omega)
      refine s_iload_n d_Pr_liveMethods_4 rfl ?_
      refine s_aload_n d_Pr_liveMethods_5 rfl (by first | rfl | exact vIsR_rf _) ?_
      refine s_get 5 1 d_Pr_liveMethods_6 rfl rfl rfl i_Pr 1 (by decide) kf_Pr_16 (Or.inl rfl) rfl ?_
      refine s_metSize d_Pr_liveMethods_9 km_Pr_19 hL ?_
      refine s_icmp_ge (tgt := 41) d_Pr_liveMethods_12 (by decide) (fun c => absurd c (nI_ge (by omega) (by omega))) (fun _ => ?_)
      refine s_aload_n d_Pr_liveMethods_15 rfl (by first | rfl | exact vIsR_rf _) ?_
      refine s_get 5 1 d_Pr_liveMethods_16 rfl rfl rfl i_Pr 1 (by decide) kf_Pr_16 (Or.inl rfl) rfl ?_
      refine s_iload_n d_Pr_liveMethods_19 rfl ?_
      refine s_at 20 rfl ?_
      refine s_metGet d_Pr_liveMethods_20 km_Pr_23 hL (m) rfl (hmn) ?_
      refine s_cast 1 (m) d_Pr_liveMethods_23 (decide_eq_true (hmn)) rfl rfl kc_Pr_27 kx_Pm_Pm ?_
      refine s_get 1 (m) d_Pr_liveMethods_26 (decide_eq_true (hmn)) rfl rfl i_Pm 7 (by decide) kf_Pr_29 (Or.inl rfl) rfl ?_
      rw [zT_2 hmn]
      cases hl : t.2.1 m with
      | false =>
        rw [show cntB t.2.1 (m + 1) = cntB t.2.1 m by show cntB t.2.1 m + _ = _; rw [hl]; rfl] at nx
        refine s_if_eq (tgt := 35) d_Pr_liveMethods_29 (by decide) (fun _ => ?_) (fun c => absurd (rfl) c)
        refine s_iincw (w := 1) d_Pr_liveMethods_35 rfl (by decide) (by decide) rfl ?_
        refine s_goto (tgt := 4) d_Pr_liveMethods_38 (by decide) ?_
        rw [nI_1]
        exact nx
      | true =>
        rw [show cntB t.2.1 (m + 1) = cntB t.2.1 m + 1 by show cntB t.2.1 m + _ = _; rw [hl]; rfl] at nx
        refine s_if_eq (tgt := 35) d_Pr_liveMethods_29 (by decide) (fun c => absurd c (by decide)) (fun _ => ?_)
        refine s_iincw (w := 1) d_Pr_liveMethods_32 rfl (by decide) (by decide) rfl ?_
        refine s_iincw (w := 1) d_Pr_liveMethods_35 rfl (by decide) (by decide) rfl ?_
        refine s_goto (tgt := 4) d_Pr_liveMethods_38 (by decide) ?_
        rw [nI_1, nI_1]
        exact nx
  refine s_iconst (v := 0) d_Pr_liveMethods_0 (by decide) ?_
  refine s_istore_n d_Pr_liveMethods_1 (by decide) rfl ?_
  refine s_iconst (v := 0) d_Pr_liveMethods_2 (by decide) ?_
  refine s_istore_n d_Pr_liveMethods_3 (by decide) rfl ?_
  exact loop nm 0 (by omega)
theorem c_Pr_madeClasses {t : tT} (hw : wW X nc nm) (hL : cR X nc nm L) : VS G M_Pr_madeClasses 3 64 0 [(0, .ref (ad 5 1))] [] nc nm ad X (zT Z nc nm t) L 0 0 (sRet (some (.int (nI (cntB t.1 nc)))) X (zT Z nc nm t) L) := by
  have h8 := hw.1.1
  have loop : ∀ r m, m + r = nc → VS G M_Pr_madeClasses 3 64 4 [(0, .ref (ad 5 1)), (1, .int (nI (cntB t.1 m))), (2, .int (nI m))] [] nc nm ad X (zT Z nc nm t) L 0 0 (sRet (some (.int (nI (cntB t.1 nc)))) X (zT Z nc nm t) L) := by
    intro r
    induction r with
    | zero =>
      intro m hm
      have hmn : m = nc := by omega
      subst hmn
      refine s_iload_n d_Pr_madeClasses_4 rfl ?_
      refine s_aload_n d_Pr_madeClasses_5 rfl (by first | rfl | exact vIsR_rf _) ?_
      refine s_get 5 1 d_Pr_madeClasses_6 rfl rfl rfl i_Pr 0 (by decide) kf_Pr_10 (Or.inl rfl) rfl ?_
      refine s_clsSize d_Pr_madeClasses_9 km_Pr_19 hL ?_
      refine s_icmp_ge (tgt := 41) d_Pr_madeClasses_12 (by decide) (fun _ => ?_) (fun c => absurd (nI_le (Nat.le_refl _) (by omega)) c)
      refine s_iload_n d_Pr_madeClasses_41 rfl ?_
      exact s_iret d_Pr_madeClasses_42 rfl rfl ⟨rfl, rfl, rfl, rfl⟩
    | succ r ih =>
      intro m hm
      have hmn : m < nc := by omega
      have nx := ih (m + 1) (by omega)
      refine s_iload_n d_Pr_madeClasses_4 rfl ?_
      refine s_aload_n d_Pr_madeClasses_5 rfl (by first | rfl | exact vIsR_rf _) ?_
      refine s_get 5 1 d_Pr_madeClasses_6 rfl rfl rfl i_Pr 0 (by decide) kf_Pr_10 (Or.inl rfl) rfl ?_
      refine s_clsSize d_Pr_madeClasses_9 km_Pr_19 hL ?_
      refine s_icmp_ge (tgt := 41) d_Pr_madeClasses_12 (by decide) (fun c => absurd c (nI_ge (by omega) (by omega))) (fun _ => ?_)
      refine s_aload_n d_Pr_madeClasses_15 rfl (by first | rfl | exact vIsR_rf _) ?_
      refine s_get 5 1 d_Pr_madeClasses_16 rfl rfl rfl i_Pr 0 (by decide) kf_Pr_10 (Or.inl rfl) rfl ?_
      refine s_iload_n d_Pr_madeClasses_19 rfl ?_
      refine s_at 20 rfl ?_
      refine s_clsGet d_Pr_madeClasses_20 km_Pr_23 hL (m) rfl (hmn) ?_
      refine s_cast 0 (m) d_Pr_madeClasses_23 (decide_eq_true (hmn)) rfl rfl kc_Pr_33 kx_Pc_Pc ?_
      refine s_get 0 (m) d_Pr_madeClasses_26 (decide_eq_true (hmn)) rfl rfl i_Pc 4 (by decide) kf_Pr_35 (Or.inl rfl) rfl ?_
      rw [zT_1 hmn]
      cases hl : t.1 m with
      | false =>
        rw [show cntB t.1 (m + 1) = cntB t.1 m by show cntB t.1 m + _ = _; rw [hl]; rfl] at nx
        refine s_if_eq (tgt := 35) d_Pr_madeClasses_29 (by decide) (fun _ => ?_) (fun c => absurd (rfl) c)
        refine s_iincw (w := 1) d_Pr_madeClasses_35 rfl (by decide) (by decide) rfl ?_
        refine s_goto (tgt := 4) d_Pr_madeClasses_38 (by decide) ?_
        rw [nI_1]
        exact nx
      | true =>
        rw [show cntB t.1 (m + 1) = cntB t.1 m + 1 by show cntB t.1 m + _ = _; rw [hl]; rfl] at nx
        refine s_if_eq (tgt := 35) d_Pr_madeClasses_29 (by decide) (fun c => absurd c (by decide)) (fun _ => ?_)
        refine s_iincw (w := 1) d_Pr_madeClasses_32 rfl (by decide) (by decide) rfl ?_
        refine s_iincw (w := 1) d_Pr_madeClasses_35 rfl (by decide) (by decide) rfl ?_
        refine s_goto (tgt := 4) d_Pr_madeClasses_38 (by decide) ?_
        rw [nI_1, nI_1]
        exact nx
  refine s_iconst (v := 0) d_Pr_madeClasses_0 (by decide) ?_
  refine s_istore_n d_Pr_madeClasses_1 (by decide) rfl ?_
  refine s_iconst (v := 0) d_Pr_madeClasses_2 (by decide) ?_
  refine s_istore_n d_Pr_madeClasses_3 (by decide) rfl ?_
  exact loop nc 0 (by omega)
end VC4
