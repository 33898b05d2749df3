/-! The lists' own methods. -/
section VAl
variable {G : vG} {h : vH}
theorem c_Al_size {a : Nat} {ed mcv : Value} {n : Int32} (hf : h.2 a = .inr (9, [ed, .int n, mcv])) (ha : a ∈ h.1) : V G M_Al_size 0 0 0 [(0, .ref a)] [] h 0 0 (vRet (some (.int n)) h) := by
  refine v_aload_n d_Al_size_0 rfl (by first | rfl | exact vIsR_rf _) ?_
  refine v_get d_Al_size_1 hf ha rfl i_Al 1 (by decide) kf_Al_48 (Or.inl rfl) rfl ?_
  exact v_iret d_Al_size_4 rfl rfl ⟨rfl, rfl⟩
theorem c_Pd_checkIndex {i n : Int32} (h1 : ¬ i < 0) (h2 : i < n) : V G M_Pd_checkIndex 0 0 0 [(0, .int i), (1, .int n), (2, .null)] [] h 0 0 (vRet (some (.int i)) h) := by
  refine v_iload_n d_Pd_checkIndex_0 rfl ?_
  refine v_if_lt (tgt := 9) d_Pd_checkIndex_1 (by decide) (fun c => absurd c (h1)) (fun _ => ?_)
  refine v_iload_n d_Pd_checkIndex_4 rfl ?_
  refine v_iload_n d_Pd_checkIndex_5 rfl ?_
  refine v_icmp_lt (tgt := 16) d_Pd_checkIndex_6 (by decide) (fun _ => ?_) (fun c => absurd (h2) c)
  refine v_iload_n d_Pd_checkIndex_16 rfl ?_
  exact v_iret d_Pd_checkIndex_17 rfl rfl ⟨rfl, rfl⟩
theorem c_Os_checkIndex {i n : Int32} (h1 : ¬ i < 0) (h2 : i < n) : V G M_Os_checkIndex 1 22 0 [(0, .int i), (1, .int n)] [] h 0 0 (vRet (some (.int i)) h) := by
  refine v_iload_n d_Os_checkIndex_0 rfl ?_
  refine v_iload_n d_Os_checkIndex_1 rfl ?_
  refine v_null d_Os_checkIndex_2 ?_
  refine v_callS3r (M1 := M_Pd_checkIndex) d_Os_checkIndex_3 km_Os_105 kS_Pd_checkIndex (by decide) (by first | rfl | exact vRf_cat _) (by first | rfl | exact vRf_cat _) (by first | rfl | exact vRf_cat _) (by decide) kM_Pd_checkIndex ki_Pd (by decide) (by decide +kernel) (c_Pd_checkIndex h1 h2) ?_
  exact v_iret d_Os_checkIndex_6 rfl rfl ⟨rfl, rfl⟩
theorem c_Al_elementData {a b cap : Nat} {i : Int32} {nv mcv : Value} {g : Nat → Option Nat} (hf : h.2 a = .inr (9, [.ref b, nv, mcv])) (ha : a ∈ h.1) (hg : h.2 b = .inl (G.2.1 3, cap, .inr (.inr (.inr (.inr g))))) (hb : b ∈ h.1) (hi : vp_in i cap) : V G M_Al_elementData 0 0 0 [(0, .ref a), (1, .int i)] [] h 0 0 (vRet (some (va_rf (g i.toNatClampNeg))) h) := by
  refine v_aload_n d_Al_elementData_0 rfl (by first | rfl | exact vIsR_rf _) ?_
  refine v_get d_Al_elementData_1 hf ha rfl i_Al 0 (by decide) kf_Al_9 (Or.inl rfl) rfl ?_
  refine v_iload_n d_Al_elementData_4 rfl ?_
  refine v_aald d_Al_elementData_5 hg hb hi ?_
  exact v_aret d_Al_elementData_6 rfl (Or.inl ⟨_, rfl⟩) (by first | rfl | exact vIsR_rf _) ⟨rfl, rfl⟩
theorem c_Al_get {a b cap n i : Nat} {mcv : Value} {g : Nat → Option Nat} (hf : h.2 a = .inr (9, [.ref b, .int (nI n), mcv])) (ha : a ∈ h.1) (hg : h.2 b = .inl (G.2.1 3, cap, .inr (.inr (.inr (.inr g))))) (hb : b ∈ h.1) (hi : i < n) (hn : n ≤ cap) (hc : cap < 500) : V G M_Al_get 2 43 0 [(0, .ref a), (1, .int (nI i))] [] h 0 0 (vRet (some (va_rf (g i))) h) := by
  have e1 : (nI i).toNatClampNeg = i := nI_clamp (by omega)
  refine v_iload_n d_Al_get_0 rfl ?_
  refine v_aload_n d_Al_get_1 rfl (by first | rfl | exact vIsR_rf _) ?_
  refine v_get d_Al_get_2 hf ha rfl i_Al 1 (by decide) kf_Al_48 (Or.inl rfl) rfl ?_
  refine v_callS2r (M1 := M_Os_checkIndex) d_Al_get_5 km_Al_118 kS_Os_checkIndex (by decide) (by first | rfl | exact vRf_cat _) (by first | rfl | exact vRf_cat _) (by decide) kM_Os_checkIndex ki_Os (by decide) (by decide +kernel) (c_Os_checkIndex (nI_pos (by omega)) (nI_lt hi (by omega))) ?_
  refine v_pop d_Al_get_8 (by first | rfl | exact vRf_cat _) ?_
  refine v_aload_n d_Al_get_9 rfl (by first | rfl | exact vIsR_rf _) ?_
  refine v_iload_n d_Al_get_10 rfl ?_
  refine v_callV1r (M1 := M_Al_elementData) d_Al_get_11 hf ha rfl km_Al_123 kI_Al_elementData ks_Al_Al_elementData (by decide) (by first | rfl | exact vRf_cat _) (by decide) kM_Al_elementData ki_Al (by decide) (by decide +kernel) (c_Al_elementData hf ha hg hb (vp_in_nI (by omega) (by omega))) ?_
  rw [e1]
  exact v_aret d_Al_get_14 rfl (Or.inl ⟨_, rfl⟩) (by first | rfl | exact vIsR_rf _) ⟨rfl, rfl⟩
theorem c_Ac_init {a : Nat} : V G M_Ac_init 1 20 0 [(0, .ref a)] [] h 0 0 (vRet none h) := by
  refine v_aload_n d_Ac_init_0 rfl (by first | rfl | exact vIsR_rf _) ?_
  refine v_objInit d_Ac_init_1 km_Ac_1 (by decide) (by decide) ?_
  exact v_vret d_Ac_init_4 rfl ⟨rfl, rfl⟩
theorem c_Ab_init {a : Nat} {v0 v1 v2 : Value} (hf : h.2 a = .inr (9, [v0, v1, v2])) (ha : a ∈ h.1) : V G M_Ab_init 2 40 0 [(0, .ref a)] [] h 0 0 (vRet none (h.1, va_up h.2 a (.inr (9, [v0, v1, .int 0])))) := by
  refine v_aload_n d_Ab_init_0 rfl (by first | rfl | exact vIsR_rf _) ?_
  refine v_callI0u (M1 := M_Ac_init) d_Ab_init_1 rfl rfl rfl (Or.inl km_Ab_1) kI_Ac_init (by decide) (by decide) kM_Ac_init ki_Ac (by decide) (by decide +kernel) c_Ac_init ?_
  refine v_aload_n d_Ab_init_4 rfl (by first | rfl | exact vIsR_rf _) ?_
  refine v_iconst (v := 0) d_Ab_init_5 (by decide) ?_
  refine v_put d_Ab_init_6 hf ha rfl i_Al tt_Al_ok n_Al 2 (by decide) kf_Ab_7 (Or.inl rfl) (Or.inl rfl) rfl rfl rfl ?_
  exact v_vret d_Ab_init_9 rfl ⟨rfl, rfl⟩
theorem c_Al_init {a : Nat} {v0 v1 v2 : Value} (hf : h.2 a = .inr (9, [v0, v1, v2])) (ha : a ∈ h.1) : V G M_Al_init 3 60 0 [(0, .ref a)] [] h 0 0 (vRet none (h.1, va_up (va_up h.2 a (.inr (9, [v0, v1, .int 0]))) a (.inr (9, [.ref G.2.2.1, v1, .int 0])))) := by
  refine v_aload_n d_Al_init_0 rfl (by first | rfl | exact vIsR_rf _) ?_
  refine v_callI0u (M1 := M_Ab_init) d_Al_init_1 rfl rfl rfl (Or.inl km_Al_1) kI_Ab_init (by decide) (by decide) kM_Ab_init ki_Ab (by decide) (by decide +kernel) (c_Ab_init hf ha) ?_
  refine v_aload_n d_Al_init_4 rfl (by first | rfl | exact vIsR_rf _) ?_
  refine v_gets d_Al_init_5 kf_Al_39 ?_
  refine v_put d_Al_init_8 (va_up_self _ _ _) ha rfl i_Al tt_Al_ok n_Al 0 (by decide) kf_Al_9 (Or.inl rfl) (Or.inl rfl) rfl rfl rfl ?_
  exact v_vret d_Al_init_11 rfl ⟨rfl, rfl⟩
theorem c_As_newLength {x y z r : Int32} (hr : x + (if y < z then z else y) = r) (h1 : ¬ r ≤ 0) (h2 : ¬ (2147483639 : Int32) < r) : V G M_As_newLength 1 21 0 [(0, .int x), (1, .int y), (2, .int z)] [] h 0 0 (vRet (some (.int r)) h) := by
  refine v_iload_n d_As_newLength_0 rfl ?_
  refine v_iload_n d_As_newLength_1 rfl ?_
  refine v_iload_n d_As_newLength_2 rfl ?_
  refine v_mmax d_As_newLength_3 km_As_194 ?_
  refine v_iadd d_As_newLength_6 ?_
  rw [hr]
  refine v_istore_n d_As_newLength_7 (by decide) rfl ?_
  refine v_iconst (v := 0) d_As_newLength_8 (by decide) ?_
  refine v_iload_n d_As_newLength_9 rfl ?_
  refine v_icmp_ge (tgt := 21) d_As_newLength_10 (by decide) (fun c => absurd c (h1)) (fun _ => ?_)
  refine v_iload_n d_As_newLength_13 rfl ?_
  refine v_ldcI d_As_newLength_14 kz_499 ?_
  refine v_icmp_gt (tgt := 21) d_As_newLength_16 (by decide) (fun c => absurd c (h2)) (fun _ => ?_)
  refine v_iload_n d_As_newLength_19 rfl ?_
  exact v_iret d_As_newLength_20 rfl rfl ⟨rfl, rfl⟩
/-- a new array of n places that begins with what the old one held -/
def cpQ (G : vG) (h : vH) (n cap : Nat) (g : Nat → Option Nat) : vQ := fun r h' => ∃ q : Nat, q ∉ h.1 ∧ r = .inl (some (.ref q)) ∧ h' = (h.1 ++ [q], va_up (va_up h.2 q (.inl (G.2.1 3, n, .inr (.inr (.inr (.inr (fun _ => none))))))) q (.inl (G.2.1 3, n, .inr (.inr (.inr (.inr (va_cpy g (fun _ => none) 0 0 cap)))))))
theorem c_Ar_copyOf2 {b cap n ci : Nat} {qc : vw_C} {g : Nat → Option Nat} (hg : h.2 b = .inl (G.2.1 3, cap, .inr (.inr (.inr (.inr g))))) (hb : b ∈ h.1) (hn : cap ≤ n) (hn2 : n < 1000) (hc : vCl[ci]? = some qc) (hx : Cond.castable qc.1 "java/lang/Object" ∈ vT) (hel : ∀ i : Nat, i < cap → ∀ y : Nat, g i = some y → y ∈ h.1 ∧ ∃ fs, h.2 y = .inr (ci, fs)) : V G M_Ar_copyOf2 1 60 0 [(0, .ref b), (1, .int (nI n)), (2, .ref G.2.2.2.1)] [] h 1 n (cpQ G h n cap g) := by
  refine v_aload_n d_Ar_copyOf2_0 rfl (by first | rfl | exact vIsR_rf _) ?_
  refine v_ldcM d_Ar_copyOf2_1 kc_Ar_110 ?_
  refine v_acmp_ne (rx := some G.2.2.2.1) (ry := some G.2.2.2.1) (tgt := 13) d_Ar_copyOf2_3 (by decide) (fun c => absurd rfl c) (fun _ => ?_)
  refine v_iload_n d_Ar_copyOf2_6 rfl ?_
  refine v_newq (n := n) d_Ar_copyOf2_7 kc_Ar_2 rfl hn2 (fun q hq => ?_) (by decide) (Nat.le_refl _)
  have hqb : b ≠ q := fun z => hq (z ▸ hb)
  have hg2 : va_up h.2 q (.inl (G.2.1 3, n, .inr (.inr (.inr (.inr (fun _ => none)))))) b = .inl (G.2.1 3, cap, .inr (.inr (.inr (.inr g)))) := (va_up_ne _ _ hqb).trans hg
  refine v_goto (tgt := 24) d_Ar_copyOf2_10 (by decide) ?_
  refine v_astore_n d_Ar_copyOf2_24 (by first | rfl | exact vIsR_rf _) (by decide) rfl ?_
  refine v_aload_n d_Ar_copyOf2_25 rfl (by first | rfl | exact vIsR_rf _) ?_
  refine v_iconst (v := 0) d_Ar_copyOf2_26 (by decide) ?_
  refine v_aload_n d_Ar_copyOf2_27 rfl (by first | rfl | exact vIsR_rf _) ?_
  refine v_iconst (v := 0) d_Ar_copyOf2_28 (by decide) ?_
  refine v_aload_n d_Ar_copyOf2_29 rfl (by first | rfl | exact vIsR_rf _) ?_
  refine v_alen (k := 3) d_Ar_copyOf2_30 (by decide) hg2 (List.mem_append_left _ hb) ?_
  refine v_iload_n d_Ar_copyOf2_31 rfl ?_
  refine v_mmin d_Ar_copyOf2_32 km_Ar_304 ?_
  have e1 : (if nI n < Int32.ofNat cap then nI n else Int32.ofNat cap) = nI cap := if_neg (nI_nlt hn (by omega))
  rw [e1]
  have ec : (nI cap).toNatClampNeg = cap := nI_clamp (by omega)
  have e0 : (0 : Int32).toNatClampNeg = 0 := by decide
  refine v_copy (ci := ci) (q := qc) d_Ar_copyOf2_35 hg2 (List.mem_append_left _ hb) (va_up_self _ _ _) (List.mem_append_right _ List.mem_cons_self) km_Ar_150 (by decide) (by decide) (nI_pos (by omega)) (by rw [ec, e0]; omega) (by rw [ec, e0]; omega) hc hx (fun i hi y hy => ?_) (by decide) (by decide) ?_
  · rw [ec] at hi
    rw [e0, Nat.zero_add] at hy
    obtain ⟨k1, fs, k2⟩ := hel i hi y hy
    exact ⟨List.mem_append_left _ k1, fs, (va_up_ne _ _ (fun z : y = q => hq (z ▸ k1))).trans k2⟩
  · rw [ec, e0]
    refine v_aload_n d_Ar_copyOf2_38 rfl (by first | rfl | exact vIsR_rf _) ?_
    exact v_aret d_Ar_copyOf2_39 rfl (Or.inr ⟨_, rfl⟩) (by first | rfl | exact vIsR_rf _) ⟨q, hq, rfl, rfl⟩
theorem c_Ar_copyOf {b cap n ci : Nat} {qc : vw_C} {g : Nat → Option Nat} (hg : h.2 b = .inl (G.2.1 3, cap, .inr (.inr (.inr (.inr g))))) (hb : b ∈ h.1) (hn : cap ≤ n) (hn2 : n < 1000) (hc : vCl[ci]? = some qc) (hx : Cond.castable qc.1 "java/lang/Object" ∈ vT) (hel : ∀ i : Nat, i < cap → ∀ y : Nat, g i = some y → y ∈ h.1 ∧ ∃ fs, h.2 y = .inr (ci, fs)) : V G M_Ar_copyOf 2 90 0 [(0, .ref b), (1, .int (nI n))] [] h 1 n (cpQ G h n cap g) := by
  refine v_aload_n d_Ar_copyOf_0 rfl (by first | rfl | exact vIsR_rf _) ?_
  refine v_iload_n d_Ar_copyOf_1 rfl ?_
  refine v_aload_n d_Ar_copyOf_2 rfl (by first | rfl | exact vIsR_rf _) ?_
  refine v_getC (n := n) d_Ar_copyOf_3 hg hb km_Ar_86 ks__Ljava_lang_Object__Ob_getClass__Ljava_lang_Class_ kI_Ob_getClass__Ljava_lang_Class_ (by decide) (Nat.le_of_ble_eq_true rfl) ?_
  refine v_callS3 (M1 := M_Ar_copyOf2) d_Ar_copyOf_6 km_Ar_300 kS_Ar_copyOf2 (by decide) rfl rfl rfl (by decide) kM_Ar_copyOf2 ki_Ar (by decide) (by decide +kernel) (c_Ar_copyOf2 hg hb hn hn2 hc hx hel) (fun v h2 z => ?_) (fun E h2 z => (by obtain ⟨q, hq, z1, -⟩ := z; cases z1)) (Nat.le_refl _) (Nat.le_refl _)
  obtain ⟨q, hq, z1, rfl⟩ := z
  cases z1
  exact v_aret d_Ar_copyOf_9 rfl (Or.inr ⟨_, rfl⟩) (by first | rfl | exact vIsR_rf _) ⟨q, hq, rfl, rfl⟩
end VAl
