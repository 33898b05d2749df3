/-! Lists: get and size of what a list is; taking an element out. -/
section VRm
variable {G : vG} {h : vH}
theorem l_size {a : Nat} {bk : Option Nat} {xs : List Nat} (hls : lsAt G h a bk xs) : V G M_Al_size 0 0 0 [(0, .ref a)] [] h 0 0 (vRet (some (.int (nI xs.length))) h) := by
  obtain ⟨ed, mcv, hf, hr⟩ := lsAt_fields hls
  exact c_Al_size hf hls.1
theorem l_get {a i : Nat} {bk : Option Nat} {xs : List Nat} (hls : lsAt G h a bk xs) (hi : i < xs.length) : V G M_Al_get 2 43 0 [(0, .ref a), (1, .int (nI i))] [] h 0 0 (vRet (some (.ref (xs.getD i 0))) h) := by
  obtain ⟨ha, mcv, hls⟩ := hls
  cases bk with
  | none => obtain ⟨h1, rfl⟩ := hls; cases hi
  | some b =>
    obtain ⟨cap, g, h1, h2, h3, h4, h5, h6, h7⟩ := hls
    have k := c_Al_get h1 ha h3 h2 hi h4 (by omega)
    rw [h7 i hi] at k
    exact k
theorem vErase {xs : List Nat} {i j : Nat} : (xs.eraseIdx i).getD j 0 = if j < i then xs.getD j 0 else xs.getD (j + 1) 0 := by
  rw [List.getD_eq_getElem?_getD, List.getElem?_eraseIdx]
  split <;> rw [List.getD_eq_getElem?_getD]
theorem vIn_getD {xs : List Nat} {i : Nat} (hi : i < xs.length) : xs.getD i 0 ∈ xs := by
  rw [List.getD_eq_getElem?_getD, List.getElem?_eq_getElem hi]
  exact List.getElem_mem hi
def rmQ (G : vG) (h : vH) (a b : Nat) (xs : List Nat) (v : Option Value) : vQ := fun r h' => r = .inl v ∧ lsAt G h' a (some b) xs ∧ h'.1 = h.1 ∧ ∀ c, c ≠ a → c ≠ b → h'.2 c = h.2 c
/-- the end of remove: the last place is emptied, the size is one less -/
theorem c_Al_fastRemove_end {a b n cap fr lo mc ms : Nat} {iv mcv : Int32} {ys : List Nat} {g : Nat → Option Nat} (hf : h.2 a = .inr (9, [.ref b, .int (nI (n + 1)), .int mcv])) (ha : a ∈ h.1) (hg : h.2 b = vOA G cap g) (hb : b ∈ h.1) (hn : ys.length = n) (hcap : cap < 100) (hl : n < cap) (hxs : ∀ i, i < n → g i = some (ys.getD i 0)) : V G M_Al_fastRemove fr lo 34 [(0, .ref a), (1, .ref b), (2, .int iv), (3, .int (nI n))] [] h mc ms (rmQ G h a b ys none) := by
  have hab : a ≠ b := fun z => by rw [z, hg] at hf; cases hf
  refine v_aload_n d_Al_fastRemove_34 rfl (by first | rfl | exact vIsR_rf _) ?_
  refine v_aload_n d_Al_fastRemove_35 rfl (by first | rfl | exact vIsR_rf _) ?_
  refine v_iload_n d_Al_fastRemove_36 rfl ?_
  refine v_dup_x1 d_Al_fastRemove_37 (by first | rfl | exact vRf_cat _) (by first | rfl | exact vRf_cat _) ?_
  refine v_put d_Al_fastRemove_38 hf ha rfl i_Al tt_Al_ok n_Al 1 (by decide) kf_Al_48 (Or.inl rfl) (Or.inl rfl) rfl rfl rfl ?_
  refine v_null d_Al_fastRemove_41 ?_
  refine v_aastN d_Al_fastRemove_42 ((va_up_ne _ _ hab.symm).trans hg) hb (vp_in_nI hl (by omega)) ?_
  rw [nI_clamp (show n < 2 ^ 31 by omega)]
  refine v_vret d_Al_fastRemove_43 rfl ⟨rfl, ⟨ha, mcv, cap, va_up g n none, ?_, hb, va_up_self _ _ _, by omega, by omega, hcap, fun i hi => ?_⟩, rfl, fun c k1 k2 => (va_up_ne _ _ k2).trans (va_up_ne _ _ k1)⟩
  · rw [hn]
    exact (va_up_ne _ _ hab).trans (va_up_self _ _ _)
  · rw [va_up_ne _ _ (by omega), hxs i (by omega)]
theorem c_Al_fastRemove {a b i ci : Nat} {mcv : Int32} {xs : List Nat} {cap : Nat} {g : Nat → Option Nat} {qc : vw_C} (hf : h.2 a = .inr (9, [.ref b, .int (nI xs.length), .int mcv])) (ha : a ∈ h.1) (hg : h.2 b = vOA G cap g) (hb : b ∈ h.1) (hl : xs.length ≤ cap) (hcap : cap < 100) (hxs : ∀ i, i < xs.length → g i = some (xs.getD i 0)) (hi : i < xs.length) (hel : ∀ y ∈ xs, y ∈ h.1 ∧ ∃ fs, h.2 y = .inr (ci, fs)) (hc : vCl[ci]? = some qc) (hx : Cond.castable qc.1 "java/lang/Object" ∈ vT) (h9c : ci ≠ 9) : V G M_Al_fastRemove 1 70 0 [(0, .ref a), (1, .ref b), (2, .int (nI i))] [] h 0 0 (rmQ G h a b (xs.eraseIdx i) none) := by
  have hab : a ≠ b := fun z => by rw [z, hg] at hf; cases hf
  obtain ⟨n, hn⟩ : ∃ n, xs.length = n + 1 := ⟨xs.length - 1, by omega⟩
  have hlen : (xs.eraseIdx i).length = n := by rw [List.length_eraseIdx]; simp [hi]; omega
  rw [hn] at hf
  refine v_aload_n d_Al_fastRemove_0 rfl (by first | rfl | exact vIsR_rf _) ?_
  refine v_dup d_Al_fastRemove_1 (by first | rfl | exact vRf_cat _) ?_
  refine v_get d_Al_fastRemove_2 hf ha rfl i_Al 2 (by decide) kf_Al_63 (Or.inr kz_57) rfl ?_
  refine v_iconst (v := 1) d_Al_fastRemove_5 (by decide) ?_
  refine v_iadd d_Al_fastRemove_6 ?_
  refine v_put d_Al_fastRemove_7 hf ha rfl i_Al tt_Al_ok n_Al 2 (by decide) kf_Al_63 (Or.inr kz_57) (Or.inl rfl) rfl rfl rfl ?_
  have hf2 : va_up h.2 a (.inr (9, [.ref b, .int (nI (n + 1)), .int (mcv + 1)])) a = .inr (9, [.ref b, .int (nI (n + 1)), .int (mcv + 1)]) := va_up_self _ _ _
  have hg2 : va_up h.2 a (.inr (9, [.ref b, .int (nI (n + 1)), .int (mcv + 1)])) b = vOA G cap g := (va_up_ne _ _ hab.symm).trans hg
  refine v_aload_n d_Al_fastRemove_10 rfl (by first | rfl | exact vIsR_rf _) ?_
  refine v_get d_Al_fastRemove_11 hf2 ha rfl i_Al 1 (by decide) kf_Al_48 (Or.inl rfl) rfl ?_
  refine v_iconst (v := 1) d_Al_fastRemove_14 (by decide) ?_
  refine v_isub d_Al_fastRemove_15 ?_
  rw [nI_pred n]
  refine v_dup d_Al_fastRemove_16 (by first | rfl | exact vRf_cat _) ?_
  refine v_istore_n d_Al_fastRemove_17 (by decide) rfl ?_
  refine v_iload_n d_Al_fastRemove_18 rfl ?_
  refine v_icmp_le (tgt := 34) d_Al_fastRemove_19 (by decide) (fun c => ?_) (fun c => ?_)
  · have hin : i = n := by
      have := (nI_leI (by omega) (by omega)).mp c
      omega
    refine V.mono ?_ (c_Al_fastRemove_end hf2 ha hg2 hb hlen hcap (by omega) (fun j hj => ?_))
    · intro r h3 w
      obtain ⟨w1, w2, w3, w4⟩ := w
      exact ⟨w1, w2, w3, fun c k1 k2 => (w4 c k1 k2).trans (va_up_ne _ _ k1)⟩
    · rw [hxs j (by omega), vErase, if_pos (by omega)]
  · have hin : i < n := by
      rcases Nat.lt_or_ge i n with q | q
      · exact q
      · exact absurd (nI_le q (by omega)) c
    refine v_aload_n d_Al_fastRemove_22 rfl (by first | rfl | exact vIsR_rf _) ?_
    refine v_iload_n d_Al_fastRemove_23 rfl ?_
    refine v_iconst (v := 1) d_Al_fastRemove_24 (by decide) ?_
    refine v_iadd d_Al_fastRemove_25 ?_
    refine v_aload_n d_Al_fastRemove_26 rfl (by first | rfl | exact vIsR_rf _) ?_
    refine v_iload_n d_Al_fastRemove_27 rfl ?_
    refine v_iload_n d_Al_fastRemove_28 rfl ?_
    refine v_iload_n d_Al_fastRemove_29 rfl ?_
    refine v_at 30 rfl ?_
    refine v_isub d_Al_fastRemove_30 ?_
    have e1 : nI n - nI i = nI (n - i) := pk_sub (by omega)
    rw [nI_1, e1]
    have k1 : (nI (i + 1)).toNatClampNeg = i + 1 := nI_clamp (by omega)
    have k2 : (nI i).toNatClampNeg = i := nI_clamp (by omega)
    have k3 : (nI (n - i)).toNatClampNeg = n - i := nI_clamp (by omega)
    refine v_copy (ci := ci) (q := qc) d_Al_fastRemove_31 hg2 hb hg2 hb km_Al_112 (nI_pos (by omega)) (nI_pos (by omega)) (nI_pos (by omega)) (by rw [k1, k3]; omega) (by rw [k2, k3]; omega) hc hx (fun j hj y hy => ?_) (by decide) (Nat.le_of_ble_eq_true rfl) ?_
    · rw [k3] at hj
      rw [k1, hxs _ (by omega)] at hy
      obtain ⟨m1, fs, m2⟩ := hel y (by rw [← Option.some.inj hy]; exact vIn_getD (by omega))
      refine ⟨m1, fs, (va_up_ne _ _ (fun z => ?_)).trans m2⟩
      rw [z, hf] at m2
      cases m2
      exact h9c rfl
    · rw [k1, k2, k3]
      refine V.mono ?_ (c_Al_fastRemove_end ((va_up_ne _ _ hab).trans hf2) ha (va_up_self _ _ _) hb hlen hcap (by omega) (fun j hj => ?_))
      · intro r h3 w
        obtain ⟨w1, w2, w3, w4⟩ := w
        exact ⟨w1, w2, w3, fun c k1 k2 => ((w4 c k1 k2).trans (va_up_ne _ _ k2)).trans (va_up_ne _ _ k1)⟩
      · rw [vErase]
        by_cases hji : j < i
        · rw [if_pos hji, pk_cpy_out (Or.inl hji), hxs j (by omega)]
        · rw [if_neg hji, pk_cpy_in (by omega) (by omega), show i + 1 + (j - i) = j + 1 by omega, hxs (j + 1) (by omega)]
theorem l_remove {a i ci : Nat} {bk : Option Nat} {xs : List Nat} {qc : vw_C} (hls : lsAt G h a bk xs) (hi : i < xs.length) (hel : ∀ y ∈ xs, y ∈ h.1 ∧ ∃ fs, h.2 y = .inr (ci, fs)) (hc : vCl[ci]? = some qc) (hx : Cond.castable qc.1 "java/lang/Object" ∈ vT) (h9c : ci ≠ 9) : ∃ b, bk = some b ∧ V G M_Al_remove 2 110 0 [(0, .ref a), (1, .int (nI i))] [] h 0 0 (rmQ G h a b (xs.eraseIdx i) (some (.ref (xs.getD i 0)))) := by
  obtain ⟨ha, mcv, hls⟩ := hls
  cases bk with
  | none => obtain ⟨h1, rfl⟩ := hls; cases hi
  | some b =>
    obtain ⟨cap, g, h1, h2, h3, h4, h5, h6, h7⟩ := hls
    refine ⟨b, rfl, ?_⟩
    have e1 : (nI i).toNatClampNeg = i := nI_clamp (by omega)
    refine v_iload_n d_Al_remove_0 rfl ?_
    refine v_aload_n d_Al_remove_1 rfl (by first | rfl | exact vIsR_rf _) ?_
    refine v_get d_Al_remove_2 h1 ha rfl i_Al 1 (by decide) kf_Al_48 (Or.inl rfl) rfl ?_
    refine v_callS2r (M1 := M_Os_checkIndex) d_Al_remove_5 km_Al_118 kS_Os_checkIndex (by decide) (by first | rfl | exact vRf_cat _) (by first | rfl | exact vRf_cat _) (by decide) kM_Os_checkIndex ki_Os (by decide) (by decide +kernel) (c_Os_checkIndex (nI_pos (by omega)) (nI_lt hi (by omega))) ?_
    refine v_pop d_Al_remove_8 (by first | rfl | exact vRf_cat _) ?_
    refine v_aload_n d_Al_remove_9 rfl (by first | rfl | exact vIsR_rf _) ?_
    refine v_get d_Al_remove_10 h1 ha rfl i_Al 0 (by decide) kf_Al_9 (Or.inl rfl) rfl ?_
    refine v_astore_n d_Al_remove_13 (by first | rfl | exact vIsR_rf _) (by decide) rfl ?_
    refine v_at 14 rfl ?_
    refine v_aload_n d_Al_remove_14 rfl (by first | rfl | exact vIsR_rf _) ?_
    refine v_iload_n d_Al_remove_15 rfl ?_
    refine v_aald d_Al_remove_16 h3 h2 (vp_in_nI (by omega) (by omega)) ?_
    rw [e1, h7 i hi]
    refine v_astore_n d_Al_remove_17 (by first | rfl | exact vIsR_rf _) (by decide) rfl ?_
    refine v_aload_n d_Al_remove_18 rfl (by first | rfl | exact vIsR_rf _) ?_
    refine v_aload_n d_Al_remove_19 rfl (by first | rfl | exact vIsR_rf _) ?_
    refine v_iload_n d_Al_remove_20 rfl ?_
    refine v_callV2 (M1 := M_Al_fastRemove) d_Al_remove_21 h1 ha rfl km_Al_144 kI_Al_fastRemove ks_Al_Al_fastRemove (by decide) rfl rfl (by decide) kM_Al_fastRemove ki_Al (by decide) (by decide +kernel) (c_Al_fastRemove h1 ha h3 h2 h4 h6 h7 hi hel hc hx h9c) (fun v h2 z => ?_) (fun E h2 z => nomatch z.1)
    obtain ⟨z1, z2⟩ := z
    cases z1
    refine v_aload_n d_Al_remove_24 rfl (by first | rfl | exact vIsR_rf _) ?_
    exact v_aret d_Al_remove_25 rfl (Or.inl ⟨_, rfl⟩) (by first | rfl | exact vIsR_rf _) ⟨rfl, z2⟩
end VRm
