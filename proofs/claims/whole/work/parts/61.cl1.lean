/-! The class at rest: its lists; own, find, isOrIsBelow, isRelatedTo. -/
section VC1
variable {G : vG} {M : vM} {fr lo pc mc ms : Nat} {lv : List (Nat × Value)} {st : List Value} {nc nm : Nat} {ad : Nat → Nat → Nat} {X Z : Nat → Nat → Int32} {L : Nat → Nat → List Nat} {Q : sQ0}
def ownL (X : Nat → Nat → Int32) (nm c : Nat) : List Nat := (List.range nm).filter (fun m => decide (oN X m = c))
def cR (X : Nat → Nat → Int32) (nc nm : Nat) (L : Nat → Nat → List Nat) : Prop := L 0 0 = List.range nc ∧ L 1 0 = List.range nm ∧ ∀ c, c < nc → L 2 c = ownL X nm c
theorem map_range_getD {f : Nat → Nat} {n i : Nat} (h : i < n) : ((List.range n).map f).getD i 0 = f i := by
  simp [List.getD, h]
theorem map_getD {f : Nat → Nat} {xs : List Nat} {i : Nat} (h : i < xs.length) : (xs.map f).getD i 0 = f (xs.getD i 0) := by
  simp [List.getD, h]
theorem s_clsSize {idx : Nat} (d : decode M.2.1 pc = .ok (.invokevirtual idx, 3)) (hw : Cond.methodLink M.1.cls idx M_Al_size.1 ∈ vT) (hL : cR X nc nm L) (k : VS G M fr lo (pc + 3) lv (.int (nI nc) :: st) nc nm ad X Z L mc ms Q) (b3 : 1 ≤ fr := by first | exact Nat.le_of_ble_eq_true rfl | omega) (b4 : 8 + (M_Al_size.2.2.1 + 11) + 0 ≤ lo := by first | exact Nat.le_of_ble_eq_true rfl | omega) (b5 : (st.map fun v => v.category).sum ≤ 8 := by first | exact Nat.le_of_ble_eq_true rfl | simp [Value.category, vRf_cat]) : VS G M fr lo pc lv (.ref (ad 5 5) :: st) nc nm ad X Z L mc ms Q := by
  refine s_size 5 5 d hw rfl rfl ?_ b3 b4 b5
  rw [List.length_map, hL.1, List.length_range]
  exact k
theorem s_metSize {idx : Nat} (d : decode M.2.1 pc = .ok (.invokevirtual idx, 3)) (hw : Cond.methodLink M.1.cls idx M_Al_size.1 ∈ vT) (hL : cR X nc nm L) (k : VS G M fr lo (pc + 3) lv (.int (nI nm) :: st) nc nm ad X Z L mc ms Q) (b3 : 1 ≤ fr := by first | exact Nat.le_of_ble_eq_true rfl | omega) (b4 : 8 + (M_Al_size.2.2.1 + 11) + 0 ≤ lo := by first | exact Nat.le_of_ble_eq_true rfl | omega) (b5 : (st.map fun v => v.category).sum ≤ 8 := by first | exact Nat.le_of_ble_eq_true rfl | simp [Value.category, vRf_cat]) : VS G M fr lo pc lv (.ref (ad 5 6) :: st) nc nm ad X Z L mc ms Q := by
  refine s_size 5 6 d hw rfl rfl ?_ b3 b4 b5
  rw [List.length_map, hL.2.1, List.length_range]
  exact k
theorem s_itSize {idx : Nat} (m : Nat) (d : decode M.2.1 pc = .ok (.invokevirtual idx, 3)) (hw : Cond.methodLink M.1.cls idx M_Al_size.1 ∈ vT) (hm : m < nm) (k : VS G M fr lo (pc + 3) lv (.int (nI (iN X m)) :: st) nc nm ad X Z L mc ms Q) (b3 : 1 ≤ fr := by first | exact Nat.le_of_ble_eq_true rfl | omega) (b4 : 8 + (M_Al_size.2.2.1 + 11) + 0 ≤ lo := by first | exact Nat.le_of_ble_eq_true rfl | omega) (b5 : (st.map fun v => v.category).sum ≤ 8 := by first | exact Nat.le_of_ble_eq_true rfl | simp [Value.category, vRf_cat]) : VS G M fr lo pc lv (.ref (ad 4 m) :: st) nc nm ad X Z L mc ms Q := by
  refine s_size 4 m d hw (decide_eq_true hm) rfl ?_ b3 b4 b5
  rw [List.length_map, List.length_range]
  exact k
theorem s_clsGet {idx : Nat} {x : Int32} (d : decode M.2.1 pc = .ok (.invokevirtual idx, 3)) (hw : Cond.methodLink M.1.cls idx M_Al_get.1 ∈ vT) (hL : cR X nc nm L) (n : Nat) (hx : x = nI n) (hn : n < nc) (k : VS G M fr lo (pc + 3) lv (.ref (ad 0 n) :: st) nc nm ad X Z L mc ms Q) (b3 : 2 + 1 ≤ fr := by first | exact Nat.le_of_ble_eq_true rfl | omega) (b4 : 8 + (M_Al_get.2.2.1 + 11) + 43 ≤ lo := by first | exact Nat.le_of_ble_eq_true rfl | omega) (b5 : (st.map fun v => v.category).sum ≤ 8 := by first | exact Nat.le_of_ble_eq_true rfl | simp [Value.category, vRf_cat]) : VS G M fr lo pc lv (.int x :: .ref (ad 5 5) :: st) nc nm ad X Z L mc ms Q :=
  s_lget 5 5 d hw rfl rfl n hx (by rw [List.length_map, hL.1, List.length_range]; exact hn) (ad 0 n) (by rw [hL.1]; exact map_range_getD hn) k b3 b4 b5
theorem s_metGet {idx : Nat} {x : Int32} (d : decode M.2.1 pc = .ok (.invokevirtual idx, 3)) (hw : Cond.methodLink M.1.cls idx M_Al_get.1 ∈ vT) (hL : cR X nc nm L) (n : Nat) (hx : x = nI n) (hn : n < nm) (k : VS G M fr lo (pc + 3) lv (.ref (ad 1 n) :: st) nc nm ad X Z L mc ms Q) (b3 : 2 + 1 ≤ fr := by first | exact Nat.le_of_ble_eq_true rfl | omega) (b4 : 8 + (M_Al_get.2.2.1 + 11) + 43 ≤ lo := by first | exact Nat.le_of_ble_eq_true rfl | omega) (b5 : (st.map fun v => v.category).sum ≤ 8 := by first | exact Nat.le_of_ble_eq_true rfl | simp [Value.category, vRf_cat]) : VS G M fr lo pc lv (.int x :: .ref (ad 5 6) :: st) nc nm ad X Z L mc ms Q :=
  s_lget 5 6 d hw rfl rfl n hx (by rw [List.length_map, hL.2.1, List.length_range]; exact hn) (ad 1 n) (by rw [hL.2.1]; exact map_range_getD hn) k b3 b4 b5
theorem s_itGet {idx : Nat} {x : Int32} (m : Nat) (d : decode M.2.1 pc = .ok (.invokevirtual idx, 3)) (hw : Cond.methodLink M.1.cls idx M_Al_get.1 ∈ vT) (hm : m < nm) (n : Nat) (hx : x = nI n) (hn : n < iN X m) (k : VS G M fr lo (pc + 3) lv (.ref (ad 2 (m * 5 + n)) :: st) nc nm ad X Z L mc ms Q) (b3 : 2 + 1 ≤ fr := by first | exact Nat.le_of_ble_eq_true rfl | omega) (b4 : 8 + (M_Al_get.2.2.1 + 11) + 43 ≤ lo := by first | exact Nat.le_of_ble_eq_true rfl | omega) (b5 : (st.map fun v => v.category).sum ≤ 8 := by first | exact Nat.le_of_ble_eq_true rfl | simp [Value.category, vRf_cat]) : VS G M fr lo pc lv (.int x :: .ref (ad 4 m) :: st) nc nm ad X Z L mc ms Q :=
  s_lget 4 m d hw (decide_eq_true hm) rfl n hx (by rw [List.length_map, List.length_range]; exact hn) _ (map_range_getD (f := fun j => ad 2 (m * 5 + j)) hn) k b3 b4 b5
theorem find_range {q p : Nat → Bool} : ∀ f i, ((List.range' i f).filter q).find? p = fst (fun m => q m && p m) f i
  | 0, i => rfl
  | f + 1, i => by
    rw [List.range'_succ, List.filter_cons]
    unfold fst
    cases hq : q i with
    | false => simp only [Bool.false_and, Bool.false_eq_true, if_false]; exact find_range f (i + 1)
    | true =>
      rw [if_pos rfl, List.find?_cons]
      cases hp : p i with
      | true => rfl
      | false => simp only [Bool.and_false, Bool.false_eq_true, if_false]; exact find_range f (i + 1)
theorem fst_congr {p q : Nat → Bool} : ∀ f i, (∀ m, i ≤ m → m < i + f → p m = q m) → fst p f i = fst q f i
  | 0, i, _ => rfl
  | f + 1, i, h => by
    unfold fst
    rw [h i (Nat.le_refl _) (by omega), fst_congr f (i + 1) (fun m h1 h2 => h m (by omega) (by omega))]
theorem ownL_find {c : Nat} {n r : Int32} (hc : c < 1000) (ho : ∀ m, m < nm → X 2 m = nI (oN X m) ∧ oN X m < 1000) : (ownL X nm c).find? (fun m => decide (X 3 m = n) && decide (X 4 m = r)) = ownS X nm (nI c) n r := by
  unfold ownL ownS
  rw [List.range_eq_range', find_range]
  refine fst_congr _ _ (fun m _ hm => ?_)
  have h1 := ho m (by omega)
  unfold ownB
  have h2 : decide (oN X m = c) = decide (X 2 m = nI c) := by
    rw [h1.1]
    have h3 := nI_eq (a := oN X m) (b := c) (by omega) (by omega)
    by_cases e : oN X m = c
    · rw [decide_eq_true e, decide_eq_true (h3.mpr e)]
    · rw [decide_eq_false e, decide_eq_false (fun z => e (h3.mp z))]
  rw [h2, Bool.and_assoc]
theorem ownL_lt {c m : Nat} (h : m ∈ ownL X nm c) : m < nm := by
  unfold ownL at h
  exact List.mem_range.mp (List.mem_filter.mp h).1
theorem getD_mem {xs : List Nat} {i : Nat} (h : i < xs.length) : xs.getD i 0 ∈ xs := by
  have : xs.getD i 0 = xs[i] := by simp [List.getD, h]
  rw [this]
  exact List.getElem_mem h
theorem drop_getD {xs : List Nat} {i : Nat} (h : i < xs.length) : xs.drop i = xs.getD i 0 :: xs.drop (i + 1) := by
  have : xs.getD i 0 = xs[i] := by simp [List.getD, h]
  rw [this]
  exact List.drop_eq_getElem_cons h
theorem c_Pc_own {c : Nat} {n r : Int32} (hw : wW X nc nm) (hL : cR X nc nm L) (hc : c < nc) : VS G M_Pc_own 3 64 0 [(0, .ref (ad 0 c)), (1, .int n), (2, .int r)] [] nc nm ad X Z L 0 0 (sRet (some (va_rf ((ownS X nm (nI c) n r).map (ad 1)))) X Z L) := by
  have h8 := hw.1.1
  have h24 := hw.2.1
  have hlen : (L 2 c).length ≤ 24 := by
    rw [hL.2.2 c hc]
    have := List.length_filter_le (fun m => decide (oN X m = c)) (List.range nm)
    rw [List.length_range] at this
    unfold ownL; omega
  have hel : ∀ i, i < (L 2 c).length → (L 2 c).getD i 0 < nm := fun i hi => by
    have h1 := getD_mem hi
    have h2 : L 2 c = ownL X nm c := hL.2.2 c hc
    rw [h2] at h1 ⊢
    exact ownL_lt h1
  rw [← ownL_find (c := c) (by omega) (fun m hm => ⟨(hw.2.2.1 m hm).2, by have := (hw.2.2.1 m hm).1; omega⟩), ← hL.2.2 c hc]
  have loop : ∀ k i (lv4 : List (Nat × Value)), i + k = (L 2 c).length → VS G M_Pc_own 3 64 2 [(0, .ref (ad 0 c)), (1, .int n), (2, .int r), (3, .int (nI i))] [] nc nm ad X Z L 0 0 (sRet (some (va_rf ((((L 2 c).drop i).find? (fun m => decide (X 3 m = n) && decide (X 4 m = r))).map (ad 1)))) X Z L) := by
    intro k
    induction k with
    | zero =>
      intro i _ hi
      refine s_iload_n d_Pc_own_2 rfl ?_
      refine s_aload_n d_Pc_own_3 rfl (by first | rfl | exact vIsR_rf _) ?_
      refine s_get 0 (c) d_Pc_own_4 (decide_eq_true (hc)) rfl rfl i_Pc 2 (by decide) kf_Pc_20 (Or.inl rfl) rfl ?_
      refine s_size 3 (c) d_Pc_own_7 km_Pc_31 (decide_eq_true (hc)) rfl ?_
      rw [List.length_map]
      refine s_icmp_ge (tgt := 53) d_Pc_own_10 (by decide) (fun _ => ?_) (fun c => absurd (nI_le (by omega) (by omega)) c)
      rw [List.drop_eq_nil_of_le (by omega)]
      refine s_null d_Pc_own_53 ?_
      exact s_aret d_Pc_own_54 rfl (Or.inl ⟨_, rfl⟩) (by first | rfl | exact vIsR_rf _) ⟨rfl, rfl, rfl, rfl⟩
    | succ k ih =>
      intro i _ hi
      have hil : i < (L 2 c).length := by omega
      have hm := hel i hil
      have nx : (decide (X 3 ((L 2 c).getD i 0) = n) && decide (X 4 ((L 2 c).getD i 0) = r)) = false → VS G M_Pc_own 3 64 47 [(0, .ref (ad 0 c)), (1, .int n), (2, .int r), (3, .int (nI i)), (4, .ref (ad 1 ((L 2 c).getD i 0)))] [] nc nm ad X Z L 0 0 (sRet (some (va_rf ((((L 2 c).drop i).find? (fun m => decide (X 3 m = n) && decide (X 4 m = r))).map (ad 1)))) X Z L) := by
        intro h
        refine s_iincw (w := 1) d_Pc_own_47 rfl (by decide) (by decide) rfl ?_
        refine s_goto (tgt := 2) d_Pc_own_50 (by decide) ?_
        rw [nI_1, drop_getD hil, List.find?_cons, h]
        exact s_keep 4 rfl (ih (i + 1) [] (by omega))
      refine s_iload_n d_Pc_own_2 rfl ?_
      refine s_aload_n d_Pc_own_3 rfl (by first | rfl | exact vIsR_rf _) ?_
      refine s_get 0 (c) d_Pc_own_4 (decide_eq_true (hc)) rfl rfl i_Pc 2 (by decide) kf_Pc_20 (Or.inl rfl) rfl ?_
      refine s_size 3 (c) d_Pc_own_7 km_Pc_31 (decide_eq_true (hc)) rfl ?_
      rw [List.length_map]
      refine s_icmp_ge (tgt := 53) d_Pc_own_10 (by decide) (fun c => absurd c (nI_ge (by omega) (by omega))) (fun _ => ?_)
      refine s_aload_n d_Pc_own_13 rfl (by first | rfl | exact vIsR_rf _) ?_
      refine s_get 0 (c) d_Pc_own_14 (decide_eq_true (hc)) rfl rfl i_Pc 2 (by decide) kf_Pc_20 (Or.inl rfl) rfl ?_
      refine s_iload_n d_Pc_own_17 rfl ?_
      refine s_lget 3 (c) d_Pc_own_18 km_Pc_35 (decide_eq_true (hc)) rfl (i) rfl (by rw [List.length_map]; exact hil) _ (map_getD hil) ?_
      refine s_cast 1 (((L 2 c).getD i 0)) d_Pc_own_21 (decide_eq_true (hm)) rfl rfl kc_Pc_39 kx_Pm_Pm ?_
      refine s_astore d_Pc_own_24 (by first | rfl | exact vIsR_rf _) (by decide) rfl ?_
      refine s_aload d_Pc_own_26 rfl (by first | rfl | exact vIsR_rf _) ?_
      refine s_get 1 (((L 2 c).getD i 0)) d_Pc_own_28 (decide_eq_true (hm)) rfl rfl i_Pm 5 (by decide) kf_Pc_41 (Or.inl rfl) rfl ?_
      refine s_iload_n d_Pc_own_31 rfl ?_
      refine s_icmp_ne (tgt := 47) d_Pc_own_32 (by decide) (fun c_32 => ?_) (fun c_32 => ?_)
      · exact nx (by rw [decide_eq_false c_32, Bool.false_and])
      · refine s_aload d_Pc_own_35 rfl (by first | rfl | exact vIsR_rf _) ?_
        refine s_get 1 (((L 2 c).getD i 0)) d_Pc_own_37 (decide_eq_true (hm)) rfl rfl i_Pm 3 (by decide) kf_Pc_44 (Or.inl rfl) rfl ?_
        refine s_iload_n d_Pc_own_40 rfl ?_
        refine s_icmp_ne (tgt := 47) d_Pc_own_41 (by decide) (fun c_41 => ?_) (fun c_41 => ?_)
        · exact nx (by rw [decide_eq_false c_41, Bool.and_false])
        · refine s_aload d_Pc_own_44 rfl (by first | rfl | exact vIsR_rf _) ?_
          rw [drop_getD hil, List.find?_cons, decide_eq_true c_32, decide_eq_true c_41]
          exact s_aret d_Pc_own_46 rfl (Or.inl ⟨_, rfl⟩) (by first | rfl | exact vIsR_rf _) ⟨rfl, rfl, rfl, rfl⟩
  refine s_iconst (v := 0) d_Pc_own_0 (by decide) ?_
  refine s_istore_n d_Pc_own_1 (by decide) rfl ?_
  exact loop (L 2 c).length 0 [] (by omega)
end VC1
