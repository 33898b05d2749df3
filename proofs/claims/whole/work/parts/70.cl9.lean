/-! The class: what stands behind a shrink, by the new numbers. -/
section VC9
variable {G : vG} {nc nm : Nat} {st gd : Nat → Bool} {ad : Nat → Nat → Nat} {X Z : Nat → Nat → Int32} {L : Nat → Nat → List Nat}
/-- what the document keeps of every run -/
def wI (X : Nat → Nat → Int32) (nc nm : Nat) : Prop := wW X nc nm ∧ (∀ m, m < nm → X 8 m = X 1 (oN X m)) ∧ (∀ m, m < nm → ∃ v, v < 26 ∧ X 3 m = nI v) ∧ ∀ m, m < nm → ∀ j, j < iN X m → X 12 (m * 5 + j) = 0 ∨ X 12 (m * 5 + j) = 1 ∨ X 12 (m * 5 + j) = 2
theorem range_getD (xs : List Nat) : (List.range xs.length).map (fun i => xs.getD i 0) = xs := by
  refine List.ext_getElem (by rw [List.length_map, List.length_range]) (fun i h1 h2 => ?_)
  rw [List.getElem_map, List.getElem_range]
  simp [List.getD, h2]
theorem sel_map {sb : Nat → Bool} {n : Nat} : (List.range (cntB sb n)).map (sel sb n) = (List.range n).filter sb := by
  have := range_getD ((List.range n).filter sb)
  rw [filt_len] at this
  exact this
/-- what is left is whole -/
def shOk (X : Nat → Nat → Int32) (nc nm : Nat) (st gd : Nat → Bool) : Prop := (∀ k p, pS X k = some p → st k = true → st p = true) ∧ (∀ m, m < nm → gd m = true → st (oN X m) = true) ∧ ∀ m, m < nm → gd m = true → ∀ j, j < iN X m → X 12 (m * 5 + j) = 1 → st (cN X (m * 5 + j)) = true
def sgm (st gd : Nat → Bool) (nc nm : Nat) : Nat → Nat → Nat
  | 0, i => sel st nc i
  | 1, i => sel gd nm i
  | 2, i => sel gd nm (i / 5) * 5 + i % 5
  | 3, i => sel st nc i
  | 4, i => sel gd nm i
  | _, i => i
theorem sgm_2 {i : Nat} : sgm st gd nc nm 2 i = sel gd nm (i / 5) * 5 + i % 5 := by simp only [sgm]
theorem sgm_5 {i : Nat} : sgm st gd nc nm 5 i = i := by simp only [sgm]
theorem cV_5 {i : Nat} : cV X nc nm 5 i = decide (i < 13) := rfl
theorem sh_met {X' : Nat → Nat → Int32} (hO : shOk X nc nm st gd) (hR : shR X nc nm st gd X') {i : Nat} (hi : i < cntB gd nm) : sel gd nm i < nm ∧ st (oN X (sel gd nm i)) = true ∧ X' 2 i = nI (cntB st (oN X (sel gd nm i))) ∧ (∀ k, 3 ≤ k → k ≤ 9 → X' k i = X k (sel gd nm i)) ∧ gd (sel gd nm i) = true ∧ ∀ j, j < iN X (sel gd nm i) → X' 12 (i * 5 + j) = X 12 (sel gd nm i * 5 + j) ∧ X' 13 (i * 5 + j) = (if X 12 (sel gd nm i * 5 + j) = 1 then nclF st (cN X (sel gd nm i * 5 + j)) else X 13 (sel gd nm i * 5 + j)) ∧ X' 14 (i * 5 + j) = X 14 (sel gd nm i * 5 + j) ∧ X' 15 (i * 5 + j) = X 15 (sel gd nm i * 5 + j) := by
  obtain ⟨h1, h2, h3⟩ := sel_onto hi
  have h4 := hR.1 _ h1 h2
  unfold mdR at h4
  rw [h3] at h4
  have h5 := hO.2.1 _ h1 h2
  refine ⟨h1, h5, ?_, h4.2.1, h2, h4.2.2⟩
  rw [h4.1, nclF_t h5]
theorem sh_cls {X' : Nat → Nat → Int32} (hO : shOk X nc nm st gd) (hw : wP X nc) (hR : shR X nc nm st gd X') {i : Nat} (hi : i < cntB st nc) : sel st nc i < nc ∧ st (sel st nc i) = true ∧ cntB st (sel st nc i) = i ∧ X' 1 i = X 1 (sel st nc i) ∧ (pS X (sel st nc i) = none ∧ X' 0 i = -1 ∨ ∃ p, p < sel st nc i ∧ pS X (sel st nc i) = some p ∧ st p = true ∧ X' 0 i = nI (cntB st p)) := by
  obtain ⟨h1, h2, h3⟩ := sel_onto hi
  have h4 := hR.2 _ h1 h2
  unfold mcR at h4
  rw [h3] at h4
  refine ⟨h1, h2, h3, h4.2, ?_⟩
  rcases pS_cases hw h1 with e | ⟨d, e1, e2⟩
  · rw [e] at h4; exact Or.inl ⟨e, h4.1⟩
  · rw [e2] at h4
    have h5 : st d = true := hO.1 _ _ e2 h2
    exact Or.inr ⟨d, e1, e2, h5, by rw [← nclF_t h5]; exact h4.1⟩
theorem pS_nI {X : Nat → Nat → Int32} {c d : Nat} (h : X 0 c = nI d) (hd : d < 1000) : pS X c = some d := by
  unfold pS
  rw [h, if_neg (nI_pos (by omega)), nI_clamp (by omega)]
theorem pS_neg {X : Nat → Nat → Int32} {c : Nat} (h : X 0 c = -1) : pS X c = none := by
  unfold pS; rw [h]; rfl
theorem sh_inv {X' : Nat → Nat → Int32} (hO : shOk X nc nm st gd) (hw : wI X nc nm) (hR : shR X nc nm st gd X') : wI X' (cntB st nc) (cntB gd nm) := by
  have h8 := hw.1.1.1
  have h24 := hw.1.2.1
  have hlc := cntB_le st nc
  have hlm := cntB_le gd nm
  have hoN : ∀ m, m < cntB gd nm → oN X' m = cntB st (oN X (sel gd nm m)) := by
    intro m hm
    obtain ⟨a1, a2, a3, -⟩ := sh_met hO hR hm
    have := cntB_le st (oN X (sel gd nm m))
    have := (hw.1.2.2.1 _ a1).1
    unfold oN at a3 ⊢
    rw [a3, nI_clamp (by unfold oN at *; omega)]
  have hiN : ∀ m, m < cntB gd nm → iN X' m = iN X (sel gd nm m) := by
    intro m hm
    obtain ⟨a1, a2, a3, a4, -⟩ := sh_met hO hR hm
    unfold iN
    rw [a4 5 (by decide) (by decide)]
  refine ⟨⟨⟨by omega, fun c hc => ?_⟩, by omega, fun m hm => ?_, fun m hm => ?_, fun m hm => ?_, fun m hm j hj h1 => ?_⟩, fun m hm => ?_, fun m hm => ?_, fun m hm j hj => ?_⟩
  · obtain ⟨a1, a2, a3, a4, a5⟩ := sh_cls hO hw.1.1 hR hc
    rcases a5 with ⟨-, e⟩ | ⟨p, p1, p2, p3, p4⟩
    · exact Or.inl e
    · have := cntB_step p1 p3
      exact Or.inr ⟨_, by omega, p4⟩
  · obtain ⟨a1, a2, a3, -⟩ := sh_met hO hR hm
    rw [hoN m hm]
    exact ⟨cntB_step (hw.1.2.2.1 _ a1).1 a2, a3⟩
  · obtain ⟨a1, a2, a3, a4, -⟩ := sh_met hO hR hm
    rw [hiN m hm, a4 5 (by decide) (by decide)]
    exact hw.1.2.2.2.1 _ a1
  · obtain ⟨a1, a2, a3, a4, -⟩ := sh_met hO hR hm
    have := hw.1.2.2.2.2.1 _ a1
    unfold kN at this ⊢
    rw [a4 9 (by decide) (by decide)]
    exact this
  · obtain ⟨a1, a2, a3, a4, a5, a6⟩ := sh_met hO hR hm
    rw [hiN m hm] at hj
    obtain ⟨b1, b2, -⟩ := a6 j hj
    rw [b1] at h1
    have c1 := hO.2.2 _ a1 a5 j hj h1
    have c2 := (hw.1.2.2.2.2.2 _ a1 j hj h1).1
    rw [if_pos h1, nclF_t c1] at b2
    have c3 := cntB_step c2 c1
    have : cN X' (m * 5 + j) = cntB st (cN X (sel gd nm m * 5 + j)) := by
      show (X' 13 (m * 5 + j)).toNatClampNeg = _
      rw [b2, nI_clamp (by omega)]
    rw [this]
    exact ⟨c3, b2⟩
  · obtain ⟨a1, a2, a3, a4, -⟩ := sh_met hO hR hm
    have h1 := (hw.1.2.2.1 _ a1).1
    obtain ⟨b1, b2, b3, b4, -⟩ := sh_cls hO hw.1.1 hR (cntB_step h1 a2)
    rw [sel_cnt h1 a2] at b4
    rw [a4 8 (by decide) (by decide), hoN m hm, b4]
    exact hw.2.1 _ a1
  · obtain ⟨a1, a2, a3, a4, -⟩ := sh_met hO hR hm
    rw [a4 3 (by decide) (by decide)]
    exact hw.2.2.1 _ a1
  · obtain ⟨a1, a2, a3, a4, a5, a6⟩ := sh_met hO hR hm
    rw [hiN m hm] at hj
    rw [(a6 j hj).1]
    exact hw.2.2.2 _ a1 j hj
def zSh (st gd : Nat → Bool) (Z : Nat → Nat → Int32) (nc nm : Nat) : Nat → Nat → Int32 := fun k i => if k = 0 ∨ k = 1 then Z k (sel st nc i) else if k = 2 then Z 2 (sel gd nm i) else Z k i
def lSh (X : Nat → Nat → Int32) (nc nm : Nat) : Nat → Nat → List Nat
  | 0, _ => List.range nc
  | 1, _ => List.range nm
  | _, c => ownL X nm c
theorem sh_iN {X' : Nat → Nat → Int32} (hw : wI X nc nm) (hO : shOk X nc nm st gd) (hR : shR X nc nm st gd X') : ∀ m, m < cntB gd nm → iN X' m = iN X (sel gd nm m) := by
  intro m hm
  obtain ⟨a1, a2, a3, a4, -⟩ := sh_met hO hR hm
  unfold iN
  rw [a4 5 (by decide) (by decide)]
theorem sh_oN {X' : Nat → Nat → Int32} (hw : wI X nc nm) (hO : shOk X nc nm st gd) (hR : shR X nc nm st gd X') : ∀ m, m < cntB gd nm → oN X' m = cntB st (oN X (sel gd nm m)) := by
  have h8 := hw.1.1.1
  have h24 := hw.1.2.1
  intro m hm
  obtain ⟨a1, a2, a3, -⟩ := sh_met hO hR hm
  have := cntB_step (hw.1.2.2.1 _ a1).1 a2
  have := cntB_le st nc
  show (X' 2 m).toNatClampNeg = _
  rw [a3, nI_clamp (by omega)]
theorem cE5_congr {ad' : Nat → Nat → Nat} {Z' : Nat → Nat → Int32} {L' : Nat → Nat → List Nat} (h5 : ∀ i, ad' 5 i = ad 5 i) (hz3 : ∀ i, Z' 3 i = Z 3 i) (hz : ∀ j, Z' (4 + j) = Z (4 + j)) (h0 : (L' 0 0).map (ad' 0) = (L 0 0).map (ad 0)) (h1 : (L' 1 0).map (ad' 1) = (L 1 0).map (ad 1)) : ∀ i, cE5 G ad' Z' L' i = cE5 G ad Z L i
  | 0 => by simp only [cE5, h5, hz3]
  | 1 => by simp only [cE5, h5, hz3]
  | 2 => by simp only [cE5, h5, hz3]
  | 3 => by simp only [cE5, h5, hz3]
  | 4 => by simp only [cE5, h5, hz3]
  | 5 => by simp only [cE5, h0]
  | 6 => by simp only [cE5, h1]
  | j + 7 => by simp only [cE5, hz]
theorem sh_V {X' : Nat → Nat → Int32} (hw : wI X nc nm) (hO : shOk X nc nm st gd) (hR : shR X nc nm st gd X') : ∀ q i, cV X' (cntB st nc) (cntB gd nm) q i = true → cV X nc nm q (sgm st gd nc nm q i) = true := by
  have h8 := hw.1.1.1
  have h24 := hw.1.2.1
  have hiN := sh_iN hw hO hR
  have hoN := sh_oN hw hO hR
  have hsel : ∀ {m}, m < cntB gd nm → sel gd nm m < nm := fun hm => (sel_onto hm).1
  intro q i hv
  rcases q with _ | _ | _ | _ | _ | _ | q
  · exact decide_eq_true (sel_onto (of_decide_eq_true hv)).1
  · exact decide_eq_true (sel_onto (of_decide_eq_true hv)).1
  · have hv2 : (decide (i / 5 < cntB gd nm) && decide (i % 5 < iN X' (i / 5))) = true := hv
    rw [Bool.and_eq_true, decide_eq_true_eq, decide_eq_true_eq] at hv2
    have := hiN _ hv2.1
    show cV X nc nm 2 (sgm st gd nc nm 2 i) = true
    rw [sgm_2]
    exact cV2 (hsel hv2.1) (by rw [← this]; exact hv2.2) (by omega)
  · exact decide_eq_true (sel_onto (of_decide_eq_true hv)).1
  · exact decide_eq_true (sel_onto (of_decide_eq_true hv)).1
  · rw [cV_5] at hv
    show cV X nc nm 5 (sgm st gd nc nm 5 i) = true
    rw [cV_5, sgm_5]; exact hv
  · cases hv
theorem sh_J {X' : Nat → Nat → Int32} : ∀ q i j, cV X' (cntB st nc) (cntB gd nm) q i = true → cV X' (cntB st nc) (cntB gd nm) q j = true → sgm st gd nc nm q i = sgm st gd nc nm q j → i = j := by
  have hinj : ∀ {sb : Nat → Bool} {n i j : Nat}, i < cntB sb n → j < cntB sb n → sel sb n i = sel sb n j → i = j := by
    intro sb n i j hi hj e
    have a1 := (sel_onto hi).2.2
    have a2 := (sel_onto hj).2.2
    rw [e] at a1; omega
  intro q i j hv hu e
  rcases q with _ | _ | _ | _ | _ | _ | q
  · exact hinj (of_decide_eq_true hv) (of_decide_eq_true hu) e
  · exact hinj (of_decide_eq_true hv) (of_decide_eq_true hu) e
  · have hv2 : (decide (i / 5 < cntB gd nm) && decide (i % 5 < iN X' (i / 5))) = true := hv
    have hu2 : (decide (j / 5 < cntB gd nm) && decide (j % 5 < iN X' (j / 5))) = true := hu
    rw [Bool.and_eq_true, decide_eq_true_eq, decide_eq_true_eq] at hv2 hu2
    have e2 : sel gd nm (i / 5) * 5 + i % 5 = sel gd nm (j / 5) * 5 + j % 5 := by rw [← sgm_2 (st := st) (nc := nc), ← sgm_2 (st := st) (nc := nc)]; exact e
    have := hinj hv2.1 hu2.1 (by omega)
    omega
  · exact hinj (of_decide_eq_true hv) (of_decide_eq_true hu) e
  · exact hinj (of_decide_eq_true hv) (of_decide_eq_true hu) e
  · exact e
  · cases hv
theorem sh_E {X' Z' : Nat → Nat → Int32} {L' : Nat → Nat → List Nat} (hw : wI X nc nm) (hO : shOk X nc nm st gd) (hR : shR X nc nm st gd X') (hD0 : L' 0 0 = (List.range nc).filter st) (hD1 : L' 1 0 = (List.range nm).filter gd) (hD2 : ∀ d, d < nc → L' 2 d = (ownL X nm d).filter gd) : ∀ q i, cV X' (cntB st nc) (cntB gd nm) q i = true → cE G ad X Z' L' q (sgm st gd nc nm q i) = cE G (fun q i => ad q (sgm st gd nc nm q i)) X' (zSh st gd Z' nc nm) (lSh X' (cntB st nc) (cntB gd nm)) q i := by
  have h8 := hw.1.1.1
  have h24 := hw.1.2.1
  have hiN := sh_iN hw hO hR
  have hoN := sh_oN hw hO hR
  have hsel : ∀ {m}, m < cntB gd nm → sel gd nm m < nm := fun hm => (sel_onto hm).1
  have hmap : ∀ (f : Nat → Nat) (sb : Nat → Bool) n, (List.range (cntB sb n)).map (fun i => f (sel sb n i)) = ((List.range n).filter sb).map f := by
    intro f sb n
    rw [← sel_map, List.map_map]; rfl
  intro q i hv
  rcases q with _ | _ | _ | _ | _ | _ | q
  · obtain ⟨a1, a2, a3, a4, a5⟩ := sh_cls hO hw.1.1 hR (of_decide_eq_true hv)
    show (Sum.inl (Sum.inr (3, [va_rf ((pS X (sel st nc i)).map (ad 0)), _, _, _, _])) : aE) = Sum.inl (Sum.inr (3, [va_rf ((pS X' i).map fun i => ad 0 (sel st nc i)), .int (X' 1 i), _, _, _]))
    rw [a4]
    rcases a5 with ⟨e1, e2⟩ | ⟨p, p1, p2, p3, p4⟩
    · rw [e1, pS_neg e2]; rfl
    · have := cntB_le st p
      rw [p2, pS_nI p4 (by omega)]
      show (Sum.inl (Sum.inr (3, [va_rf (some (ad 0 p)), _, _, _, _])) : aE) = Sum.inl (Sum.inr (3, [va_rf (some (ad 0 (sel st nc (cntB st p)))), _, _, _, _]))
      rw [sel_cnt (by omega) p3]
      rfl
  · have hi : i < cntB gd nm := of_decide_eq_true hv
    obtain ⟨a1, a2, a3, a4, -⟩ := sh_met hO hR hi
    show (Sum.inl (Sum.inr (4, [.ref (ad 0 (oN X (sel gd nm i))), _, _, _, _, _, _, _])) : aE) = Sum.inl (Sum.inr (4, [.ref (ad 0 (sel st nc (oN X' i))), .int (X' 6 i), .int (X' 7 i), .int (X' 4 i), _, .int (X' 3 i), .int (X' 9 i), _]))
    rw [hoN i hi, sel_cnt (hw.1.2.2.1 _ a1).1 a2, a4 6 (by decide) (by decide), a4 7 (by decide) (by decide), a4 4 (by decide) (by decide), a4 3 (by decide) (by decide), a4 9 (by decide) (by decide)]
    rfl
  · have hv2 : (decide (i / 5 < cntB gd nm) && decide (i % 5 < iN X' (i / 5))) = true := hv
    rw [Bool.and_eq_true, decide_eq_true_eq, decide_eq_true_eq] at hv2
    obtain ⟨a1, a2, a3, a4, a5, a6⟩ := sh_met hO hR hv2.1
    have hj := hv2.2
    rw [hiN _ hv2.1] at hj
    have ei : i / 5 * 5 + i % 5 = i := by omega
    have a7 := a6 _ hj
    rw [ei] at a7
    obtain ⟨b1, b2, b3, b4⟩ := a7
    show cE G ad X Z' L' 2 (sgm st gd nc nm 2 i) = cE G _ X' _ _ 2 i
    rw [sgm_2]
    show (Sum.inl (Sum.inr (1, [_, _, _, _, _])) : aE) = Sum.inl (Sum.inr (1, [.int (X' 12 i), .int (if X' 12 i = 1 then -1 else X' 13 i), va_rf (if X' 12 i = 1 then some (ad 0 (sel st nc (cN X' i))) else none), .int (X' 15 i), .int (X' 14 i)]))
    rw [b1, b3, b4]
    by_cases hc : X 12 (sel gd nm (i / 5) * 5 + i % 5) = 1
    · have c1 := hO.2.2 _ a1 a5 _ hj hc
      have c2 := (hw.1.2.2.2.2.2 _ a1 _ hj hc).1
      rw [if_pos hc, nclF_t c1] at b2
      have c3 := cntB_le st (cN X (sel gd nm (i / 5) * 5 + i % 5))
      have c4 : cN X' i = cntB st (cN X (sel gd nm (i / 5) * 5 + i % 5)) := by
        show (X' 13 i).toNatClampNeg = _
        rw [b2, nI_clamp (by omega)]
      rw [if_pos hc, if_pos hc, if_pos hc, if_pos hc, c4, sel_cnt c2 c1]
    · rw [if_neg hc] at b2
      rw [if_neg hc, if_neg hc, if_neg hc, if_neg hc, b2]
  · have hi : i < cntB st nc := of_decide_eq_true hv
    obtain ⟨a1, a2, a3, -⟩ := sh_cls hO hw.1.1 hR hi
    show (Sum.inr (4, (L' 2 (sel st nc i)).map (ad 1)) : aE) = Sum.inr (4, (ownL X' (cntB gd nm) i).map (fun i => ad 1 (sel gd nm i)))
    congr 2
    rw [hD2 _ a1]
    have e1 : (ownL X' (cntB gd nm) i) = (List.range (cntB gd nm)).filter ((fun m => decide (oN X m = sel st nc i)) ∘ sel gd nm) := by
      unfold ownL
      refine List.filter_congr (fun m hm => ?_)
      have hm' := List.mem_range.mp hm
      obtain ⟨b1, b2, -⟩ := sh_met hO hR hm'
      show decide (oN X' m = i) = decide (oN X (sel gd nm m) = sel st nc i)
      rw [decide_eq_decide, hoN m hm']
      constructor
      · intro e
        rw [← e, sel_cnt (hw.1.2.2.1 _ b1).1 b2]
      · intro e
        rw [e, a3]
    have e2 : (ownL X' (cntB gd nm) i).map (fun i => ad 1 (sel gd nm i)) = ((ownL X' (cntB gd nm) i).map (sel gd nm)).map (ad 1) := by rw [List.map_map]; rfl
    rw [e2]
    congr 1
    rw [e1, ← List.filter_map, sel_map, List.filter_filter]
    unfold ownL
    rw [List.filter_filter]
    refine List.filter_congr (fun m hm => ?_)
    rw [Bool.and_comm]
  · have hi : i < cntB gd nm := of_decide_eq_true hv
    have h5 := (hw.1.2.2.2.1 _ (hsel hi)).1
    show (Sum.inr (1, (List.range (iN X (sel gd nm i))).map (fun j => ad 2 (sel gd nm i * 5 + j))) : aE) = Sum.inr (1, (List.range (iN X' i)).map (fun j => ad 2 (sgm st gd nc nm 2 (i * 5 + j))))
    rw [hiN i hi]
    congr 2
    refine List.map_congr_left (fun j hj => ?_)
    have := List.mem_range.mp hj
    rw [sgm_2, show (i * 5 + j) / 5 = i by omega, show (i * 5 + j) % 5 = j by omega]
  · show cE G ad X Z' L' 5 (sgm st gd nc nm 5 i) = cE G _ X' _ _ 5 i
    rw [sgm_5]
    clear hv
    show cE5 G ad Z' L' i = cE5 G (fun q i => ad q (sgm st gd nc nm q i)) (zSh st gd Z' nc nm) (lSh X' (cntB st nc) (cntB gd nm)) i
    refine (cE5_congr (ad' := fun q i => ad q (sgm st gd nc nm q i)) (ad := ad) (Z' := zSh st gd Z' nc nm) (Z := Z') (L' := lSh X' (cntB st nc) (cntB gd nm)) (L := L') (fun i => by show ad 5 (sgm st gd nc nm 5 i) = _; rw [sgm_5]) (fun i => by unfold zSh; rw [if_neg (by decide), if_neg (by decide)]) (fun j => ?_) ?_ ?_ i).symm
    · funext i
      unfold zSh
      rw [if_neg (by omega), if_neg (by omega)]
    · rw [hD0]; exact hmap (ad 0) st nc
    · rw [hD1]; exact hmap (ad 1) gd nm
  · cases hv
theorem sh_re {X' Z' : Nat → Nat → Int32} {L' : Nat → Nat → List Nat} {g : Int32} {h : vH} (hw : wI X nc nm) (hO : shOk X nc nm st gd) (hD0 : L' 0 0 = (List.range nc).filter st) (hD1 : L' 1 0 = (List.range nm).filter gd) (hD2 : ∀ d, d < nc → L' 2 d = (ownL X nm d).filter gd) (z0 : ∀ k, k < nc → st k = true → Z' 0 k = nI (cntB st k)) (zb : ∃ b, Z' 3 1 = bI b) (zg : Z' 3 0 = g) (hR : shR X nc nm st gd X') (hP : cP G nc nm ad X Z' L' h) :
    ∃ ad' Z'' L'', cP G (cntB st nc) (cntB gd nm) ad' X' Z'' L'' h ∧ cR X' (cntB st nc) (cntB gd nm) L'' ∧ zK Z'' (cntB st nc) g ∧ ad' 5 = ad 5 := by
  refine ⟨fun q i => ad q (sgm st gd nc nm q i), zSh st gd Z' nc nm, lSh X' (cntB st nc) (cntB gd nm), ?_, ⟨rfl, rfl, fun c hc => rfl⟩, ⟨fun c hc => ?_, zb, zg⟩, rfl⟩
  · obtain ⟨F, h1, h2, h3⟩ := hP
    refine ⟨F, h1, fun q i hv => ?_, fun q i q' i' hv hv' e => ?_⟩
    · rw [h2 q _ (sh_V hw hO hR q i hv), sh_E hw hO hR hD0 hD1 hD2 q i hv]
    · obtain ⟨e1, e2⟩ := h3 q _ q' _ (sh_V hw hO hR q i hv) (sh_V hw hO hR q' i' hv') e
      subst e1
      exact ⟨rfl, sh_J q i i' hv hv' e2⟩
  · obtain ⟨a1, a2, a3, -⟩ := sh_cls hO hw.1.1 hR hc
    show Z' 0 (sel st nc c) = nI c
    rw [z0 _ a1 a2, a3]
theorem sh_ok (hw : wW X nc nm) : shOk X nc nm (shSt X nc nm) (shGd X nc nm) := by
  refine ⟨fun k p hp hs => st_up hw.1 hp hs, fun m hm hg => ?_, fun m hm hg j hj h1 => ?_⟩
  · rw [gd_live hw hm] at hg; exact live_st hw hm hg
  · rw [gd_live hw hm] at hg; exact live_call hw hm hg hj h1
/-- shrink's state behind it -/
theorem sh_done {X' Z' : Nat → Nat → Int32} {L' : Nat → Nat → List Nat} {g : Int32} {h : vH} (hw : wI X nc nm) (hD : dpL X nc nm (liveF X nc nm) 0 L') (z0 : ∀ k, k < nc → shSt X nc nm k = true → Z' 0 k = nI (cntB (shSt X nc nm) k)) (zb : ∃ b, Z' 3 1 = bI b) (zg : Z' 3 0 = g) (hR : shR X nc nm (shSt X nc nm) (shGd X nc nm) X') (hP : cP G nc nm ad X Z' L' h) :
    wI X' (cntB (shSt X nc nm) nc) (cntB (shGd X nc nm) nm) ∧ ∃ ad' Z'' L'', cP G (cntB (shSt X nc nm) nc) (cntB (shGd X nc nm) nm) ad' X' Z'' L'' h ∧ cR X' (cntB (shSt X nc nm) nc) (cntB (shGd X nc nm) nm) L'' ∧ zK Z'' (cntB (shSt X nc nm) nc) g ∧ ad' 5 = ad 5 := by
  refine ⟨sh_inv (sh_ok hw.1) hw hR, sh_re hw (sh_ok hw.1) ?_ ?_ ?_ z0 zb zg hR hP⟩
  · rw [hD.1, clS_0]; rfl
  · rw [hD.2.1]
    exact List.filter_congr (fun x hx => (gd_live hw.1 (List.mem_range.mp hx)).symm)
  · intro d hd
    rw [hD.2.2.2 d (Nat.zero_le _) hd]
    exact List.filter_congr (fun x hx => (gd_live hw.1 (ownL_lt hx)).symm)
theorem sh_num (hw : wW X nc nm) : cntB (shGd X nc nm) nm = cntB (liveF X nc nm).2.1 nm := cntB_congr (fun m hm => gd_live hw hm)
end VC9
