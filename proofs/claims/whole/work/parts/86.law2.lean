/-! The law: what a call of the class and the same call of the reference do to both. -/
section VLj
variable {G : vG} {x am nc nm : Nat} {X : Nat → Nat → Int32} {Y : Nat → Int32} {g : Int32}
def kS (G : vG) (x nc nm : Nat) (X : Nat → Nat → Int32) (g : Int32) : vH → Prop := fun hc => ∃ ad Z L, cP G nc nm ad X Z L hc ∧ cR X nc nm L ∧ zK Z nc g ∧ ad 5 0 = x
def oS (G : vG) (am : Nat) (X : Nat → Nat → Int32) (Y : Nat → Int32) : vH → Prop := fun hm => ∃ adm, mP G am adm X Y hm
def smX (X X' : Nat → Nat → Int32) : Prop := ∀ k i, k < 16 → k ≠ 10 → k ≠ 11 → X' k i = X k i
def oS' (G : vG) (am : Nat) (X : Nat → Nat → Int32) (Y : Nat → Int32) : vH → Prop := fun hm => ∃ X', smX X X' ∧ oS G am X' Y hm
def jI (X : Nat → Nat → Int32) (nc nm : Nat) (Y : Nat → Int32) (g : Int32) : Prop := wI X nc nm ∧ Y 16 = nI nc ∧ Y 17 = nI nm ∧ Y 18 = g
theorem kS_at : cAt (kS G x nc nm X g) 7 x := fun hc h => by
  obtain ⟨ad, Z, L, h1, h2, h3, rfl⟩ := h
  have := h1.o (k := 5) (i := 0) rfl rfl
  exact ⟨this.2, _, this.1⟩
theorem oS_at : cAt (oS G am X Y) 8 am := fun hm h => by
  obtain ⟨adm, h1⟩ := h
  exact ⟨h1.1, _, h1.2.1⟩
theorem oS'_at : cAt (oS' G am X Y) 8 am := fun hm h => by
  obtain ⟨X', -, h1⟩ := h
  exact oS_at hm h1
theorem wW_sm {X' : Nat → Nat → Int32} (h : smX X X') (hw : wW X nc nm) : wW X' nc nm := by
  have e2 : ∀ m, oN X' m = oN X m := fun m => by unfold oN; rw [h 2 m (by decide) (by decide) (by decide)]
  have e5 : ∀ m, iN X' m = iN X m := fun m => by unfold iN; rw [h 5 m (by decide) (by decide) (by decide)]
  have e9 : ∀ m, kN X' m = kN X m := fun m => by unfold kN; rw [h 9 m (by decide) (by decide) (by decide)]
  have e13 : ∀ m, cN X' m = cN X m := fun m => by unfold cN; rw [h 13 m (by decide) (by decide) (by decide)]
  refine ⟨⟨hw.1.1, fun c hc => ?_⟩, hw.2.1, fun m hm => ?_, fun m hm => ?_, fun m hm => ?_, fun m hm j hj h1 => ?_⟩
  · rw [h 0 c (by decide) (by decide) (by decide)]; exact hw.1.2 c hc
  · rw [e2, h 2 m (by decide) (by decide) (by decide)]; exact hw.2.2.1 m hm
  · rw [e5, h 5 m (by decide) (by decide) (by decide)]; exact hw.2.2.2.1 m hm
  · rw [e9, h 9 m (by decide) (by decide) (by decide)]; exact hw.2.2.2.2.1 m hm
  · rw [h 12 _ (by decide) (by decide) (by decide)] at h1
    rw [e5] at hj
    rw [e13, h 13 _ (by decide) (by decide) (by decide)]
    exact hw.2.2.2.2.2 m hm j hj h1
theorem jI_sm {X' : Nat → Nat → Int32} (h : smX X X') (hj : jI X nc nm Y g) : jI X' nc nm Y g := by
  obtain ⟨⟨h1, h2, h3, h4⟩, hy⟩ := hj
  have e2 : ∀ m, oN X' m = oN X m := fun m => by unfold oN; rw [h 2 m (by decide) (by decide) (by decide)]
  have e5 : ∀ m, iN X' m = iN X m := fun m => by unfold iN; rw [h 5 m (by decide) (by decide) (by decide)]
  refine ⟨⟨wW_sm h h1, fun m hm => ?_, fun m hm => ?_, fun m hm j hj => ?_⟩, hy⟩
  · rw [h 8 m (by decide) (by decide) (by decide), h 1 _ (by decide) (by decide) (by decide), e2]; exact h2 m hm
  · rw [h 3 m (by decide) (by decide) (by decide)]; exact h3 m hm
  · rw [e5] at hj
    rw [h 12 _ (by decide) (by decide) (by decide)]; exact h4 m hm j hj
theorem kS_sm {X' : Nat → Nat → Int32} {hc : vH} (h : smX X X') (hk : kS G x nc nm X g hc) : kS G x nc nm X' g hc := by
  obtain ⟨ad, Z, L, h1, h2, h3, h4⟩ := hk
  have e5 : ∀ m, iN X' m = iN X m := fun m => by unfold iN; rw [h 5 m (by decide) (by decide) (by decide)]
  refine ⟨ad, Z, L, h1.congr (fun q j hv => ?_) (fun q j hv => ?_), cR_same (fun i => h 2 i (by decide) (by decide) (by decide)) h2, h3, h4⟩
  · rcases q with _ | _ | _ | _ | _ | _ | q
    · simp only [cV] at hv ⊢; exact hv
    · simp only [cV] at hv ⊢; exact hv
    · simp only [cV, e5] at hv ⊢; exact hv
    · simp only [cV] at hv ⊢; exact hv
    · simp only [cV] at hv ⊢; exact hv
    · simp only [cV] at hv ⊢; exact hv
    · cases hv
  · rcases q with _ | _ | _ | _ | _ | _ | q
    · simp only [cE, pS, h 0 j (by decide) (by decide) (by decide), h 1 j (by decide) (by decide) (by decide)]
    · simp only [cE, oN, h 2 j (by decide) (by decide) (by decide), h 6 j (by decide) (by decide) (by decide), h 7 j (by decide) (by decide) (by decide), h 4 j (by decide) (by decide) (by decide), h 9 j (by decide) (by decide) (by decide), h 3 j (by decide) (by decide) (by decide)]
    · simp only [cE, cN, h 12 j (by decide) (by decide) (by decide), h 13 j (by decide) (by decide) (by decide), h 15 j (by decide) (by decide) (by decide), h 14 j (by decide) (by decide) (by decide)]
    · simp only [cE]
    · simp only [cE, e5]
    · simp only [cE]
    · cases hv
theorem smX.rfl' : smX X X := fun _ _ _ _ _ => rfl
/-- a contract of the class on its state -/
theorem kS_V {M1 : vM} {fr1 lo1 mc1 ms1 : Nat} {v : Option Value} {X1 : Nat → Nat → Int32} {As : List Value} (c : ∀ ad Z L, cR X nc nm L → zK Z nc g → VS G M1 fr1 lo1 0 (vArgs 0 (.ref (ad 5 0) :: As)) [] nc nm ad X Z L mc1 ms1 (cK v X1 L nc g)) (hX : ∀ i, X1 2 i = X 2 i) (b1 : fr1 ≤ 42 := by decide) (b2 : lo1 ≤ 1010 := by decide) (b3 : mc1 ≤ 4 := by decide) (b4 : ms1 ≤ 140 := by decide) : ∀ hc, kS G x nc nm X g hc → V G M1 42 1010 0 (vArgs 0 (.ref x :: As)) [] hc 4 140 (fun r h' => r = .inl v ∧ kS G x nc nm X1 g h') := by
  rintro hc ⟨ad, Z, L, h1, h2, h3, rfl⟩
  refine V.wide b1 b2 b3 b4 (V.mono ?_ (c ad Z L h2 h3 hc h1))
  rintro r h' ⟨X', Z', L', z1, z2, rfl, rfl, z3⟩
  exact ⟨z2, ad, Z', L', z1, cR_same hX h2, z3, rfl⟩
theorem kS_X {M1 : vM} {fr1 lo1 mc1 ms1 : Nat} {E : String} {As : List Value} (c : ∀ ad Z L, cR X nc nm L → zK Z nc g → VS G M1 fr1 lo1 0 (vArgs 0 (.ref (ad 5 0) :: As)) [] nc nm ad X Z L mc1 ms1 (cKx E X L nc g)) (b1 : fr1 ≤ 42 := by decide) (b2 : lo1 ≤ 1010 := by decide) (b3 : mc1 ≤ 4 := by decide) (b4 : ms1 ≤ 140 := by decide) : ∀ hc, kS G x nc nm X g hc → V G M1 42 1010 0 (vArgs 0 (.ref x :: As)) [] hc 4 140 (fun r h' => r = .inr E ∧ kS G x nc nm X g h') := by
  rintro hc ⟨ad, Z, L, h1, h2, h3, rfl⟩
  refine V.wide b1 b2 b3 b4 (V.mono ?_ (c ad Z L h2 h3 hc h1))
  rintro r h' ⟨X', Z', L', z1, z2, rfl, rfl, z3⟩
  exact ⟨z2, ad, Z', L', z1, h2, z3, rfl⟩
theorem kS_T {M1 : vM} {fr1 lo1 mc1 ms1 nc' nm' : Nat} {v : Option Value} {X1 : Nat → Nat → Int32} {As : List Value} (c : ∀ ad Z L, cR X nc nm L → zK Z nc g → VT G M1 fr1 lo1 0 (vArgs 0 (.ref (ad 5 0) :: As)) [] nc nm ad X Z L mc1 ms1 (fun r h' => r = .inl v ∧ ∃ ad' Z' L', cP G nc' nm' ad' X1 Z' L' h' ∧ cR X1 nc' nm' L' ∧ zK Z' nc' g ∧ ad' 5 = ad 5)) (b1 : fr1 ≤ 42 := by decide) (b2 : lo1 ≤ 1010 := by decide) (b3 : mc1 ≤ 4 := by decide) (b4 : ms1 ≤ 140 := by decide) : ∀ hc, kS G x nc nm X g hc → V G M1 42 1010 0 (vArgs 0 (.ref x :: As)) [] hc 4 140 (fun r h' => r = .inl v ∧ kS G x nc' nm' X1 g h') := by
  rintro hc ⟨ad, Z, L, h1, h2, h3, rfl⟩
  refine V.wide b1 b2 b3 b4 (V.mono ?_ (c ad Z L h2 h3 hc h1))
  rintro r h' ⟨z1, ad', Z', L', z2, z3, z4, z5⟩
  exact ⟨z1, ad', Z', L', z2, z3, z4, by rw [z5]⟩
/-- a contract of the reference on its state -/
theorem oS_V {M1 : vM} {fr1 lo1 : Nat} {v : Option Value} {X1 : Nat → Nat → Int32} {Y1 : Nat → Int32} {As : List Value} (c : ∀ adm, VM G M1 fr1 lo1 0 (vArgs 0 (.ref am :: As)) [] am adm X Y (mRet v X1 Y1)) (b1 : fr1 ≤ 42 := by decide) (b2 : lo1 ≤ 1010 := by decide) : ∀ hm, oS G am X Y hm → V G M1 42 1010 0 (vArgs 0 (.ref am :: As)) [] hm 0 0 (fun r h' => r = .inl v ∧ oS' G am X1 Y1 h') := by
  rintro hm ⟨adm, h1⟩
  refine V.wide b1 b2 (Nat.le_refl _) (Nat.le_refl _) (V.mono ?_ (c adm hm h1))
  rintro r h' ⟨-, X', Y', z1, z2, rfl, rfl⟩
  exact ⟨z2, X', smX.rfl', adm, z1⟩
/-- a call that answers with a number or an exception, on both sides -/
def opOk (G : vG) (x am : Nat) (H : Nat → List (Nat × Value)) (Mh Mm : vM) (As : List Value) (nc nm : Nat) (X : Nat → Nat → Int32) (Y : Nat → Int32) (g : Int32) : Prop :=
  ∃ (k a b : Int32) (nc' nm' : Nat) (X' : Nat → Nat → Int32) (Y' : Nat → Int32) (g' : Int32),
    (∀ (Mo : vH → Prop) (o : Nat) (w : Nat → Int64), ∃ w', (k = 0 → w' 0 = a.toInt64) ∧ VW G Mh 43 1050 0 (H o) [] (lwQ G (kS G x nc nm X g) Mo o w) 4 140 (fun r h' => r = .inl (some (.int k)) ∧ lwQ G (kS G x nc' nm' X' g') Mo o w' h')) ∧
    (∀ hm, oS G am X Y hm → V G Mm 42 1010 0 (vArgs 0 (.ref am :: As)) [] hm 0 0 (fun r h' => r = .inl (some (.int b)) ∧ oS' G am X' Y' h')) ∧ (k = 0 → b = a) ∧ Y' 19 = k ∧ jI X' nc' nm' Y' g'
theorem jI_19 {v : Int32} (hj : jI X nc nm Y g) : jI X nc nm (va_up Y 19 v) g := ⟨hj.1, hj.2.1, hj.2.2.1, hj.2.2.2⟩
theorem updL0 {w : Nat → Int64} {a : Int64} : vp_updL w 0 a 0 = a := by simp [vp_updL]
theorem op_bad {H : Nat → List (Nat × Value)} {Mh Mm : vM} {As : List Value} {k b : Int32} (hk : k ≠ 0) (hj : jI X nc nm Y g) (h1 : ∀ (Mo : vH → Prop) (o : Nat) (w : Nat → Int64), VW G Mh 43 1050 0 (H o) [] (lwQ G (kS G x nc nm X g) Mo o w) 4 140 (fun r h' => r = .inl (some (.int k)) ∧ lwQ G (kS G x nc nm X g) Mo o w h')) {Y' : Nat → Int32} (h2 : ∀ hm, oS G am X Y hm → V G Mm 42 1010 0 (vArgs 0 (.ref am :: As)) [] hm 0 0 (fun r h' => r = .inl (some (.int b)) ∧ oS' G am X Y' h')) (hY : Y' 19 = k) (hY6 : Y' 16 = Y 16) (hY7 : Y' 17 = Y 17) (hY8 : Y' 18 = Y 18) : opOk G x am H Mh Mm As nc nm X Y g :=
  ⟨k, 0, b, nc, nm, X, Y', g, fun Mo o w => ⟨w, fun z => absurd z hk, h1 Mo o w⟩, h2, fun z => absurd z hk, hY, hj.1, by rw [hY6]; exact hj.2.1, by rw [hY7]; exact hj.2.2.1, by rw [hY8]; exact hj.2.2.2⟩
theorem op_add {v : Int32} (hj : jI X nc nm Y g) : opOk G x am (fun o => [(0, .ref x), (1, .int v), (2, .ref o)]) M_Lw_add M_Mo_add [.int v] nc nm X Y g := by
  obtain ⟨hw, y6, y7, y8⟩ := id hj
  have h8 := hw.1.1.1
  cases hb : (decide (v = -1) || inB v 0 (nI nc - 1)) with
  | false =>
    have hb2 : addB Y v = false := by unfold addB; rw [y6]; exact hb
    exact op_bad (k := 1) (by decide) hj (fun Mo o w => h_add_x1 kS_at (kS_X (fun ad Z L h2 h3 => c_Cs_add_bad h8 h2 h3 hb))) (oS_V (fun adm => c_Mo_add_bad hb2)) rfl rfl rfl rfl
  | true =>
    have hb2 : addB Y v = true := by unfold addB; rw [y6]; exact hb
    by_cases h : nc = 8
    · subst h
      exact op_bad (k := 2) (by decide) hj (fun Mo o w => h_add_x2 kS_at (kS_X (fun ad Z L h2 h3 => c_Cs_add_full h2 h3 hb))) (oS_V (fun adm => c_Mo_add_full hb2 y6)) rfl rfl rfl rfl
    · have hv : v = -1 ∨ ∃ d, d < nc ∧ v = nI d := by
        rw [Bool.or_eq_true, decide_eq_true_eq] at hb
        exact hb.imp id (fun z => (inB_iff (by omega)).mp z)
      exact ⟨0, nI nc, nI nc, nc + 1, nm, _, _, g, fun Mo o w => ⟨_, fun _ => updL0, h_add_ok kS_at (kS_T (fun ad Z L h2 h3 => c_Cs_add_ok hw.1 h2 h3 (by omega) hb))⟩, oS_V (fun adm => c_Mo_add_ok hb2 y6 (by omega)), fun _ => rfl, rfl, wI_add hw (by omega) hv, rfl, y7, y8⟩
theorem op_method {o n r : Int32} (hj : jI X nc nm Y g) : opOk G x am (fun q => [(0, .ref x), (1, .int o), (2, .int n), (3, .int r), (4, .ref q)]) M_Lw_method M_Mo_method [.int o, .int n, .int r] nc nm X Y g := by
  obtain ⟨hw, y6, y7, y8⟩ := id hj
  have h8 := hw.1.1.1
  have h24 := hw.1.2.1
  cases hb : (inB o 0 (nI nc - 1) && inB n 0 25 && inB r 0 2) with
  | false =>
    have hb2 : metB Y o n r = false := by unfold metB; rw [y6]; exact hb
    exact op_bad (k := 1) (by decide) hj (fun Mo o w => h_method_x1 kS_at (kS_X (fun ad Z L h2 h3 => c_Cs_method_bad h8 h2 h3 hb))) (oS_V (fun adm => c_Mo_method_bad hb2)) rfl rfl rfl rfl
  | true =>
    have hb2 : metB Y o n r = true := by unfold metB; rw [y6]; exact hb
    have hb3 := hb
    rw [Bool.and_eq_true, Bool.and_eq_true] at hb3
    obtain ⟨c, hc, rfl⟩ := (inB_iff (by omega)).mp hb3.1.1
    by_cases hf : nm = 24 ∨ ∃ m, ownS X nm (nI c) n r = some m
    · exact op_bad (k := 2) (by decide) hj (fun Mo o w => h_method_x2 kS_at (kS_X (fun ad Z L h2 h3 => c_Cs_method_full hw.1 h2 h3 hc hb hf))) (oS_V (fun adm => c_Mo_method_full hb2 y7 h24 hf)) rfl rfl rfl rfl
    · have hm : nm < 24 := by
        rcases Nat.lt_or_ge nm 24 with z | z
        · exact z
        · exact absurd (Or.inl (by omega)) hf
      have hf2 : ownS X nm (nI c) n r = none := by
        cases e : ownS X nm (nI c) n r with
        | none => rfl
        | some m => exact absurd (Or.inr ⟨m, e⟩) hf
      have hv : ∃ v, v < 26 ∧ n = nI v := by
        obtain ⟨v, v1, v2⟩ := (inB_of (n := 25) 25 rfl (by omega)).mp hb3.1.2
        exact ⟨v, by omega, v2⟩
      exact ⟨0, nI nm, nI nm, nc, nm + 1, _, _, g, fun Mo o w => ⟨_, fun _ => updL0, h_method_ok kS_at (kS_T (fun ad Z L h2 h3 => c_Cs_method_ok hw.1 h2 h3 hc hm hb hf2))⟩, oS_V (fun adm => c_Mo_method_ok hb2 y7 hm (by omega) hf2), fun _ => rfl, rfl, wI_met hw hm hc hv, y6, rfl, y8⟩
theorem op_item {m k a b c : Int32} (hj : jI X nc nm Y g) : opOk G x am (fun q => [(0, .ref x), (1, .int m), (2, .int k), (3, .int a), (4, .int b), (5, .int c), (6, .ref q)]) M_Lw_item M_Mo_item [.int m, .int k, .int a, .int b, .int c] nc nm X Y g := by
  obtain ⟨hw, y6, y7, y8⟩ := id hj
  have h8 := hw.1.1.1
  have h24 := hw.1.2.1
  have hbe : itB Y m k a b c = (inB m 0 (nI nm - 1) && iiB nc k a b c) := by
    unfold itB iiB
    rw [y6, y7, Bool.and_assoc]
  cases hb : (inB m 0 (nI nm - 1) && iiB nc k a b c) with
  | false =>
    exact op_bad (k := 1) (by decide) hj (fun Mo o w => h_item_x1 kS_at (kS_X (fun ad Z L h2 h3 => c_Cs_item_bad h8 h24 h2 h3 hb))) (oS_V (fun adm => c_Mo_item_bad (by rw [hbe]; exact hb))) rfl rfl rfl rfl
  | true =>
    have hb2 : itB Y m k a b c = true := by rw [hbe]; exact hb
    have hb3 := hb
    rw [Bool.and_eq_true] at hb3
    obtain ⟨q, hq, rfl⟩ := (inB_iff (by omega)).mp hb3.1
    have hi := hw.1.2.2.2.1 q hq
    by_cases h5 : iN X q = 5
    · exact op_bad (k := 2) (by decide) hj (fun Mo o w => h_item_x2 kS_at (kS_X (fun ad Z L h2 h3 => c_Cs_item_full h8 h24 h2 h3 hq hb h5))) (oS_V (fun adm => c_Mo_item_full hb2 (by omega) (by rw [hi.2, h5]))) rfl rfl rfl rfl
    · have hii := hb3.2
      unfold iiB at hii
      rw [Bool.and_eq_true] at hii
      obtain ⟨j, j1, j2⟩ := (inB_of (n := 2) 2 rfl (by omega)).mp hii.1
      have hk : k = 0 ∨ k = 1 ∨ k = 2 := by
        rcases (show j = 0 ∨ j = 1 ∨ j = 2 by omega) with rfl | rfl | rfl
        · exact Or.inl j2
        · exact Or.inr (Or.inl j2)
        · exact Or.inr (Or.inr j2)
      have ha : k = 1 → ∃ d, d < nc ∧ a = nI d := by
        intro z
        have h1 := hii.2
        rw [decide_eq_true z] at h1
        cases e : inB a 0 (nI nc - 1) with
        | true => exact (inB_iff (by omega)).mp e
        | false => rw [e] at h1; simp at h1
      exact ⟨0, nI (iN X q + 1), nI (iN X q + 1), nc, nm, _, _, g, fun Mo o w => ⟨_, fun _ => updL0, h_item_ok kS_at (kS_T (fun ad Z L h2 h3 => c_Cs_item_ok hw.1 h2 h3 hq hb rfl (by omega) hk ha))⟩, oS_V (fun adm => c_Mo_item_ok hb2 (by omega) hi.2 (by omega)), fun _ => rfl, rfl, wI_it hw hq rfl (by omega) hk ha, y6, y7, y8⟩
theorem itsF_err {P : Nat → Int32 → Int32 → rS → rR} {k m : Nat} (hP : ∀ k n r s e, P k n r s = .inl e → e = 2 ∨ e = 3) : ∀ c j s e, itsF X P k m c j s = .inl e → e = 2 ∨ e = 3
  | 0, j, s, e, h => by unfold itsF at h; cases h
  | c + 1, j, s, e, h => by
    unfold itsF at h
    cases h1 : oneF X P k (m * 5 + j) s with
    | inl e' =>
      rw [h1] at h
      cases h
      unfold oneF at h1
      split at h1
      · cases h1; exact Or.inr rfl
      · split at h1
        · cases h1
        · exact hP _ _ _ _ _ h1
    | inr s' => rw [h1] at h; exact itsF_err hP c (j + 1) s' e h
theorem perF_err : ∀ d k n r s e, perF X nm d k n r s = .inl e → e = 2 ∨ e = 3
  | 0, k, n, r, s, e, h => by unfold perF at h; cases h; exact Or.inr rfl
  | d + 1, k, n, r, s, e, h => by
    unfold perF at h
    cases h1 : findS X nm n r 9 k with
    | none => rw [h1] at h; cases h; exact Or.inl rfl
    | some m => rw [h1] at h; exact itsF_err (perF_err d) _ _ _ _ h
theorem oS_run {v : Option Value} {Y1 : Nat → Int32} {p : rR} {As : List Value} (hp : ∀ r X' Y', runQ X Y p r X' Y' → r = .inl v ∧ Y' = Y1) (c : ∀ adm, VM G M_Mo_run 2 60 0 (vArgs 0 (.ref am :: As)) [] am adm X Y (runQ X Y p)) : ∀ hm, oS G am X Y hm → V G M_Mo_run 42 1010 0 (vArgs 0 (.ref am :: As)) [] hm 0 0 (fun r h' => r = .inl v ∧ oS' G am X Y1 h') := by
  rintro hm ⟨adm, h1⟩
  refine V.wide (by decide) (by decide) (Nat.le_refl _) (Nat.le_refl _) (V.mono ?_ (c adm hm h1))
  rintro r h' ⟨-, X', Y', z1, z2⟩
  obtain ⟨z3, rfl⟩ := hp r X' Y' z2
  exact ⟨z3, X', fun k i a _ _ => z2.1 k i (by omega), adm, z1⟩
theorem op_run {o n r : Int32} (hj : jI X nc nm Y g) : opOk G x am (fun q => [(0, .ref x), (1, .int o), (2, .int n), (3, .int r), (4, .ref q)]) M_Lw_run M_Mo_run [.int o, .int n, .int r] nc nm X Y g := by
  obtain ⟨hw, y6, y7, y8⟩ := id hj
  have h8 := hw.1.1.1
  cases hb : (inB o 0 (nI nc - 1) && inB n 0 25 && inB r 0 2) with
  | false =>
    have hb2 : metB Y o n r = false := by unfold metB; rw [y6]; exact hb
    exact op_bad (k := 1) (by decide) hj (fun Mo o w => h_run_x1 kS_at (kS_X (fun ad Z L h2 h3 => c_Cs_run_bad h8 h2 h3 hb))) (oS_V (fun adm => c_Mo_run_bad hb2)) rfl rfl rfl rfl
  | true =>
    have hb2 : metB Y o n r = true := by unfold metB; rw [y6]; exact hb
    have hb3 := hb
    rw [Bool.and_eq_true, Bool.and_eq_true] at hb3
    obtain ⟨c, hc, rfl⟩ := (inB_iff (by omega)).mp hb3.1.1
    cases hp : perF X nm 16 c n r (0, 0) with
    | inr s =>
      refine ⟨0, s.2, s.2, nc, nm, X, va_up Y 19 0, g, fun Mo o w => ⟨_, fun _ => updL0, h_run_ok kS_at (kS_V (fun ad Z L h2 h3 => c_Cs_run_ok hw.1 h2 h3 hc hb hp) (fun _ => rfl))⟩, ?_, fun _ => rfl, rfl, jI_19 hj⟩
      refine oS_run (p := perF X nm 16 c n r (0, 0)) (fun z X' Y' hz => ?_) (fun adm => c_Mo_run_ok hw.1 y7 hb2 hc)
      rw [hp] at hz
      exact ⟨hz.2.1, hz.2.2⟩
    | inl e =>
      have hm : ∀ hm, oS G am X Y hm → V G M_Mo_run 42 1010 0 (vArgs 0 (.ref am :: [.int (nI c), .int n, .int r])) [] hm 0 0 (fun z h' => z = .inl (some (.int 0)) ∧ oS' G am X (va_up Y 19 e) h') := by
        refine oS_run (p := perF X nm 16 c n r (0, 0)) (fun z X' Y' hz => ?_) (fun adm => c_Mo_run_ok hw.1 y7 hb2 hc)
        rw [hp] at hz
        exact ⟨hz.2.1, hz.2.2⟩
      rcases perF_err 16 c n r (0, 0) e hp with rfl | rfl
      · exact op_bad (k := 2) (by decide) hj (fun Mo o w => h_run_x2 kS_at (kS_X (fun ad Z L h2 h3 => c_Cs_run_er hw.1 h2 h3 hc hb hp))) hm rfl rfl rfl rfl
      · exact op_bad (k := 3) (by decide) hj (fun Mo o w => h_run_x3 kS_at (kS_X (fun ad Z L h2 h3 => c_Cs_run_er hw.1 h2 h3 hc hb hp))) hm rfl rfl rfl rfl
theorem mo_told {m w nm : Nat} {adm : Nat → Nat} (hw : wW X nc nm) (hy : Y 17 = nI nm) (hm : m < nm) (h8 : w < 8) : VM G M_Mo_told 2 60 0 [(0, .ref am), (1, .int (nI m)), (2, .int (nI w))] [] am adm X Y (mRet (some (.int (X (tdK w) m))) X (va_up Y 19 0)) := by
  have h24 := hw.2.1
  rcases (show w = 0 ∨ w = 1 ∨ w = 2 ∨ w = 3 ∨ w = 4 ∨ w = 5 ∨ w = 6 ∨ w = 7 by omega) with rfl | rfl | rfl | rfl | rfl | rfl | rfl | rfl
  · exact c_Mo_told_0 hy h24 hm
  · exact c_Mo_told_1 hy h24 hm
  · exact c_Mo_told_2 hy h24 hm
  · exact c_Mo_told_3 hy h24 hm
  · exact c_Mo_told_4 hy h24 hm (hw.2.2.2.2.1 m hm)
  · exact c_Mo_told_5 hy h24 hm
  · exact c_Mo_told_6 hy h24 hm
  · exact c_Mo_told_7 hy h24 hm
theorem op_told {m w : Int32} (hj : jI X nc nm Y g) : opOk G x am (fun q => [(0, .ref x), (1, .int m), (2, .int w), (3, .ref q)]) M_Lw_told M_Mo_told [.int m, .int w] nc nm X Y g := by
  obtain ⟨hw, y6, y7, y8⟩ := id hj
  have h24 := hw.1.2.1
  have hbe : tdB Y m w = (inB m 0 (nI nm - 1) && inB w 0 7) := by unfold tdB; rw [y7]
  cases hb : (inB m 0 (nI nm - 1) && inB w 0 7) with
  | false =>
    exact op_bad (k := 1) (by decide) hj (fun Mo o w => h_told_x1 kS_at (kS_X (fun ad Z L h2 h3 => c_Cs_told_bad h24 h2 h3 hb))) (oS_V (fun adm => c_Mo_told_bad (by rw [hbe]; exact hb))) rfl rfl rfl rfl
  | true =>
    rw [Bool.and_eq_true] at hb
    obtain ⟨q, hq, rfl⟩ := (inB_iff (by omega)).mp hb.1
    obtain ⟨z, hz, rfl⟩ := (inB_of (n := 7) 7 rfl (by omega)).mp hb.2
    exact ⟨0, X (tdK z) q, X (tdK z) q, nc, nm, X, va_up Y 19 0, g, fun Mo o w => ⟨_, fun _ => updL0, h_told_ok kS_at (kS_V (fun ad Z L h2 h3 => c_Cs_told_ok hw.1 h2 h3 hq (by omega) (hw.2.1 q hq)) (fun _ => rfl))⟩, oS_V (fun adm => mo_told hw.1 y7 hq (by omega)), fun _ => rfl, rfl, jI_19 hj⟩
theorem op_inside {m i w : Int32} (hj : jI X nc nm Y g) : opOk G x am (fun q => [(0, .ref x), (1, .int m), (2, .int i), (3, .int w), (4, .ref q)]) M_Lw_inside M_Mo_inside [.int m, .int i, .int w] nc nm X Y g := by
  obtain ⟨hw, y6, y7, y8⟩ := id hj
  have h24 := hw.1.2.1
  have hbe : inS Y m w = (inB m 0 (nI nm - 1) && inB w 0 3) := by unfold inS; rw [y7]
  cases hb : (inB m 0 (nI nm - 1) && inB w 0 3) with
  | false =>
    exact op_bad (k := 1) (by decide) hj (fun Mo o w => h_inside_x1 kS_at (kS_X (fun ad Z L h2 h3 => c_Cs_inside_bad h24 h2 h3 hb))) (oS_V (fun adm => c_Mo_inside_bad (by rw [hbe]; exact hb))) rfl rfl rfl rfl
  | true =>
    have hb2 : inS Y m w = true := by rw [hbe]; exact hb
    rw [Bool.and_eq_true] at hb
    obtain ⟨q, hq, rfl⟩ := (inB_iff (by omega)).mp hb.1
    have hi := hw.1.2.2.2.1 q hq
    cases hib : inB i 0 (nI (iN X q) - 1) with
    | false =>
      exact op_bad (k := 2) (by decide) hj (fun Mo o w => h_inside_x2 kS_at (kS_X (fun ad Z L h2 h3 => c_Cs_inside_none hw.1 h2 h3 hq hb.2 hib))) (oS_V (fun adm => c_Mo_inside_none hb2 (by omega) (by rw [hi.2]; exact hib))) rfl rfl rfl rfl
    | true =>
      obtain ⟨j, hj2, rfl⟩ := (inB_iff (by omega)).mp hib
      obtain ⟨z, hz, rfl⟩ := (inB_of (n := 3) 3 rfl (by omega)).mp hb.2
      exact ⟨0, X (12 + z) (q * 5 + j), X (12 + z) (q * 5 + j), nc, nm, X, va_up Y 19 0, g, fun Mo o w => ⟨_, fun _ => updL0, h_inside_ok kS_at (kS_V (fun ad Z L h2 h3 => c_Cs_inside_ok hw.1 h2 h3 hq hj2 (by omega)) (fun _ => rfl))⟩, oS_V (fun adm => c_Mo_inside_ok hb2 (by omega) hi.2 hi.1 hj2 (by omega)), fun _ => rfl, rfl, jI_19 hj⟩
theorem op_trace {o n r : Int32} (hj : jI X nc nm Y g) : opOk G x am (fun q => [(0, .ref x), (1, .int o), (2, .int n), (3, .int r), (4, .ref q)]) M_Lw_trace M_Mo_trace [.int o, .int n, .int r] nc nm X Y g := by
  obtain ⟨hw, y6, y7, y8⟩ := id hj
  have h8 := hw.1.1.1
  have h24 := hw.1.2.1
  have hbe : trB Y o n r = (inB o 0 (nI nc - 1) && inB n 0 26 && inB r 0 2) := by unfold trB; rw [y6]
  cases hb : (inB o 0 (nI nc - 1) && inB n 0 26 && inB r 0 2) with
  | false =>
    exact op_bad (k := 1) (by decide) hj (fun Mo o w => h_trace_x1 kS_at (kS_X (fun ad Z L h2 h3 => c_Cs_trace_bad h8 h2 h3 hb))) (oS_V (fun adm => c_Mo_trace_bad (by rw [hbe]; exact hb))) rfl rfl rfl rfl
  | true =>
    have hb2 : trB Y o n r = true := by rw [hbe]; exact hb
    have hb3 := hb
    rw [Bool.and_eq_true, Bool.and_eq_true] at hb3
    obtain ⟨c, hc, rfl⟩ := (inB_iff (by omega)).mp hb3.1.1
    cases hf : ownS X nm (nI c) n r with
    | none =>
      exact op_bad (k := 2) (by decide) hj (fun Mo o w => h_trace_x2 kS_at (kS_X (fun ad Z L h2 h3 => c_Cs_trace_none hw.1 h2 h3 hc hb hf))) (oS_V (fun adm => c_Mo_trace_none hb2 y7 h24 hf)) rfl rfl rfl rfl
    | some m =>
      exact ⟨0, X 6 m, X 6 m, nc, nm, X, va_up Y 19 0, g, fun Mo o w => ⟨_, fun _ => updL0, h_trace_ok kS_at (kS_V (fun ad Z L h2 h3 => c_Cs_trace_ok hw.1 h2 h3 hc hb hf) (fun _ => rfl))⟩, oS_V (fun adm => c_Mo_trace_ok hb2 y7 h24 hf), fun _ => rfl, rfl, jI_19 hj⟩
end VLj
