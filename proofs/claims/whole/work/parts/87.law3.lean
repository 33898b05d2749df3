/-! The law: keep, shrink, rename, count on both sides. -/
section VLk
variable {G : vG} {x am nc nm : Nat} {X : Nat → Nat → Int32} {Y : Nat → Int32} {g : Int32}
/-- the law's own state -/
def lwJ (G : vG) (x am o : Nat) : vH → Prop := fun h => ∃ nc nm X Y g w, jI X nc nm Y g ∧ lwQ G (kS G x nc nm X g) (oS G am X Y) o w h
theorem lw_join {o : Nat} {w : Nat → Int64} {h : vH} (hj : jI X nc nm Y g) (hl : lwQ G (kS G x nc nm X g) (oS' G am X Y) o w h) : lwJ G x am o h := by
  obtain ⟨hc, hm, z1, z2, z3, z4, z5, z6, z7, X', z8, z9⟩ := hl
  exact ⟨nc, nm, X', Y, g, w, jI_sm z8 hj, hc, hm, z1, z2, z3, z4, z5, z6, kS_sm z8 z7, z9⟩
def opK (G : vG) (x am : Nat) (m : Int32) (b : Bool) (nc nm : Nat) (X : Nat → Nat → Int32) (Y : Nat → Int32) (g : Int32) : Prop :=
  ∃ (k : Int32) (X' : Nat → Nat → Int32) (Y' : Nat → Int32),
    (∀ (Mo : vH → Prop) (o : Nat) (w : Nat → Int64), VW G M_Lw_keep 43 1050 0 [(0, .ref x), (1, .int m), (2, .int (bI b))] [] (lwQ G (kS G x nc nm X g) Mo o w) 4 140 (fun r h' => r = .inl (some (.int k)) ∧ lwQ G (kS G x nc nm X' g) Mo o w h')) ∧
    (∀ hm, oS G am X Y hm → V G M_Mo_keep 42 1010 0 (vArgs 0 (.ref am :: [.int m, .int (bI b)])) [] hm 0 0 (fun r h' => r = .inl none ∧ oS' G am X' Y' h')) ∧ Y' 19 = k ∧ jI X' nc nm Y' g
theorem wI_keep {m : Nat} {b : Bool} (hw : wI X nc nm) : wI (mW X 9 m (bI b)) nc nm := by
  have e : ∀ k i, k ≠ 9 → mW X 9 m (bI b) k i = X k i := fun k i h => mW_k h
  have e2 : ∀ i, oN (mW X 9 m (bI b)) i = oN X i := fun i => by unfold oN; rw [e 2 i (by decide)]
  have e5 : ∀ i, iN (mW X 9 m (bI b)) i = iN X i := fun i => by unfold iN; rw [e 5 i (by decide)]
  have e13 : ∀ i, cN (mW X 9 m (bI b)) i = cN X i := fun i => by unfold cN; rw [e 13 i (by decide)]
  refine ⟨⟨⟨hw.1.1.1, fun c hc => ?_⟩, hw.1.2.1, fun q hq => ?_, fun q hq => ?_, fun q hq => ?_, fun q hq j hj h1 => ?_⟩, fun q hq => ?_, fun q hq => ?_, fun q hq j hj => ?_⟩
  · rw [e 0 c (by decide)]; exact hw.1.1.2 c hc
  · rw [e2, e 2 q (by decide)]; exact hw.1.2.2.1 q hq
  · rw [e5, e 5 q (by decide)]; exact hw.1.2.2.2.1 q hq
  · by_cases h : q = m
    · subst h
      unfold kN
      rw [mW_at]
      cases b <;> rfl
    · have := hw.1.2.2.2.2.1 q hq
      unfold kN at this ⊢
      rw [mW_i h]; exact this
  · rw [e5] at hj
    rw [e 12 _ (by decide)] at h1
    rw [e13, e 13 _ (by decide)]; exact hw.1.2.2.2.2.2 q hq j hj h1
  · rw [e 8 q (by decide), e2, e 1 _ (by decide)]; exact hw.2.1 q hq
  · rw [e 3 q (by decide)]; exact hw.2.2.1 q hq
  · rw [e5] at hj
    rw [e 12 _ (by decide)]; exact hw.2.2.2 q hq j hj
theorem op_keep {m : Int32} {b : Bool} (hj : jI X nc nm Y g) : opK G x am m b nc nm X Y g := by
  obtain ⟨hw, y6, y7, y8⟩ := id hj
  have h24 := hw.1.2.1
  cases hb : inB m 0 (nI nm - 1) with
  | false =>
    exact ⟨1, X, va_up Y 19 1, fun Mo o w => h_keep_x1 kS_at (kS_X (fun ad Z L h2 h3 => c_Cs_keep_bad h24 h2 h3 hb)), oS_V (fun adm => c_Mo_keep_bad (by rw [y7]; exact hb)), rfl, jI_19 hj⟩
  | true =>
    obtain ⟨q, hq, rfl⟩ := (inB_iff (by omega)).mp hb
    exact ⟨0, mW X 9 q (bI b), va_up Y 19 0, fun Mo o w => h_keep_ok kS_at (kS_V (fun ad Z L h2 h3 => c_Cs_keep_ok h24 h2 h3 hq) (fun _ => mW_k (by decide))), oS_V (fun adm => c_Mo_keep_ok y7 hq h24), rfl, wI_keep hw, y6, y7, y8⟩
/-- a call without an exception, on both sides -/
def opD (G : vG) (x am : Nat) (Mc Mm : vM) (As : List Value) (nc nm : Nat) (X : Nat → Nat → Int32) (Y : Nat → Int32) (g : Int32) : Prop :=
  ∃ (a : Int32) (C' Mo' : vH → Prop),
    (∀ hc, kS G x nc nm X g hc → V G Mc 42 1010 0 (vArgs 0 (.ref x :: As)) [] hc 4 140 (fun r h' => r = .inl (some (.int a)) ∧ C' h')) ∧
    (∀ hm, oS G am X Y hm → V G Mm 42 1010 0 (vArgs 0 (.ref am :: As)) [] hm 0 0 (fun r h' => r = .inl (some (.int a)) ∧ Mo' h')) ∧
    ∀ o w h, lwQ G C' Mo' o w h → lwJ G x am o h
theorem op_shrink (hj : jI X nc nm Y g) : opD G x am M_Cs_shrink M_Mo_shrink [] nc nm X Y g := by
  obtain ⟨hw, y6, y7, y8⟩ := id hj
  refine ⟨nI (nm - cntB (liveF X nc nm).2.1 nm), fun hc => ∀ X', shR X nc nm (shSt X nc nm) (shGd X nc nm) X' → kS G x (cntB (shSt X nc nm) nc) (cntB (shGd X nc nm) nm) X' (g + nI (nm - cntB (liveF X nc nm).2.1 nm)) hc, fun hm => ∃ X', shR X nc nm (shSt X nc nm) (shGd X nc nm) X' ∧ oS G am X' (shY Y (nI (nm - cntB (liveF X nc nm).2.1 nm)) (nI (cntB (shGd X nc nm) nm)) (nI (cntB (shSt X nc nm) nc))) hm, ?_, ?_, ?_⟩
  · rintro hc ⟨ad, Z, L, h1, h2, h3, rfl⟩
    refine V.wide (by decide) (by decide) (by decide) (by decide) (V.mono ?_ (c_Cs_shrink hw.1 h2 h3 hc h1))
    rintro r h' ⟨X', Z', L', z1, z2, rfl, z4, z5, z6, z7⟩
    refine ⟨z2, fun X2 hR => ?_⟩
    obtain ⟨-, ad', Z'', L'', w1, w2, w3, w4⟩ := sh_done hw z4 z5 z6 z7 hR z1
    exact ⟨ad', Z'', L'', w1, w2, w3, by rw [w4]⟩
  · rintro hm ⟨adm, h1⟩
    refine V.wide (by decide) (by decide) (Nat.le_refl _) (Nat.le_refl _) (V.mono ?_ (c_Mo_shrink hw.1 y7 y6 hm h1))
    rintro r h' ⟨-, X', Y', z1, z2, rfl, z4⟩
    rw [sh_num hw.1] at z2
    rw [sh_num hw.1] at z1
    exact ⟨z2, X', z4, adm, by rw [sh_num hw.1]; exact z1⟩
  · rintro o w h ⟨hc, hm, z1, z2, z3, z4, z5, z6, z7, X', z8, z9⟩
    refine ⟨_, _, X', _, _, w, ⟨sh_inv (sh_ok hw.1) hw z8, rfl, rfl, ?_⟩, hc, hm, z1, z2, z3, z4, z5, z6, z7 X' z8, z9⟩
    show Y 18 + nI (nm - cntB (liveF X nc nm).2.1 nm) = _
    rw [y8]
theorem op_rename (hj : jI X nc nm Y g) : opD G x am M_Cs_rename M_Mo_rename [] nc nm X Y g := by
  obtain ⟨hw, y6, y7, y8⟩ := id hj
  refine ⟨nI (cntB (rtC X nc nm) nm), fun hc => ∃ ad X1 Z L, cP G nc nm ad X1 Z L hc ∧ cR X nc nm L ∧ zK Z nc g ∧ rnC X nc nm (frC X nc nm nm) X1 ∧ ad 5 0 = x, fun hm => ∃ U lab X2, famR X nc nm (gaN X nm) U lab ∧ rnR X lab nm (frS X U lab nm (gaN X nm) nm) X2 ∧ oS G am X2 (va_up Y 19 0) hm, ?_, ?_, ?_⟩
  · rintro hc ⟨ad, Z, L, h1, h2, h3, rfl⟩
    refine V.wide (by decide) (by decide) (by decide) (by decide) (V.mono ?_ (c_Cs_rename hw.1 hw.2.2.1 h2 h3 hc h1))
    rintro r h' ⟨X', Z', L', z1, z2, rfl, z4, z5⟩
    exact ⟨z2, ad, X', Z', L', z1, h2, z4, z5, rfl⟩
  · rintro hm ⟨adm, h1⟩
    refine V.wide (by decide) (by decide) (Nat.le_refl _) (Nat.le_refl _) (V.mono ?_ (c_Mo_rename hw.1 y7 hm h1))
    rintro r h' ⟨-, X', Y', z1, U, lab, z2, z3, rfl, z4⟩
    refine ⟨?_, U, lab, X', z2, z4, adm, z1⟩
    rw [z3, cntB_congr (fun m hm => rt_lab hw.1 z2 hm)]
  · rintro o w h ⟨hc, hm, z1, z2, z3, z4, z5, z6, ⟨ad, X1, Z, L, a1, a2, a3, a4, rfl⟩, U, lab, X2, b1, b2, b3⟩
    obtain ⟨c1, c2, c3, -⟩ := rn_done hw a2 a3 b1 a4 b2 a1
    exact ⟨nc, nm, X2, va_up Y 19 0, g, w, ⟨c1, y6, y7, y8⟩, hc, hm, z1, z2, z3, z4, z5, z6, ⟨ad, Z, L, c2, c3, a3, rfl⟩, b3⟩
theorem op_count {v : Int32} (hj : jI X nc nm Y g) : opD G x am M_Cs_count M_Mo_count [.int v] nc nm X Y g := by
  obtain ⟨hw, y6, y7, y8⟩ := id hj
  have h8 := hw.1.1.1
  have fin : ∀ a : Int32, ∀ X1 : Nat → Nat → Int32, smX X X1 → (∀ ad Z L, cR X nc nm L → zK Z nc g → VS G M_Cs_count 9 240 0 (vArgs 0 (.ref (ad 5 0) :: [.int v])) [] nc nm ad X Z L 0 0 (cK (some (.int a)) X L nc g)) → (∀ adm, VM G M_Mo_count 5 200 0 (vArgs 0 (.ref am :: [.int v])) [] am adm X Y (mRet (some (.int a)) X1 (va_up Y 19 0))) → opD G x am M_Cs_count M_Mo_count [.int v] nc nm X Y g := by
    intro a X1 hs hc hm
    refine ⟨a, kS G x nc nm X g, oS' G am X (va_up Y 19 0), kS_V hc (fun _ => rfl), ?_, fun o w h hl => lw_join (jI_19 hj) hl⟩
    intro hq h1
    refine V.mono ?_ (oS_V hm (by decide) (by decide) hq h1)
    rintro r h' ⟨z1, X', z2, z3⟩
    exact ⟨z1, X', fun k i a b c => by rw [z2 k i a b c, hs k i a b c], z3⟩
  by_cases hp : ∃ c, c < nc ∧ v = nI (10 + c)
  · obtain ⟨c, hc, rfl⟩ := hp
    exact fin _ X smX.rfl' (fun ad Z L h2 h3 => c_Cs_count_par hw.1 h2 h3 hc) (fun adm => c_Mo_count_par y6 h8 hc)
  · have hno : ∀ c, c < nc → v ≠ nI (10 + c) := fun c hc e => hp ⟨c, hc, e⟩
    cases hb : inB v 0 4 with
    | false => exact fin _ X smX.rfl' (fun ad Z L h2 h3 => c_Cs_count_out hw.1 h2 h3 hno hb) (fun adm => c_Mo_count_out y6 h8 hno hb)
    | true =>
      obtain ⟨k, hk, rfl⟩ := (inB_of (n := 4) 4 rfl (by omega)).mp hb
      refine fin _ (xLM X (liveF X nc nm).1 (liveF X nc nm).2.1 nc nm) (fun k i _ a b => xLM_o a b) (fun ad Z L h2 h3 => c_Cs_count_in hw.1 h2 h3 (show k < 5 by omega)) (fun adm => ?_)
      have := c_Mo_count_in (G := G) (am := am) (ad := adm) hw.1 y7 y6 (show k < 5 by omega)
      rw [y8] at this
      exact this
end VLk
