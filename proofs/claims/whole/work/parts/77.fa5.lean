/-! Families: the reference's and the class's are the same. -/
section VFa5
variable {G : vG} {nc nm : Nat} {ad : Nat → Nat → Nat} {X Z : Nat → Nat → Int32} {L : Nat → Nat → List Nat} {U : tU} {lab : Nat → Nat}
theorem fam_at (hf : famR X nc nm (gaN X nm) U lab) {i : Nat} (hi : i < nm * 5) (hs : sfB X i = true) : nm + cntB (sfB X) i < gaN X nm ∧ U (nm + cntB (sfB X) i) = (oN X (i / 5), X 14 i, X 15 i) := by
  have := cntB_step hi hs
  exact ⟨by unfold gaN; omega, hf.2.2.2.1 i hi hs⟩
theorem fam_nm : nm ≤ gaN X nm := by unfold gaN; omega
theorem be_iff (hw : wW X nc nm) (hf : famR X nc nm (gaN X nm) U lab) {n r : Int32} {c : Nat} : beB X nm n r c = true ↔ ∃ z, z < gaN X nm ∧ U z = (c, n, r) := by
  have hg := fam_nm (X := X) (nm := nm)
  unfold beB
  rw [anyB_iff]
  constructor
  · rintro ⟨m, hm, h⟩
    simp only [Bool.and_eq_true, decide_eq_true_eq, brB, Bool.or_eq_true] at h
    obtain ⟨h1, h2⟩ := h
    rcases h1 with ⟨a, b⟩ | h1
    · exact ⟨m, by omega, by rw [hf.2.2.1 m hm, a, b, h2]⟩
    · obtain ⟨j, hj, e⟩ := anyB_iff.mp h1
      simp only [Bool.and_eq_true, decide_eq_true_eq] at e
      have h5 := (hw.2.2.2.1 m hm).1
      have hs : sfB X (m * 5 + j) = true := by
        unfold sfB
        rw [show (m * 5 + j) % 5 = j by omega, show (m * 5 + j) / 5 = m by omega, decide_eq_true hj, decide_eq_true e.1.1]; rfl
      obtain ⟨a, b⟩ := fam_at hf (show m * 5 + j < nm * 5 by omega) hs
      refine ⟨_, a, ?_⟩
      rw [b, show (m * 5 + j) / 5 = m by omega, e.1.2, e.2, h2]
  · rintro ⟨z, hz, e⟩
    by_cases hzm : z < nm
    · refine ⟨z, hzm, ?_⟩
      have := hf.2.2.1 z hzm
      rw [e] at this
      injection this with a b
      injection b with b c
      simp [brB, a, b, c]
    · obtain ⟨i, i1, i2, i3⟩ := cntB_onto (f := sfB X) (n := nm * 5) (z := z - nm) (by unfold gaN at hz; omega)
      obtain ⟨-, b⟩ := fam_at hf i1 i2
      rw [i3, show nm + (z - nm) = z by omega, e] at b
      injection b with b1 b2
      injection b2 with b2 b3
      simp only [sfB, Bool.and_eq_true, decide_eq_true_eq] at i2
      refine ⟨i / 5, by omega, ?_⟩
      simp only [Bool.and_eq_true, decide_eq_true_eq, brB, Bool.or_eq_true]
      refine ⟨Or.inr (anyB_t i2.1 ?_), b1⟩
      rw [show i / 5 * 5 + i % 5 = i by omega, decide_eq_true i2.2, decide_eq_true b2.symm, decide_eq_true b3.symm]; rfl
/-- a class of the family has a method or a stand-in there -/
theorem mj_wit (hw : wW X nc nm) (hf : famR X nc nm (gaN X nm) U lab) {m c : Nat} (hm : m < nm) (h : mjB X nc nm m c = true) : ∃ y, y < gaN X nm ∧ U y = (c, X 3 m, X 4 m) ∧ lab y = lab m := by
  have hg := fam_nm (X := X) (nm := nm)
  refine jn_min (P := fun c => ∃ y, y < gaN X nm ∧ U y = (c, X 3 m, X 4 m) ∧ lab y = lab m) ⟨m, by omega, hf.2.2.1 m hm, rfl⟩ (fun c d hp hT hd hr => ?_) h
  obtain ⟨y, y1, y2, y3⟩ := hp
  obtain ⟨z, z1, z2⟩ := (be_iff hw hf).mp hT
  refine ⟨z, z1, z2, ?_⟩
  rw [← y3]
  refine (hf.2.2.2.2.2.1 y z y1 z1 ?_).symm
  unfold alk
  rw [y2, z2]
  simp [hr]
theorem lab_in (hw : wW X nc nm) (hf : famR X nc nm (gaN X nm) U lab) {m z : Nat} (hm : m < nm) (hz : z < gaN X nm) : lab z = lab m ↔ (U z).2 = (X 3 m, X 4 m) ∧ mjB X nc nm m (U z).1 = true := by
  have hg := fam_nm (X := X) (nm := nm)
  have ho := (hw.2.2.1 m hm).1
  have cl : ∀ x y, x < gaN X nm → y < gaN X nm → alk X U x y = true → ((U x).2 = (X 3 m, X 4 m) ∧ mjB X nc nm m (U x).1 = true) → ((U y).2 = (X 3 m, X 4 m) ∧ mjB X nc nm m (U y).1 = true) := by
    intro x y hx hy ha ⟨h1, h2⟩
    simp only [alk, Bool.and_eq_true, decide_eq_true_eq] at ha
    have e : (U y).2 = (X 3 m, X 4 m) := by rw [← h1]; exact (Prod.ext ha.1.1 ha.1.2).symm
    refine ⟨e, jn_closed hw.1.1 ho h2 (hf.2.1 y hy) ((be_iff hw hf).mpr ⟨y, hy, Prod.ext rfl e⟩) ha.2⟩
  have sy : ∀ x y, alk X U x y = alk X U y x := by
    intro x y
    unfold alk
    rw [rlS_sym]
    congr 1
    congr 1
    · rw [decide_eq_decide]; exact eq_comm
    · rw [decide_eq_decide]; exact eq_comm
  constructor
  · intro e
    refine Classical.byContradiction (fun hn => ?_)
    have h1 := hf.2.2.2.2.2.2 (fun x => (U x).2 = (X 3 m, X 4 m) ∧ mjB X nc nm m (U x).1 = true) cl m (by omega) ⟨by rw [hf.2.2.1 m hm], by rw [hf.2.2.1 m hm]; exact jn_self⟩
    have h2 := hf.2.2.2.2.2.2 (fun x => ¬ ((U x).2 = (X 3 m, X 4 m) ∧ mjB X nc nm m (U x).1 = true)) (fun x y hx hy ha h3 h4 => h3 (cl y x hy hx (by rw [sy]; exact ha) h4)) z hz hn
    rw [e] at h2
    exact h2 h1
  · rintro ⟨h1, h2⟩
    obtain ⟨y, y1, y2, y3⟩ := mj_wit hw hf hm h2
    rw [← y3]
    refine hf.2.2.2.2.2.1 z y hz y1 ?_
    unfold alk
    rw [y2, h1]
    simp [rlS_self]
theorem lab_inF (hw : wW X nc nm) (hf : famR X nc nm (gaN X nm) U lab) {q z : Nat} (hq : q < nm) (hz : z < gaN X nm) : inF X nc nm (U z).2.1 (U z).2.2 (U z).1 q = true ↔ lab z = lab q := by
  rw [lab_in hw hf hq hz]
  simp only [inF, Bool.and_eq_true, decide_eq_true_eq]
  constructor
  · rintro ⟨⟨a, b⟩, c⟩; exact ⟨Prod.ext a.symm b.symm, c⟩
  · rintro ⟨a, c⟩; rw [a]; exact ⟨⟨rfl, rfl⟩, c⟩
theorem lab_lab (hf : famR X nc nm (gaN X nm) U lab) {x : Nat} (hx : x < gaN X nm) : lab (lab x) = lab x :=
  hf.2.2.2.2.2.2 (fun z => lab z = lab x) (fun a b ha hb hab h => by rw [← hf.2.2.2.2.2.1 a b ha hb hab]; exact h) x hx rfl
theorem ro_lab (hw : wW X nc nm) (hf : famR X nc nm (gaN X nm) U lab) {m : Nat} (hm : m < nm) : roN X nc nm m = lab m := by
  have hg := fam_nm (X := X) (nm := nm)
  have hl := hf.2.2.2.2.1 m (by omega)
  have e : U m = (oN X m, X 3 m, X 4 m) := hf.2.2.1 m hm
  have key : ∀ q, q < nm → (inF X nc nm (X 3 m) (X 4 m) (oN X m) q = true ↔ lab m = lab q) := fun q hq => by
    have := lab_inF hw hf hq (z := m) (by omega)
    rw [e] at this
    exact this
  have : foO X nc nm (X 3 m) (X 4 m) (oN X m) (m + 1) = some (lab m) := by
    refine fst_is (by omega) (by omega) ((key _ (by omega)).mpr (lab_lab hf (by omega)).symm) (fun q _ hq => ?_)
    cases h : inF X nc nm (X 3 m) (X 4 m) (oN X m) q with
    | false => rfl
    | true =>
      have h1 := (key q (by omega)).mp h
      have h2 := hf.2.2.2.2.1 q (by omega)
      omega
  rw [ro_some] at this
  exact Option.some.inj this
theorem rt_lab (hw : wW X nc nm) (hf : famR X nc nm (gaN X nm) U lab) {m : Nat} (hm : m < nm) : rtC X nc nm m = rtB lab m := by
  unfold rtC rtB
  rw [ro_lab hw hf hm]
theorem kf_lab (hw : wW X nc nm) (hf : famR X nc nm (gaN X nm) U lab) {q : Nat} : kfC X nc nm q = kfB X lab nm q := anyB_congr (fun p hp => by rw [ro_lab hw hf hp])
theorem f0_lab (hw : wW X nc nm) (hf : famR X nc nm (gaN X nm) U lab) {q : Nat} (hq : q < nm) : f0C X nc nm q = fr0 X lab nm q := by
  unfold f0C fr0
  rw [kf_lab hw hf]
  cases hr : rtB lab q with
  | true => rfl
  | false =>
    have : kfB X lab nm q = false := anyB_f (fun p hp => by
      by_cases e : lab p = q
      · have := lab_lab hf (x := p) (by have := fam_nm (X := X) (nm := nm); omega)
        rw [e] at this
        rw [show rtB lab q = true from decide_eq_true this] at hr; cases hr
      · rw [decide_eq_false e]; rfl)
    rw [this]; rfl
theorem ck_lab (hw : wW X nc nm) (hf : famR X nc nm (gaN X nm) U lab) {q g : Nat} (hq : q < nm) (hg : g < nm) (rq : lab q = q) (rg : lab g = g) : ckB X nc nm q g = clB X U lab (gaN X nm) q g := by
  have h8 := hw.1.1
  rw [Bool.eq_iff_iff]
  unfold ckB clB
  rw [Bool.and_eq_true, decide_eq_true_eq, anyB_iff, anyB_iff]
  constructor
  · rintro ⟨h4, d, d1, d2⟩
    rw [Bool.and_eq_true] at d2
    obtain ⟨c, c1, c2⟩ := anyB_iff.mp d2.2
    simp only [reB, Bool.and_eq_true, decide_eq_true_eq] at c2
    obtain ⟨y, y1, y2, y3⟩ := mj_wit hw hf hg d2.1
    obtain ⟨x, x1, x2, x3⟩ := mj_wit hw hf hq c2.1
    refine ⟨x, x1, ?_⟩
    rw [decide_eq_true (by rw [x3, rq]), Bool.true_and]
    refine anyB_t y1 ?_
    unfold clI
    rw [decide_eq_true (by rw [y3, rg]), x2, y2]
    rw [decide_eq_true (show X 4 q = X 4 g from h4.symm), rlS_sym, c2.2.2]; rfl
  · rintro ⟨x, x1, x2⟩
    rw [Bool.and_eq_true, decide_eq_true_eq] at x2
    obtain ⟨y, y1, y2⟩ := anyB_iff.mp x2.2
    simp only [clI, Bool.and_eq_true, decide_eq_true_eq] at y2
    obtain ⟨a1, a2⟩ := (lab_in hw hf hq x1).mp (by rw [x2.1, rq])
    obtain ⟨b1, b2⟩ := (lab_in hw hf hg y1).mp (by rw [y2.1.1, rg])
    have h4 := y2.1.2
    rw [a1, b1] at h4
    have hx := hf.2.1 x x1
    have hy := hf.2.1 y y1
    refine ⟨h4.symm, (U y).1, by omega, ?_⟩
    rw [b2, Bool.true_and]
    refine anyB_t hx ?_
    rw [a2, Bool.true_and]
    unfold reB
    rw [decide_eq_true hy, rlS_sym, y2.2]; rfl
theorem frC_below {q : Nat} : ∀ p, p ≤ q → frC X nc nm p q = f0C X nc nm q
  | 0, _ => rfl
  | p + 1, h => by
    unfold frC
    split
    · rw [va_up_ne _ _ (by omega)]; exact frC_below p (by omega)
    · exact frC_below p (by omega)
theorem frC_above {q : Nat} : ∀ k, frC X nc nm (q + 1 + k) q = frC X nc nm (q + 1) q
  | 0 => rfl
  | k + 1 => by
    show (if (rtC X nc nm (q + 1 + k) && !kfC X nc nm (q + 1 + k)) = true then _ else frC X nc nm (q + 1 + k)) q = _
    split
    · have hne : q ≠ q + 1 + k := by omega
      exact (va_up_ne _ _ hne).trans (frC_above k)
    · exact frC_above k
theorem frC_done (h24 : nm ≤ 24) (hN : ∀ m, m < nm → ∃ v, v < 26 ∧ X 3 m = nI v) {q : Nat} (hq : q < nm) (hr : rtC X nc nm q = true) : ∃ v, v < 26 ∧ frC X nc nm nm q = nI v := by
  have e := frC_above (X := X) (nc := nc) (nm := nm) (q := q) (nm - (q + 1))
  rw [show q + 1 + (nm - (q + 1)) = nm by omega] at e
  rw [e]
  unfold frC
  cases hk : kfC X nc nm q with
  | true =>
    rw [hr, if_neg (by decide), frC_below q (Nat.le_refl q)]
    unfold f0C
    rw [hk]
    exact hN q hq
  | false =>
    rw [hr, if_pos (by decide), va_up_self]
    have := tkC_lt (X := X) (nc := nc) (F := frC X nc nm q) (q := q) h24
    exact ⟨_, by omega, rfl⟩
theorem fr_lab (hw : wW X nc nm) (hN : ∀ m, m < nm → ∃ v, v < 26 ∧ X 3 m = nI v) (hf : famR X nc nm (gaN X nm) U lab) : ∀ p, p ≤ nm → ∀ g, g < nm → frC X nc nm p g = frS X U lab nm (gaN X nm) p g
  | 0, _, g, hg => f0_lab hw hf hg
  | p + 1, hp, g, hg => by
    have h24 := hw.2.1
    have ih := fr_lab hw hN hf p (by omega)
    have hpn : p < nm := by omega
    unfold frC frS
    by_cases hr : lab p = p
    · have hr2 : rtC X nc nm p = true := by rw [rt_lab hw hf hpn]; exact decide_eq_true hr
      have e0 := frC_below (X := X) (nc := nc) (nm := nm) (q := p) p (Nat.le_refl p)
      cases hk : kfC X nc nm p with
      | true =>
        have e1 : frS X U lab nm (gaN X nm) p p = X 3 p := by rw [← ih p hpn, e0]; unfold f0C; rw [hk]; rfl
        obtain ⟨v, hv, ev⟩ := hN p hpn
        rw [hr2, if_neg (by decide), if_neg (by rw [e1, ev]; exact fun z => nI_pos (n := v) (by omega) z.2)]
        exact ih g hg
      | false =>
        have e2 : frC X nc nm p p = -1 := by rw [e0]; unfold f0C; rw [hk]; rfl
        have e1 : frS X U lab nm (gaN X nm) p p = -1 := by rw [← ih p hpn, e2]
        rw [hr2, if_pos (by decide), if_pos ⟨hr, by rw [e1]; decide⟩]
        by_cases e : g = p
        · subst e
          rw [va_up_self, va_up_self]
          congr 1
          rw [(tkC_lt h24).2]
          refine lF_congr (fun v _ hv => ?_)
          refine anyB_congr (fun x hx => ?_)
          rw [rt_lab hw hf hx]
          show (decide (lab x = x) && _) = _
          by_cases ex : x = g
          · subst ex
            rw [e2, decide_eq_false (p := (-1 : Int32) = nI v) (fun z => nI_pos (n := v) (by omega) (by rw [← z]; decide)), Bool.and_false, Bool.and_false, decide_eq_false (p := x ≠ x) (fun z => z rfl), Bool.false_and, Bool.false_and]
          · rw [decide_eq_true ex, Bool.true_and, ih x hx]
            by_cases rx : lab x = x
            · rw [decide_eq_true rx, Bool.true_and, Bool.true_and, ck_lab hw hf hpn hx hr rx, Bool.and_comm]
            · rw [decide_eq_false rx, Bool.false_and, Bool.false_and]
        · rw [va_up_ne _ _ e, va_up_ne _ _ e]
          exact ih g hg
    · have hr2 : rtC X nc nm p = false := by rw [rt_lab hw hf hpn]; exact decide_eq_false hr
      rw [hr2, Bool.false_and, if_neg (by decide), if_neg (fun z => hr z.1)]
      exact ih g hg
theorem ni_lab (hw : wI X nc nm) (hf : famR X nc nm (gaN X nm) U lab) {m j : Nat} (hm : m < nm) (hj : j < iN X m) : niC X nc nm (frC X nc nm nm) m (m * 5 + j) = if 0 < X 12 (m * 5 + j) then nnF X lab nm (frS X U lab nm (gaN X nm) nm) (m * 5 + j) else X 14 (m * 5 + j) := by
  have hF := fr_lab hw.1 hw.2.2.1 hf nm (Nat.le_refl nm)
  have hg := fam_nm (X := X) (nm := nm)
  unfold niC nnF
  rcases hw.2.2.2 m hm j hj with e | e | e
  · rw [e, if_neg (by decide), if_neg (by decide), if_neg (by decide)]
  · rw [e, if_pos rfl, if_pos (by decide), if_neg (by decide), if_pos rfl]
    cases h : fdS X nm (m * 5 + j) (cN X (m * 5 + j)) with
    | none => rfl
    | some q =>
      have hq := findS_lt h
      have hl := hf.2.2.2.2.1 q (by omega)
      show frC X nc nm nm (roN X nc nm q) = frS X U lab nm (gaN X nm) nm (lab q)
      rw [ro_lab hw.1 hf hq]
      exact hF _ (by omega)
  · rw [e, if_neg (by decide), if_pos rfl, if_pos (by decide), if_pos rfl]
    have h5 := (hw.1.2.2.2.1 m hm).1
    have hs : sfB X (m * 5 + j) = true := by
      unfold sfB
      rw [show (m * 5 + j) % 5 = j by omega, show (m * 5 + j) / 5 = m by omega, decide_eq_true hj, decide_eq_true e]; rfl
    obtain ⟨z1, z2⟩ := fam_at hf (show m * 5 + j < nm * 5 by omega) hs
    rw [show (m * 5 + j) / 5 = m by omega] at z2
    generalize nm + cntB (sfB X) (m * 5 + j) = z at z1 z2
    have key : ∀ q, q < nm → (inF X nc nm (X 14 (m * 5 + j)) (X 15 (m * 5 + j)) (oN X m) q = true ↔ lab z = lab q) := fun q hq => by
      have := lab_inF hw.1 hf hq z1
      rw [z2] at this
      exact this
    by_cases hl : lab z < nm
    · rw [if_pos hl]
      have : foO X nc nm (X 14 (m * 5 + j)) (X 15 (m * 5 + j)) (oN X m) nm = some (lab z) := by
        refine fst_is (by omega) (by omega) ((key _ hl).mpr (lab_lab hf z1).symm) (fun q _ hq => ?_)
        cases h : inF X nc nm (X 14 (m * 5 + j)) (X 15 (m * 5 + j)) (oN X m) q with
        | false => rfl
        | true =>
          have h1 := (key q (by omega)).mp h
          have h2 := hf.2.2.2.2.1 q (by omega)
          omega
      rw [this]
      exact hF _ hl
    · rw [if_neg hl]
      have : foO X nc nm (X 14 (m * 5 + j)) (X 15 (m * 5 + j)) (oN X m) nm = none := fst_no (fun q _ hq => by
        cases h : inF X nc nm (X 14 (m * 5 + j)) (X 15 (m * 5 + j)) (oN X m) q with
        | false => rfl
        | true =>
          have h1 := (key q (by omega)).mp h
          have h2 := hf.2.2.2.2.1 q (by omega)
          omega)
      rw [this]; rfl
/-- rename's state behind it -/
theorem rn_done {X1 X2 : Nat → Nat → Int32} {g : Int32} {h : vH} (hw : wI X nc nm) (hL : cR X nc nm L) (hz : zK Z nc g) (hf : famR X nc nm (gaN X nm) U lab) (hC : rnC X nc nm (frC X nc nm nm) X1) (hR : rnR X lab nm (frS X U lab nm (gaN X nm) nm) X2) (hP : cP G nc nm ad X1 Z L h) : wI X2 nc nm ∧ cP G nc nm ad X2 Z L h ∧ cR X2 nc nm L ∧ cntB (rtC X nc nm) nm = cntB (rtB lab) nm := by
  have hg := fam_nm (X := X) (nm := nm)
  have e2 : ∀ k i, k ≠ 3 → k ≠ 14 → k < 20 → X2 k i = X k i := fun k i a b c => hR.2.2 k i a b (Or.inl c)
  have eq : ∀ k i, k ≠ 3 → k ≠ 14 → k < 20 → X2 k i = X1 k i := fun k i a b c => by rw [e2 k i a b c, hC.2.2 k i a b]
  have e3 : ∀ m, m < nm → X2 3 m = X1 3 m := fun m hm => by
    have hl := hf.2.2.2.2.1 m (by omega)
    rw [hR.1 m hm, hC.1 m hm, ro_lab hw.1 hf hm]
    exact (fr_lab hw.1 hw.2.2.1 hf nm (Nat.le_refl nm) _ (by omega)).symm
  have e14 : ∀ m, m < nm → ∀ j, j < iN X m → X2 14 (m * 5 + j) = X1 14 (m * 5 + j) := fun m hm j hj => by
    rw [hR.2.1 m hm j hj, hC.2.1 m hm j hj, ni_lab hw hf hm hj]
  have eiN : ∀ m, iN X2 m = iN X m := fun m => by unfold iN; rw [e2 5 m (by decide) (by decide) (by decide)]
  have eiN1 : ∀ m, iN X1 m = iN X m := fun m => by unfold iN; rw [hC.2.2 5 m (by decide) (by decide)]
  have hoN : ∀ m, oN X2 m = oN X m := fun m => by unfold oN; rw [e2 2 m (by decide) (by decide) (by decide)]
  refine ⟨⟨wW_same e2 hw.1, fun m hm => ?_, fun m hm => ?_, fun m hm j hj => ?_⟩, ?_, cR_same (fun i => e2 2 i (by decide) (by decide) (by decide)) hL, cntB_congr (fun m hm => rt_lab hw.1 hf hm)⟩
  · rw [e2 8 m (by decide) (by decide) (by decide), e2 1 _ (by decide) (by decide) (by decide), hoN]
    exact hw.2.1 m hm
  · rw [e3 m hm, hC.1 m hm]
    exact frC_done hw.1.2.1 hw.2.2.1 (by have := ro_le (X := X) (nc := nc) (nm := nm) (m := m); omega) (ro_root hw.1 hm)
  · rw [eiN] at hj
    rw [e2 12 _ (by decide) (by decide) (by decide)]
    exact hw.2.2.2 m hm j hj
  · have hVV : ∀ q j, cV X2 nc nm q j = true → cV X1 nc nm q j = true := by
      intro q j hv
      rcases q with _ | _ | _ | _ | _ | _ | q
      · simp only [cV] at hv ⊢; exact hv
      · simp only [cV] at hv ⊢; exact hv
      · simp only [cV] at hv ⊢
        rw [eiN1, ← eiN]; exact hv
      · simp only [cV] at hv ⊢; exact hv
      · simp only [cV] at hv ⊢; exact hv
      · simp only [cV] at hv ⊢; exact hv
      · cases hv
    refine hP.congr hVV (fun q j hv => ?_)
    rcases q with _ | _ | _ | _ | _ | _ | q
    · simp only [cE, pS, eq 0 j (by decide) (by decide) (by decide), eq 1 j (by decide) (by decide) (by decide)]
    · have hj : j < nm := of_decide_eq_true hv
      simp only [cE, oN, eq 2 j (by decide) (by decide) (by decide), eq 6 j (by decide) (by decide) (by decide), eq 7 j (by decide) (by decide) (by decide), eq 4 j (by decide) (by decide) (by decide), eq 9 j (by decide) (by decide) (by decide), e3 j hj]
    · have hv2 : (decide (j / 5 < nm) && decide (j % 5 < iN X2 (j / 5))) = true := hv
      rw [Bool.and_eq_true, decide_eq_true_eq, decide_eq_true_eq, eiN] at hv2
      have e := e14 _ hv2.1 _ hv2.2
      rw [show j / 5 * 5 + j % 5 = j by omega] at e
      simp only [cE, cN, eq 12 j (by decide) (by decide) (by decide), eq 13 j (by decide) (by decide) (by decide), eq 15 j (by decide) (by decide) (by decide), e]
    · simp only [cE]
    · simp only [cE, eiN, eiN1]
    · simp only [cE]
    · cases hv
end VFa5
