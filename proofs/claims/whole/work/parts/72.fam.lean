/-! Families by sets of classes. -/
section VFm
variable {nc nm : Nat} {X : Nat → Nat → Int32}
def siB (X : Nat → Nat → Int32) (n r : Int32) (m : Nat) : Bool := anyB (fun j => (decide (X 12 (m * 5 + j) = 2) && decide (X 14 (m * 5 + j) = n)) && decide (X 15 (m * 5 + j) = r)) (iN X m)
def brB (X : Nat → Nat → Int32) (n r : Int32) (m : Nat) : Bool := (decide (X 3 m = n) && decide (X 4 m = r)) || siB X n r m
def beB (X : Nat → Nat → Int32) (nm : Nat) (n r : Int32) (c : Nat) : Bool := anyB (fun m => brB X n r m && decide (c = oN X m)) nm
def reB (X : Nat → Nat → Int32) (nc c d : Nat) : Bool := decide (d < nc) && rlS X d c
def rlT (X : Nat → Nat → Int32) (nc : Nat) (S : Nat → Bool) (d : Nat) : Bool := anyB (fun c => S c && reB X nc c d) nc
def jnS (X : Nat → Nat → Int32) (nc : Nat) (T S : Nat → Bool) : Nat → Nat → Bool
  | 0 => S
  | k + 1 => fun d => jnS X nc T S k d || (T d && rlT X nc (jnS X nc T S k) d)
def jn (X : Nat → Nat → Int32) (nc nm : Nat) (n r : Int32) (a : Nat) : Nat → Bool := jnS X nc (beB X nm n r) (fun d => decide (d = a)) 8
theorem rlS_sym {c d : Nat} : rlS X c d = rlS X d c := by unfold rlS; exact Bool.or_comm _ _
theorem rlS_self {c : Nat} : rlS X c c = true := by unfold rlS; rw [aboveS_self]; rfl
theorem jnS_up {T S : Nat → Bool} {d : Nat} : ∀ k j, k ≤ j → jnS X nc T S k d = true → jnS X nc T S j d = true := by
  intro k j hkj h
  induction j with
  | zero => rw [show k = 0 by omega] at h; exact h
  | succ j ih =>
    by_cases e : k = j + 1
    · rw [← e]; exact h
    · show (jnS X nc T S j d || _) = true
      rw [ih (by omega)]; rfl
theorem jnS_in {T S : Nat → Bool} (hS : ∀ d, S d = true → d < nc) : ∀ k d, jnS X nc T S k d = true → d < nc
  | 0, d, h => hS d h
  | k + 1, d, h => by
    have h1 : (jnS X nc T S k d || (T d && rlT X nc (jnS X nc T S k) d)) = true := h
    rw [Bool.or_eq_true, Bool.and_eq_true] at h1
    rcases h1 with h1 | ⟨h1, h2⟩
    · exact jnS_in hS k d h1
    · obtain ⟨c, c1, c2⟩ := anyB_iff.mp h2
      simp only [reB, Bool.and_eq_true, decide_eq_true_eq] at c2
      exact c2.2.1
theorem jnS_min {T S : Nat → Bool} {P : Nat → Prop} (h0 : ∀ d, S d = true → P d) (hs : ∀ c d, P c → T d = true → d < nc → rlS X c d = true → P d) : ∀ k d, jnS X nc T S k d = true → P d
  | 0, d, h => h0 d h
  | k + 1, d, h => by
    have h1 : (jnS X nc T S k d || (T d && rlT X nc (jnS X nc T S k) d)) = true := h
    rw [Bool.or_eq_true, Bool.and_eq_true] at h1
    rcases h1 with h1 | ⟨h1, h2⟩
    · exact jnS_min h0 hs k d h1
    · obtain ⟨c, c1, c2⟩ := anyB_iff.mp h2
      simp only [reB, Bool.and_eq_true, decide_eq_true_eq] at c2
      exact hs c d (jnS_min h0 hs k c c2.1) h1 c2.2.1 (by rw [rlS_sym]; exact c2.2.2)
theorem rlT_congr {S T : Nat → Bool} {d : Nat} (h : ∀ c, c < nc → S c = T c) : rlT X nc S d = rlT X nc T d := anyB_congr (fun c hc => by rw [h c hc])
/-- it grows, or stands -/
theorem jnS_grow {T S : Nat → Bool} : ∀ k, (∃ j, j < k ∧ ∀ d, d < nc → jnS X nc T S (j + 1) d = jnS X nc T S j d) ∨ k + cntB S nc ≤ cntB (jnS X nc T S k) nc
  | 0 => Or.inr (by show 0 + cntB S nc ≤ cntB S nc; omega)
  | k + 1 => by
    rcases jnS_grow k with ⟨j, h1, h2⟩ | h
    · exact Or.inl ⟨j, by omega, h2⟩
    · by_cases he : ∀ d, d < nc → jnS X nc T S (k + 1) d = jnS X nc T S k d
      · exact Or.inl ⟨k, by omega, he⟩
      · have : ∃ d, d < nc ∧ jnS X nc T S k d = false ∧ jnS X nc T S (k + 1) d = true := by
          refine Classical.byContradiction (fun hn => he (fun d hd => ?_))
          cases e1 : jnS X nc T S k d with
          | true => exact jnS_up k (k + 1) (by omega) e1
          | false =>
            cases e2 : jnS X nc T S (k + 1) d with
            | false => rfl
            | true => exact absurd ⟨d, hd, e1, e2⟩ hn
        obtain ⟨d, d1, d2, d3⟩ := this
        have := cntB_lt (f := jnS X nc T S k) (g := jnS X nc T S (k + 1)) (fun i hi => jnS_up k (k + 1) (by omega) hi) d1 d2 d3
        exact Or.inr (by omega)
theorem jnS_stay {T S : Nat → Bool} {j : Nat} (hj : ∀ d, d < nc → jnS X nc T S (j + 1) d = jnS X nc T S j d) : ∀ k d, d < nc → jnS X nc T S (j + k) d = jnS X nc T S j d
  | 0, d, _ => rfl
  | k + 1, d, hd => by
    show (jnS X nc T S (j + k) d || (T d && rlT X nc (jnS X nc T S (j + k)) d)) = _
    rw [jnS_stay hj k d hd, rlT_congr (jnS_stay hj k)]
    exact hj d hd
/-- behind eight steps it is closed -/
theorem jn_closed {n r : Int32} {a c d : Nat} (h8 : nc ≤ 8) (ha : a < nc) (hc : jn X nc nm n r a c = true) (hd : d < nc) (hT : beB X nm n r d = true) (hr : rlS X c d = true) : jn X nc nm n r a d = true := by
  have hcn : c < nc := jnS_in (fun d h => by rw [of_decide_eq_true h]; exact ha) 8 c hc
  have h1 : 0 < cntB (fun d => decide (d = a)) nc := by
    have := cntB_step (f := fun d => decide (d = a)) ha (decide_eq_true rfl)
    omega
  have hle := cntB_le (jnS X nc (beB X nm n r) (fun d => decide (d = a)) 8) nc
  rcases jnS_grow (X := X) (nc := nc) (T := beB X nm n r) (S := fun d => decide (d = a)) 8 with ⟨j, j1, j2⟩ | h
  · have e8 : ∀ d, d < nc → jn X nc nm n r a d = jnS X nc (beB X nm n r) (fun d => decide (d = a)) j d := fun d hd => by
      have := jnS_stay j2 (8 - j) d hd
      rw [show j + (8 - j) = 8 by omega] at this
      exact this
    rw [e8 d hd, ← j2 d hd]
    rw [e8 c hcn] at hc
    show (_ || (beB X nm n r d && rlT X nc _ d)) = true
    rw [hT, show rlT X nc (jnS X nc (beB X nm n r) (fun d => decide (d = a)) j) d = true from anyB_t hcn (by rw [hc]; simp only [reB]; rw [decide_eq_true hd, rlS_sym, hr]; rfl)]
    simp
  · omega
theorem jn_self {n r : Int32} {a : Nat} : jn X nc nm n r a a = true := jnS_up 0 8 (by omega) (decide_eq_true rfl)
theorem jn_in {n r : Int32} {a c : Nat} (ha : a < nc) (h : jn X nc nm n r a c = true) : c < nc := jnS_in (fun d h => by rw [of_decide_eq_true h]; exact ha) 8 c h
theorem jn_min {n r : Int32} {a c : Nat} {P : Nat → Prop} (h0 : P a) (hs : ∀ c d, P c → beB X nm n r d = true → d < nc → rlS X c d = true → P d) (h : jn X nc nm n r a c = true) : P c := jnS_min (fun d h => by rw [of_decide_eq_true h]; exact h0) hs 8 c h
theorem jn_bear {n r : Int32} {a c : Nat} (ha : beB X nm n r a = true) (h : jn X nc nm n r a c = true) : beB X nm n r c = true := jn_min ha (fun _ _ _ h _ _ => h) h
theorem jn_trans {n r : Int32} {a b c : Nat} (h8 : nc ≤ 8) (ha : a < nc) (h1 : jn X nc nm n r a b = true) (h2 : jn X nc nm n r b c = true) : jn X nc nm n r a c = true := jn_min (P := fun c => jn X nc nm n r a c = true) h1 (fun c d hp hT hd hr => jn_closed h8 ha hp hd hT hr) h2
theorem jn_sym {n r : Int32} {a c : Nat} (h8 : nc ≤ 8) (ha : a < nc) (hb : beB X nm n r a = true) (h : jn X nc nm n r a c = true) : jn X nc nm n r c a = true := by
  have := jn_min (P := fun c => c < nc ∧ beB X nm n r c = true ∧ jn X nc nm n r c a = true) ⟨ha, hb, jn_self⟩ (fun c d hp hT hd hr => ⟨hd, hT, jn_trans h8 hd (jn_closed h8 hd jn_self hp.1 hp.2.1 (by rw [rlS_sym]; exact hr)) hp.2.2⟩) h
  exact this.2.2
/-- the family of the method q holds the method or stand-in n, r of the class c -/
def mjB (X : Nat → Nat → Int32) (nc nm : Nat) (q c : Nat) : Bool := jn X nc nm (X 3 q) (X 4 q) (oN X q) c
def inF (X : Nat → Nat → Int32) (nc nm : Nat) (n r : Int32) (c q : Nat) : Bool := (decide (X 3 q = n) && decide (X 4 q = r)) && mjB X nc nm q c
def foO (X : Nat → Nat → Int32) (nc nm : Nat) (n r : Int32) (c : Nat) (k : Nat) : Option Nat := fst (inF X nc nm n r c) k 0
def roN (X : Nat → Nat → Int32) (nc nm m : Nat) : Nat := (foO X nc nm (X 3 m) (X 4 m) (oN X m) (m + 1)).getD m
def rtC (X : Nat → Nat → Int32) (nc nm m : Nat) : Bool := decide (roN X nc nm m = m)
theorem be_own {m : Nat} (hm : m < nm) : beB X nm (X 3 m) (X 4 m) (oN X m) = true := anyB_t hm (by simp [brB])
theorem inF_iff {n r : Int32} {c q : Nat} : inF X nc nm n r c q = true ↔ X 3 q = n ∧ X 4 q = r ∧ jn X nc nm n r (oN X q) c = true := by
  simp only [inF, mjB, Bool.and_eq_true, decide_eq_true_eq]
  constructor
  · rintro ⟨⟨a, b⟩, c⟩; subst a; subst b; exact ⟨rfl, rfl, c⟩
  · rintro ⟨a, b, c⟩; subst a; subst b; exact ⟨⟨rfl, rfl⟩, c⟩
theorem inF_self {m : Nat} : inF X nc nm (X 3 m) (X 4 m) (oN X m) m = true := inF_iff.mpr ⟨rfl, rfl, jn_self⟩
theorem inF_sym (hw : wW X nc nm) {p q : Nat} (hp : p < nm) (h : inF X nc nm (X 3 q) (X 4 q) (oN X q) p = true) : inF X nc nm (X 3 p) (X 4 p) (oN X p) q = true := by
  obtain ⟨a, b, c⟩ := inF_iff.mp h
  refine inF_iff.mpr ⟨a.symm, b.symm, ?_⟩
  rw [a, b]
  exact jn_sym hw.1.1 (hw.2.2.1 p hp).1 (by rw [← a, ← b]; exact be_own hp) c
theorem inF_trans (hw : wW X nc nm) {n r : Int32} {p q c : Nat} (hp : p < nm) (h1 : inF X nc nm (X 3 q) (X 4 q) (oN X q) p = true) (h2 : inF X nc nm n r c q = true) : inF X nc nm n r c p = true := by
  obtain ⟨a1, b1, c1⟩ := inF_iff.mp h1
  obtain ⟨a2, b2, c2⟩ := inF_iff.mp h2
  refine inF_iff.mpr ⟨by rw [a1, a2], by rw [b1, b2], ?_⟩
  rw [a2, b2] at c1
  exact jn_trans hw.1.1 (hw.2.2.1 p hp).1 c1 c2
theorem ro_some {m : Nat} : foO X nc nm (X 3 m) (X 4 m) (oN X m) (m + 1) = some (roN X nc nm m) := by
  unfold roN
  cases e : foO X nc nm (X 3 m) (X 4 m) (oN X m) (m + 1) with
  | some q => rfl
  | none =>
    have h := inF_self (X := X) (nc := nc) (nm := nm) (m := m)
    rw [fst_none e m (by omega) (by omega)] at h
    cases h
theorem ro_le {m : Nat} : roN X nc nm m ≤ m := by
  have := (fst_some (ro_some (X := X) (nc := nc) (nm := nm) (m := m))).2.1; omega
theorem ro_in {m : Nat} : inF X nc nm (X 3 m) (X 4 m) (oN X m) (roN X nc nm m) = true := (fst_some (ro_some (X := X) (nc := nc) (nm := nm) (m := m))).2.2
theorem ro_least {m q : Nat} (h : q < roN X nc nm m) : inF X nc nm (X 3 m) (X 4 m) (oN X m) q = false := fst_least (ro_some (X := X) (nc := nc) (nm := nm) (m := m)) q (by omega) h
/-- who is in the same family has the same root -/
theorem ro_eq (hw : wW X nc nm) {p q : Nat} (hp : p < nm) (hq : q < nm) (h : inF X nc nm (X 3 q) (X 4 q) (oN X q) p = true) : roN X nc nm p = roN X nc nm q := by
  have hp2 := ro_le (X := X) (nc := nc) (nm := nm) (m := p)
  have hq2 := ro_le (X := X) (nc := nc) (nm := nm) (m := q)
  rcases Nat.lt_trichotomy (roN X nc nm p) (roN X nc nm q) with z | z | z
  · have h1 := ro_least z
    rw [inF_trans hw (by omega) ro_in h] at h1; cases h1
  · exact z
  · have h1 := ro_least z
    rw [inF_trans hw (by omega) ro_in (inF_sym hw hp h)] at h1; cases h1
theorem ro_of (hw : wW X nc nm) {p q : Nat} (hp : p < nm) (hq : q < nm) (h : roN X nc nm p = roN X nc nm q) : inF X nc nm (X 3 q) (X 4 q) (oN X q) p = true := by
  have hp2 := ro_le (X := X) (nc := nc) (nm := nm) (m := p)
  have h1 := ro_in (X := X) (nc := nc) (nm := nm) (m := p)
  have h2 := ro_in (X := X) (nc := nc) (nm := nm) (m := q)
  rw [← h] at h2
  exact inF_trans hw hp (inF_sym hw (by omega) h1) h2
theorem ro_root (hw : wW X nc nm) {m : Nat} (hm : m < nm) : rtC X nc nm (roN X nc nm m) = true := by
  have := ro_le (X := X) (nc := nc) (nm := nm) (m := m)
  exact decide_eq_true (ro_eq hw (by omega) hm ro_in)
/-- the least method whose family holds n, r of c is a root -/
theorem fo_root (hw : wW X nc nm) {n r : Int32} {c k q : Nat} (hk : k ≤ nm) (h : foO X nc nm n r c k = some q) : rtC X nc nm q = true := by
  obtain ⟨-, h2, h3⟩ := fst_some h
  refine decide_eq_true ?_
  have hl := ro_le (X := X) (nc := nc) (nm := nm) (m := q)
  rcases Nat.lt_or_ge (roN X nc nm q) q with z | z
  · have h4 := fst_least h _ (by omega) z
    rw [inF_trans hw (by omega) ro_in h3] at h4; cases h4
  · omega
theorem fo_ro (hw : wW X nc nm) {m : Nat} (hm : m < nm) : foO X nc nm (X 3 m) (X 4 m) (oN X m) nm = some (roN X nc nm m) := by
  have hl := ro_le (X := X) (nc := nc) (nm := nm) (m := m)
  exact fst_is (by omega) (by omega) ro_in (fun q _ h => ro_least h)
end VFm
