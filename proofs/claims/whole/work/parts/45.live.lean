/-! What is live and made: the passes as pure functions, and the reference's methods that make them. -/
section VLv
abbrev tT : Type := (Nat → Bool) × (Nat → Bool) × Bool
def lvF (o : Option Nat) (t : tT) : tT := match o with
  | none => t
  | some m => (t.1, va_up t.2.1 m true, t.2.2 || !t.2.1 m)
def mkF (c : Nat) (t : tT) : tT := (va_up t.1 c true, t.2.1, t.2.2 || !t.1 c)
def selfF (fd : Nat → Option Nat) (ab : Nat → Bool) : Nat → Nat → tT → tT
  | 0, _, t => t
  | n + 1, k, t => selfF fd ab n (k + 1) (if t.1 k && ab k then lvF (fd k) t else t)
/-- numbers of the state as numbers -/
def oN (X : Nat → Nat → Int32) (m : Nat) : Nat := (X 2 m).toNatClampNeg
def iN (X : Nat → Nat → Int32) (m : Nat) : Nat := (X 5 m).toNatClampNeg
def cN (X : Nat → Nat → Int32) (i : Nat) : Nat := (X 13 i).toNatClampNeg
def kN (X : Nat → Nat → Int32) (m : Nat) : Bool := decide (X 9 m ≠ 0)
/-- what finding gives for an item, from a class -/
def fdS (X : Nat → Nat → Int32) (nm i k : Nat) : Option Nat := findS X nm (X 14 i) (X 15 i) 9 k
def itemF (X : Nat → Nat → Int32) (nc nm m i : Nat) (t : tT) : tT :=
  if X 12 i = 1 then lvF (fdS X nm i (cN X i)) (mkF (cN X i) t)
  else if X 12 i = 2 then selfF (fdS X nm i) (fun k => aboveS X (oN X m) 9 k) nc 0 t else t
def itemsF (X : Nat → Nat → Int32) (nc nm m : Nat) : Nat → Nat → tT → tT
  | 0, _, t => t
  | n + 1, j, t => itemsF X nc nm m n (j + 1) (itemF X nc nm m (m * 5 + j) t)
def passF (X : Nat → Nat → Int32) (nc nm : Nat) : Nat → Nat → tT → tT
  | 0, _, t => t
  | n + 1, m, t => passF X nc nm n (m + 1) (if t.2.1 m then itemsF X nc nm m (iN X m) 0 t else t)
def fixF (X : Nat → Nat → Int32) (nc nm : Nat) : Nat → tT → tT
  | 0, t => t
  | f + 1, t => if (passF X nc nm nm 0 (t.1, t.2.1, false)).2.2 then fixF X nc nm f (passF X nc nm nm 0 (t.1, t.2.1, false)) else passF X nc nm nm 0 (t.1, t.2.1, false)
def mkI (X : Nat → Nat → Int32) : Nat → Nat → (Nat → Bool) → (Nat → Bool)
  | 0, _, w => w
  | n + 1, m, w => mkI X n (m + 1) (if kN X m then va_up w (oN X m) true else w)
/-- where the passes begin: what is kept, and its classes -/
def iniF (X : Nat → Nat → Int32) (nm : Nat) : tT := (mkI X nm 0 (fun _ => false), kN X, true)
def liveF (X : Nat → Nat → Int32) (nc nm : Nat) : tT := fixF X nc nm 33 (iniF X nm)
/-- the state is well made -/
def wW (X : Nat → Nat → Int32) (nc nm : Nat) : Prop := wP X nc ∧ nm ≤ 24 ∧ (∀ m, m < nm → oN X m < nc ∧ X 2 m = nI (oN X m)) ∧ (∀ m, m < nm → iN X m ≤ 5 ∧ X 5 m = nI (iN X m)) ∧ (∀ m, m < nm → X 9 m = bI (kN X m)) ∧ ∀ m, m < nm → ∀ j, j < iN X m → X 12 (m * 5 + j) = 1 → cN X (m * 5 + j) < nc ∧ X 13 (m * 5 + j) = nI (cN X (m * 5 + j))
theorem ownS_lt {X : Nat → Nat → Int32} {nm m : Nat} {k n r : Int32} (h : ownS X nm k n r = some m) : m < nm := by
  have := fst_some h
  omega
theorem findS_lt {X : Nat → Nat → Int32} {nm : Nat} {n r : Int32} : ∀ {f c m : Nat}, findS X nm n r f c = some m → m < nm
  | 0, _, _, h => by cases h
  | f + 1, c, m, h => by
    unfold findS at h
    cases ho : ownS X nm (nI c) n r with
    | some m' => rw [ho] at h; cases h; exact ownS_lt ho
    | none =>
      rw [ho] at h
      cases hp : pS X c with
      | none => rw [hp] at h; cases h
      | some d => rw [hp] at h; exact findS_lt h
/-- one triple grows out of another: nothing is lost, and a flag that came tells of something new -/
def tLe (nc nm : Nat) (t t' : tT) : Prop := (∀ c, t.1 c = true → t'.1 c = true) ∧ (∀ m, t.2.1 m = true → t'.2.1 m = true) ∧ (t.2.2 = true → t'.2.2 = true) ∧ (t'.2.2 = true → t.2.2 = true ∨ (∃ c, c < nc ∧ t.1 c = false ∧ t'.1 c = true) ∨ ∃ m, m < nm ∧ t.2.1 m = false ∧ t'.2.1 m = true)
theorem tLe.rf {nc nm : Nat} {t : tT} : tLe nc nm t t := ⟨fun _ h => h, fun _ h => h, fun h => h, fun h => Or.inl h⟩
theorem tLe.tr {nc nm : Nat} {t u v : tT} (h1 : tLe nc nm t u) (h2 : tLe nc nm u v) : tLe nc nm t v := by
  refine ⟨fun c h => h2.1 c (h1.1 c h), fun m h => h2.2.1 m (h1.2.1 m h), fun h => h2.2.2.1 (h1.2.2.1 h), fun h => ?_⟩
  rcases h2.2.2.2 h with a | ⟨c, a1, a2, a3⟩ | ⟨m, a1, a2, a3⟩
  · rcases h1.2.2.2 a with b | ⟨c, b1, b2, b3⟩ | ⟨m, b1, b2, b3⟩
    · exact Or.inl b
    · exact Or.inr (Or.inl ⟨c, b1, b2, h2.1 c b3⟩)
    · exact Or.inr (Or.inr ⟨m, b1, b2, h2.2.1 m b3⟩)
  · refine Or.inr (Or.inl ⟨c, a1, ?_, a3⟩)
    cases hc : t.1 c with
    | false => rfl
    | true => rw [h1.1 c hc] at a2; cases a2
  · refine Or.inr (Or.inr ⟨m, a1, ?_, a3⟩)
    cases hc : t.2.1 m with
    | false => rfl
    | true => rw [h1.2.1 m hc] at a2; cases a2
theorem va_up_true {f : Nat → Bool} {k j : Nat} (h : f j = true) : va_up f k true j = true := by
  by_cases hj : j = k
  · rw [hj, va_up_self]
  · rw [va_up_ne _ _ hj]; exact h
theorem lvF_le {nc nm : Nat} {o : Option Nat} {t : tT} (h : ∀ m, o = some m → m < nm) : tLe nc nm t (lvF o t) := by
  cases o with
  | none => exact tLe.rf
  | some m =>
    refine ⟨fun c h => h, fun j h => va_up_true h, fun h => by simp [lvF, h], fun hf => ?_⟩
    simp only [lvF, Bool.or_eq_true, Bool.not_eq_true'] at hf
    rcases hf with hf | hf
    · exact Or.inl hf
    · exact Or.inr (Or.inr ⟨m, h m rfl, hf, va_up_self _ _ _⟩)
theorem mkF_le {nc nm c : Nat} {t : tT} (h : c < nc) : tLe nc nm t (mkF c t) := by
  refine ⟨fun j h => va_up_true h, fun j h => h, fun h => by simp [mkF, h], fun hf => ?_⟩
  simp only [mkF, Bool.or_eq_true, Bool.not_eq_true'] at hf
  rcases hf with hf | hf
  · exact Or.inl hf
  · exact Or.inr (Or.inl ⟨c, h, hf, va_up_self _ _ _⟩)
theorem selfF_le {nc nm : Nat} {fd : Nat → Option Nat} {ab : Nat → Bool} (h : ∀ k m, fd k = some m → m < nm) : ∀ (n k : Nat) (t : tT), tLe nc nm t (selfF fd ab n k t)
  | 0, _, _ => tLe.rf
  | n + 1, k, t => by
    unfold selfF
    refine tLe.tr ?_ (selfF_le h n (k + 1) _)
    by_cases hc : (t.1 k && ab k) = true
    · rw [if_pos hc]; exact lvF_le (h k)
    · rw [if_neg hc]; exact tLe.rf
theorem itemF_le {X : Nat → Nat → Int32} {nc nm m i : Nat} {t : tT} (h : X 12 i = 1 → cN X i < nc) : tLe nc nm t (itemF X nc nm m i t) := by
  unfold itemF
  by_cases h1 : X 12 i = 1
  · rw [if_pos h1]; exact tLe.tr (mkF_le (h h1)) (lvF_le (fun m hm => findS_lt hm))
  · rw [if_neg h1]
    by_cases h2 : X 12 i = 2
    · rw [if_pos h2]; exact selfF_le (fun k m hm => findS_lt hm) _ _ _
    · rw [if_neg h2]; exact tLe.rf
theorem itemsF_le {X : Nat → Nat → Int32} {nc nm m : Nat} : ∀ (n j : Nat) (t : tT), (∀ i, j ≤ i → i < j + n → X 12 (m * 5 + i) = 1 → cN X (m * 5 + i) < nc) → tLe nc nm t (itemsF X nc nm m n j t)
  | 0, _, _, _ => tLe.rf
  | n + 1, j, t, h => by
    unfold itemsF
    exact tLe.tr (itemF_le (h j (Nat.le_refl _) (by omega))) (itemsF_le n (j + 1) _ (fun i h1 h2 => h i (by omega) (by omega)))
theorem passF_le {X : Nat → Nat → Int32} {nc nm : Nat} (hw : wW X nc nm) : ∀ (n m : Nat) (t : tT), m + n ≤ nm → tLe nc nm t (passF X nc nm n m t)
  | 0, _, _, _ => tLe.rf
  | n + 1, m, t, hm => by
    unfold passF
    refine tLe.tr ?_ (passF_le hw n (m + 1) _ (by omega))
    by_cases hc : t.2.1 m = true
    · rw [if_pos hc]; exact itemsF_le _ _ _ (fun i _ h2 h3 => (hw.2.2.2.2.2 m (by omega) i (by omega) h3).1)
    · rw [if_neg hc]; exact tLe.rf
/-- how many are made and live -/
def cntB (f : Nat → Bool) : Nat → Nat
  | 0 => 0
  | n + 1 => cntB f n + (if f n then 1 else 0)
theorem cntB_le (f : Nat → Bool) : ∀ n, cntB f n ≤ n
  | 0 => Nat.le_refl _
  | n + 1 => by
    have := cntB_le f n
    unfold cntB
    split <;> omega
theorem cntB_mono {f g : Nat → Bool} (h : ∀ i, f i = true → g i = true) : ∀ n, cntB f n ≤ cntB g n
  | 0 => Nat.le_refl _
  | n + 1 => by
    have := cntB_mono h n
    unfold cntB
    by_cases hf : f n = true
    · rw [if_pos hf, if_pos (h n hf)]; omega
    · rw [if_neg hf]; split <;> omega
theorem cntB_lt {f g : Nat → Bool} (h : ∀ i, f i = true → g i = true) : ∀ {n i : Nat}, i < n → f i = false → g i = true → cntB f n < cntB g n
  | 0, _, hi, _, _ => by omega
  | n + 1, i, hi, h1, h2 => by
    unfold cntB
    by_cases hin : i = n
    · subst hin
      have := cntB_mono h i
      rw [if_neg (by rw [h1]; decide), if_pos h2]; omega
    · have := cntB_lt h (show i < n by omega) h1 h2
      by_cases hf : f n = true
      · rw [if_pos hf, if_pos (h n hf)]; omega
      · rw [if_neg hf]; split <;> omega
def cntT (nc nm : Nat) (t : tT) : Nat := cntB t.1 nc + cntB t.2.1 nm
theorem cntT_le {nc nm : Nat} {t : tT} : cntT nc nm t ≤ nc + nm := by
  have h1 := cntB_le t.1 nc
  have h2 := cntB_le t.2.1 nm
  unfold cntT
  omega
theorem pass_cnt {X : Nat → Nat → Int32} {nc nm : Nat} (hw : wW X nc nm) {t : tT} (h : (passF X nc nm nm 0 (t.1, t.2.1, false)).2.2 = true) : cntT nc nm t < cntT nc nm (passF X nc nm nm 0 (t.1, t.2.1, false)) := by
  have hl := passF_le hw nm 0 (t.1, t.2.1, false) (by omega)
  have m1 := cntB_mono hl.1 nc
  have m2 := cntB_mono hl.2.1 nm
  unfold cntT
  rcases hl.2.2.2 h with a | ⟨c, a1, a2, a3⟩ | ⟨m, a1, a2, a3⟩
  · cases a
  · have := cntB_lt hl.1 a1 a2 a3
    show cntB t.1 nc + _ < _
    have m2' : cntB t.2.1 nm ≤ cntB (passF X nc nm nm 0 (t.1, t.2.1, false)).2.1 nm := m2
    have : cntB t.1 nc < cntB (passF X nc nm nm 0 (t.1, t.2.1, false)).1 nc := this
    omega
  · have := cntB_lt hl.2.1 a1 a2 a3
    have m1' : cntB t.1 nc ≤ cntB (passF X nc nm nm 0 (t.1, t.2.1, false)).1 nc := m1
    have : cntB t.2.1 nm < cntB (passF X nc nm nm 0 (t.1, t.2.1, false)).2.1 nm := this
    omega
/-- the flag is only gathered: what comes of a triple does not hang on it -/
theorem lvF_fl {o : Option Nat} {t : tT} : lvF o t = ((lvF o (t.1, t.2.1, false)).1, (lvF o (t.1, t.2.1, false)).2.1, t.2.2 || (lvF o (t.1, t.2.1, false)).2.2) := by
  cases o <;> simp [lvF]
theorem selfF_fl {fd : Nat → Option Nat} {ab : Nat → Bool} : ∀ (n k : Nat) (t : tT), selfF fd ab n k t = ((selfF fd ab n k (t.1, t.2.1, false)).1, (selfF fd ab n k (t.1, t.2.1, false)).2.1, t.2.2 || (selfF fd ab n k (t.1, t.2.1, false)).2.2)
  | 0, _, t => by simp [selfF]
  | n + 1, k, t => by
    unfold selfF
    by_cases hc : (t.1 k && ab k) = true
    · rw [if_pos hc, if_pos (show (((t.1, t.2.1, false) : tT).1 k && ab k) = true from hc)]
      rw [lvF_fl (t := t)]
      rw [selfF_fl n (k + 1) ((lvF (fd k) (t.1, t.2.1, false)).1, (lvF (fd k) (t.1, t.2.1, false)).2.1, t.2.2 || (lvF (fd k) (t.1, t.2.1, false)).2.2)]
      rw [selfF_fl n (k + 1) (lvF (fd k) (t.1, t.2.1, false))]
      simp [Bool.or_assoc]
    · rw [if_neg hc, if_neg (show ¬ (((t.1, t.2.1, false) : tT).1 k && ab k) = true from hc)]
      exact selfF_fl n (k + 1) t
theorem itemF_fl {X : Nat → Nat → Int32} {nc nm m i : Nat} {t : tT} : itemF X nc nm m i t = ((itemF X nc nm m i (t.1, t.2.1, false)).1, (itemF X nc nm m i (t.1, t.2.1, false)).2.1, t.2.2 || (itemF X nc nm m i (t.1, t.2.1, false)).2.2) := by
  unfold itemF
  by_cases h1 : X 12 i = 1
  · rw [if_pos h1, if_pos h1, lvF_fl, lvF_fl (t := mkF (cN X i) (t.1, t.2.1, false))]
    simp [mkF, Bool.or_assoc]
  · rw [if_neg h1, if_neg h1]
    by_cases h2 : X 12 i = 2
    · rw [if_pos h2, if_pos h2]; exact selfF_fl _ _ _
    · rw [if_neg h2, if_neg h2]; simp
end VLv
