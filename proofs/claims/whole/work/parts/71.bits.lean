/-! Sets of small numbers as ints. -/
section VB
def bt (x : Int32) (i : Nat) : Bool := x.toBitVec.getLsbD i
theorem bt_ext {x y : Int32} (h : ∀ i, i < 32 → bt x i = bt y i) : x = y := Int32.toBitVec_inj.mp (BitVec.eq_of_getLsbD_eq (fun i hi => h i hi))
theorem bt_or (x y : Int32) (i : Nat) : bt (x ||| y) i = (bt x i || bt y i) := by unfold bt; rw [Int32.toBitVec_or, BitVec.getLsbD_or]
theorem bt_and (x y : Int32) (i : Nat) : bt (x &&& y) i = (bt x i && bt y i) := by unfold bt; rw [Int32.toBitVec_and, BitVec.getLsbD_and]
theorem bt_0 (i : Nat) : bt 0 i = false := BitVec.getLsbD_zero
theorem bt_1 : ∀ n, n < 32 → ∀ i, i < 32 → bt (1 <<< (nI n &&& 31)) i = decide (i = n) := by decide +kernel
theorem bt_b : ∀ b : Bool, ∀ i, i < 32 → bt (bI b) i = (decide (i = 0) && b) := by decide +kernel
theorem bt_o : ∀ i, i < 32 → bt 1 i = decide (i = 0) := by decide +kernel
theorem bt_cnt : ∀ n, n < 32 → ((nI n &&& 31).toBitVec.smod 32).toNat = n := by decide +kernel
theorem bt_shr0 (n : Nat) (hn : n < 32) (x : Int32) : bt (x >>> (nI n &&& 31)) 0 = bt x n := by
  unfold bt
  rw [Int32.toBitVec_shiftRight]
  show (x.toBitVec.sshiftRight ((nI n &&& 31).toBitVec.smod 32).toNat).getLsbD 0 = _
  rw [bt_cnt n hn, BitVec.getLsbD_sshiftRight]
  simp [hn]
def bsN (S : Nat → Bool) : Nat → Int32
  | 0 => 0
  | n + 1 => bsN S n ||| (if S n then 1 <<< (nI n &&& 31) else 0)
def bsI (S : Nat → Bool) : Int32 := bsN S 32
theorem bt_bsN {S : Nat → Bool} : ∀ n, n ≤ 32 → ∀ i, i < 32 → bt (bsN S n) i = (decide (i < n) && S i)
  | 0, _, i, _ => by rw [show bsN S 0 = 0 from rfl, bt_0, decide_eq_false (Nat.not_lt_zero i)]; rfl
  | n + 1, h, i, hi => by
    show bt (bsN S n ||| (if S n then 1 <<< (nI n &&& 31) else 0)) i = _
    rw [bt_or, bt_bsN n (by omega) i hi]
    by_cases e : i = n
    · subst e
      rw [decide_eq_false (Nat.lt_irrefl i), decide_eq_true (Nat.lt_succ_self i)]
      cases hs : S i with
      | true => rw [if_pos rfl, bt_1 i hi i hi, decide_eq_true rfl]; rfl
      | false => rw [if_neg (by decide), bt_0]; rfl
    · have e2 : bt (if S n then 1 <<< (nI n &&& 31) else 0) i = false := by
        cases hs : S n with
        | true => rw [if_pos rfl, bt_1 n (by omega) i hi, decide_eq_false e]
        | false => rw [if_neg (by decide), bt_0]
      rw [e2, Bool.or_false]
      by_cases hl : i < n
      · rw [decide_eq_true hl, decide_eq_true (by omega)]
      · rw [decide_eq_false hl, decide_eq_false (by omega)]
theorem bt_bsI {S : Nat → Bool} {i : Nat} (hi : i < 32) : bt (bsI S) i = S i := by
  unfold bsI; rw [bt_bsN 32 (Nat.le_refl _) i hi, decide_eq_true hi, Bool.true_and]
theorem bs_congr {S T : Nat → Bool} (h : ∀ i, i < 32 → S i = T i) : bsI S = bsI T := bt_ext (fun i hi => by rw [bt_bsI hi, bt_bsI hi, h i hi])
theorem bs_or {S T : Nat → Bool} : bsI S ||| bsI T = bsI (fun i => S i || T i) := bt_ext (fun i hi => by rw [bt_or, bt_bsI hi, bt_bsI hi, bt_bsI hi])
theorem bs_and {S T : Nat → Bool} : bsI S &&& bsI T = bsI (fun i => S i && T i) := bt_ext (fun i hi => by rw [bt_and, bt_bsI hi, bt_bsI hi, bt_bsI hi])
theorem bs_one {n : Nat} (hn : n < 32) : (1 : Int32) <<< (nI n &&& 31) = bsI (fun i => decide (i = n)) := bt_ext (fun i hi => by rw [bt_bsI hi, bt_1 n hn i hi])
theorem bs_0 : (0 : Int32) = bsI (fun _ => false) := bt_ext (fun i hi => by rw [bt_bsI hi, bt_0])
theorem bs_eq {S T : Nat → Bool} (h : bsI S = bsI T) {i : Nat} (hi : i < 32) : S i = T i := by rw [← bt_bsI (S := S) hi, h, bt_bsI hi]
theorem bs_ne0 {S : Nat → Bool} : bsI S = 0 ↔ anyB S 32 = false := by
  constructor
  · intro h
    rw [bs_0] at h
    exact anyB_f (fun i hi => bs_eq h hi)
  · intro h
    rw [bs_0]
    refine bs_congr (fun i hi => ?_)
    cases e : S i with
    | false => rfl
    | true => rw [anyB_t hi e] at h; cases h
theorem bs_holds {S : Nat → Bool} {n : Nat} (hn : n < 32) : (bsI S >>> (nI n &&& 31)) &&& 1 = bI (S n) := by
  refine bt_ext (fun i hi => ?_)
  rw [bt_and, bt_o i hi, bt_b _ i hi]
  by_cases e : i = 0
  · subst e
    rw [bt_shr0 n hn, bt_bsI hn, decide_eq_true rfl, Bool.and_true, Bool.true_and]
  · rw [decide_eq_false e, Bool.and_false, Bool.false_and]
theorem anyB_congr {f g : Nat → Bool} {n : Nat} (h : ∀ i, i < n → f i = g i) : anyB f n = anyB g n := by
  cases e : anyB g n with
  | true =>
    obtain ⟨i, h1, h2⟩ := anyB_iff.mp e
    exact anyB_t h1 (by rw [h i h1, h2])
  | false =>
    refine anyB_f (fun i hi => ?_)
    rw [h i hi]
    cases e2 : g i with
    | false => rfl
    | true => rw [anyB_t hi e2] at e; cases e
theorem anyB_no {f : Nat → Bool} {n i : Nat} (h : anyB f n = false) (hi : i < n) : f i = false := by
  cases e : f i with
  | false => rfl
  | true => rw [anyB_t hi e] at h; cases h
theorem fst_none {p : Nat → Bool} : ∀ {f i : Nat}, fst p f i = none → ∀ m, i ≤ m → m < i + f → p m = false
  | 0, i, _, m, h1, h2 => by omega
  | f + 1, i, h, m, h1, h2 => by
    unfold fst at h
    by_cases hp : p i = true
    · rw [if_pos hp] at h; cases h
    · rw [if_neg hp] at h
      by_cases e : m = i
      · subst e; exact Bool.eq_false_iff.mpr hp
      · exact fst_none h m (by omega) (by omega)
theorem fst_least {p : Nat → Bool} : ∀ {f i m : Nat}, fst p f i = some m → ∀ q, i ≤ q → q < m → p q = false
  | 0, i, m, h, q, h1, h2 => (nomatch h)
  | f + 1, i, m, h, q, h1, h2 => by
    unfold fst at h
    by_cases hp : p i = true
    · rw [if_pos hp] at h; cases h; omega
    · rw [if_neg hp] at h
      by_cases e : q = i
      · subst e; exact Bool.eq_false_iff.mpr hp
      · exact fst_least h q (by omega) h2
theorem fst_is {p : Nat → Bool} {f i m : Nat} (h1 : i ≤ m) (h2 : m < i + f) (h3 : p m = true) (h4 : ∀ q, i ≤ q → q < m → p q = false) : fst p f i = some m := by
  cases e : fst p f i with
  | none => rw [fst_none e m h1 h2] at h3; cases h3
  | some q =>
    obtain ⟨a1, a2, a3⟩ := fst_some e
    rcases Nat.lt_trichotomy q m with z | z | z
    · rw [h4 q a1 z] at a3; cases a3
    · rw [z]
    · rw [fst_least e m h1 z] at h3; cases h3
theorem fst_no {p : Nat → Bool} {f i : Nat} (h : ∀ q, i ≤ q → q < i + f → p q = false) : fst p f i = none := by
  cases e : fst p f i with
  | none => rfl
  | some q =>
    obtain ⟨a1, a2, a3⟩ := fst_some e
    rw [h q a1 a2] at a3; cases a3
end VB
