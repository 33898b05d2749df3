/-! The class: its objects by their roles. 0 classes, 1 methods, 2 items, 3 lists of a class, 4 lists of a method, 5 the rest.
X: the reference's own rows. Z: 0 number, 1 made, 2 live, 3 single numbers (0 gone, 1 grew, 2 outcome, 3 done, 4 size), 4.. the arrays of the families. L: 0 the classes, 1 the methods, 2 those of a class. -/
section VSt
abbrev sQ0 : Type := vR → (Nat → Nat → Int32) → (Nat → Nat → Int32) → (Nat → Nat → List Nat) → Prop
def cV (X : Nat → Nat → Int32) (nc nm : Nat) : Nat → Nat → Bool
  | 0, i => decide (i < nc)
  | 1, i => decide (i < nm)
  | 2, i => decide (i / 5 < nm) && decide (i % 5 < iN X (i / 5))
  | 3, i => decide (i < nc)
  | 4, i => decide (i < nm)
  | 5, i => decide (i < 13)
  | _, _ => false
def cE5 (G : vG) (ad : Nat → Nat → Nat) (Z : Nat → Nat → Int32) (L : Nat → Nat → List Nat) : Nat → aE
  | 0 => .inl (.inr (7, [.ref (ad 5 1), .ref (ad 5 2), .ref (ad 5 3), .ref (ad 5 4), .int (Z 3 0)]))
  | 1 => .inl (.inr (2, [.ref (ad 5 5), .ref (ad 5 6)]))
  | 2 => .inl (.inr (6, [.int (Z 3 2), .int (Z 3 3)]))
  | 3 => .inl (.inr (5, [.ref (ad 5 1), .int (Z 3 1)]))
  | 4 => .inl (.inr (0, [.ref (ad 5 1), .ref (ad 5 7), .ref (ad 5 8), .ref (ad 5 9), .ref (ad 5 10), .ref (ad 5 11), .ref (ad 5 12), .int (Z 3 4)]))
  | 5 => .inr (3, (L 0 0).map (ad 0))
  | 6 => .inr (4, (L 1 0).map (ad 1))
  | j + 7 => .inl (.inl (G.2.1 (if j = 5 then 1 else 0), (if j = 0 then 8 else 24), .inl (Z (4 + j))))
def cE (G : vG) (ad : Nat → Nat → Nat) (X Z : Nat → Nat → Int32) (L : Nat → Nat → List Nat) : Nat → Nat → aE
  | 0, i => .inl (.inr (3, [va_rf ((pS X i).map (ad 0)), .int (X 1 i), .ref (ad 3 i), .int (Z 0 i), .int (Z 1 i)]))
  | 1, i => .inl (.inr (4, [.ref (ad 0 (oN X i)), .int (X 6 i), .int (X 7 i), .int (X 4 i), .ref (ad 4 i), .int (X 3 i), .int (X 9 i), .int (Z 2 i)]))
  | 2, i => .inl (.inr (1, [.int (X 12 i), .int (if X 12 i = 1 then -1 else X 13 i), va_rf (if X 12 i = 1 then some (ad 0 (cN X i)) else none), .int (X 15 i), .int (X 14 i)]))
  | 3, i => .inr (4, (L 2 i).map (ad 1))
  | 4, i => .inr (1, (List.range (iN X i)).map (fun j => ad 2 (i * 5 + j)))
  | _, i => cE5 G ad Z L i
def cF (G : vG) (nc nm : Nat) (ad : Nat → Nat → Nat) (X Z : Nat → Nat → Int32) (L : Nat → Nat → List Nat) (F : aH) : Prop := (∀ k i, cV X nc nm k i = true → F (ad k i) = some (cE G ad X Z L k i)) ∧ ∀ k i k' i', cV X nc nm k i = true → cV X nc nm k' i' = true → ad k i = ad k' i' → k = k' ∧ i = i'
def cP (G : vG) (nc nm : Nat) (ad : Nat → Nat → Nat) (X Z : Nat → Nat → Int32) (L : Nat → Nat → List Nat) (h : vH) : Prop := ∃ F, aR G F h ∧ cF G nc nm ad X Z L F
def sQ (G : vG) (nc nm : Nat) (ad : Nat → Nat → Nat) (Q : sQ0) : vQ := fun r h' => ∃ X' Z' L', cP G nc nm ad X' Z' L' h' ∧ Q r X' Z' L'
def VS (G : vG) (M : vM) (fr lo pc : Nat) (lv : List (Nat × Value)) (st : List Value) (nc nm : Nat) (ad : Nat → Nat → Nat) (X Z : Nat → Nat → Int32) (L : Nat → Nat → List Nat) (mc ms : Nat) (Q : sQ0) : Prop :=
  ∀ h : vH, cP G nc nm ad X Z L h → V G M fr lo pc lv st h mc ms (sQ G nc nm ad Q)
variable {G : vG} {M M1 : vM} {fr lo pc fr1 lo1 mc ms mc1 ms1 : Nat} {lv lv' : List (Nat × Value)} {st : List Value} {nc nm : Nat} {ad : Nat → Nat → Nat} {X X1 : Nat → Nat → Int32} {Z Z1 : Nat → Nat → Int32} {L L1 : Nat → Nat → List Nat} {Q Q1 : vR → (Nat → Nat → Int32) → (Nat → Nat → Int32) → (Nat → Nat → List Nat) → Prop}
theorem cP.o {h : vH} (hP : cP G nc nm ad X Z L h) {k i : Nat} {e : va_E} (hv : cV X nc nm k i = true) (he : cE G ad X Z L k i = .inl e) : h.2 (ad k i) = e ∧ ad k i ∈ h.1 := by
  obtain ⟨F, h1, h2, -⟩ := hP
  have h3 := h2 k i hv
  rw [he] at h3
  exact ⟨h1.o h3, h1.m h3⟩
/-- one plain cell has changed -/
def cU (G : vG) (nc nm : Nat) (ad : Nat → Nat → Nat) (X Z : Nat → Nat → Int32) (L : Nat → Nat → List Nat) (X' Z' : Nat → Nat → Int32) (k i : Nat) (e' : va_E) : Prop := (∀ q j, cV X' nc nm q j = cV X nc nm q j) ∧ (∀ q j, cV X nc nm q j = true → (q ≠ k ∨ j ≠ i) → cE G ad X' Z' L q j = cE G ad X Z L q j) ∧ cE G ad X' Z' L k i = .inl e'
theorem cP.put {h : vH} (hP : cP G nc nm ad X Z L h) {k i : Nat} {e e' : va_E} (hv : cV X nc nm k i = true) (he : cE G ad X Z L k i = .inl e) (hc : ∀ ci fs, e = .inr (ci, fs) → ∃ fs', e' = .inr (ci, fs')) (hU : cU G nc nm ad X Z L X1 Z1 k i e') : cP G nc nm ad X1 Z1 L (h.1, va_up h.2 (ad k i) e') := by
  obtain ⟨F, h1, h2, h3⟩ := hP
  have h4 := h2 k i hv
  rw [he] at h4
  refine ⟨_, h1.set h4 hc, fun q j hq => ?_, fun q j q' j' hq hq' => h3 q j q' j' (by rw [← hU.1]; exact hq) (by rw [← hU.1]; exact hq')⟩
  rw [hU.1] at hq
  by_cases hd : q = k ∧ j = i
  · obtain ⟨rfl, rfl⟩ := hd
    rw [va_up_self, hU.2.2]
  · rw [va_up_ne _ _ (fun z => hd (h3 q j k i hq hv z)), h2 q j hq, hU.2.1 q j hq (by omega)]
theorem cP.congr {h : vH} (hP : cP G nc nm ad X Z L h) (hV : ∀ q j, cV X1 nc nm q j = true → cV X nc nm q j = true) (hE : ∀ q j, cV X1 nc nm q j = true → cE G ad X1 Z1 L1 q j = cE G ad X Z L q j) : cP G nc nm ad X1 Z1 L1 h := by
  obtain ⟨F, h1, h2, h3⟩ := hP
  exact ⟨F, h1, fun q j hq => by rw [h2 q j (hV q j hq), hE q j hq], fun q j q' j' hq hq' => h3 q j q' j' (hV q j hq) (hV q' j' hq')⟩
theorem cV2 {m j : Nat} (hm : m < nm) (hj : j < iN X m) (h5 : j < 5) : cV X nc nm 2 (m * 5 + j) = true := by
  show (decide ((m * 5 + j) / 5 < nm) && decide ((m * 5 + j) % 5 < iN X ((m * 5 + j) / 5))) = true
  rw [show (m * 5 + j) / 5 = m by omega, show (m * 5 + j) % 5 = j by omega, decide_eq_true hm, decide_eq_true hj]; rfl

theorem cU_num {c : Nat} {v : Int32} : cU G nc nm ad X Z L X (mW Z 0 c v) 0 (c) (.inr (3, [va_rf ((pS X c).map (ad 0)), .int (X 1 c), .ref (ad 3 c), .int v, .int (Z 1 c)])) := by
  refine ⟨fun q j => rfl, fun q j hq hd => ?_, by simp [cE, cE5, mW, pS, oN, cN]⟩
  rcases q with _ | _ | _ | _ | _ | _ | q
  · have hne : j ≠ c := fun z => hd.elim (fun y => y rfl) (fun y => y z)
    simp [cE, cE5, mW, pS, oN, iN, cN, hne]
  · simp [cE, cE5, mW, pS, oN, iN, cN]
  · simp [cE, cE5, mW, pS, oN, iN, cN]
  · simp [cE, cE5, mW, pS, oN, iN, cN]
  · simp [cE, cE5, mW, pS, oN, iN, cN]
  · rcases j with _ | _ | _ | _ | _ | _ | _ | j
    · simp [cE, cE5, mW]
    · simp [cE, cE5, mW]
    · simp [cE, cE5, mW]
    · simp [cE, cE5, mW]
    · simp [cE, cE5, mW]
    · simp [cE, cE5, mW]
    · simp [cE, cE5, mW]
    · have e1 : (mW Z 0 c v) (4 + j) = Z (4 + j) := by funext i; exact mW_k (by omega)
      simp [cE, cE5, e1]
  · cases hq
theorem cU_made {c : Nat} {v : Int32} : cU G nc nm ad X Z L X (mW Z 1 c v) 0 (c) (.inr (3, [va_rf ((pS X c).map (ad 0)), .int (X 1 c), .ref (ad 3 c), .int (Z 0 c), .int v])) := by
  refine ⟨fun q j => rfl, fun q j hq hd => ?_, by simp [cE, cE5, mW, pS, oN, cN]⟩
  rcases q with _ | _ | _ | _ | _ | _ | q
  · have hne : j ≠ c := fun z => hd.elim (fun y => y rfl) (fun y => y z)
    simp [cE, cE5, mW, pS, oN, iN, cN, hne]
  · simp [cE, cE5, mW, pS, oN, iN, cN]
  · simp [cE, cE5, mW, pS, oN, iN, cN]
  · simp [cE, cE5, mW, pS, oN, iN, cN]
  · simp [cE, cE5, mW, pS, oN, iN, cN]
  · rcases j with _ | _ | _ | _ | _ | _ | _ | j
    · simp [cE, cE5, mW]
    · simp [cE, cE5, mW]
    · simp [cE, cE5, mW]
    · simp [cE, cE5, mW]
    · simp [cE, cE5, mW]
    · simp [cE, cE5, mW]
    · simp [cE, cE5, mW]
    · have e1 : (mW Z 1 c v) (4 + j) = Z (4 + j) := by funext i; exact mW_k (by omega)
      simp [cE, cE5, e1]
  · cases hq
theorem cU_live {c : Nat} {v : Int32} : cU G nc nm ad X Z L X (mW Z 2 c v) 1 (c) (.inr (4, [.ref (ad 0 (oN X c)), .int (X 6 c), .int (X 7 c), .int (X 4 c), .ref (ad 4 c), .int (X 3 c), .int (X 9 c), .int v])) := by
  refine ⟨fun q j => rfl, fun q j hq hd => ?_, by simp [cE, cE5, mW, pS, oN, cN]⟩
  rcases q with _ | _ | _ | _ | _ | _ | q
  · simp [cE, cE5, mW, pS, oN, iN, cN]
  · have hne : j ≠ c := fun z => hd.elim (fun y => y rfl) (fun y => y z)
    simp [cE, cE5, mW, pS, oN, iN, cN, hne]
  · simp [cE, cE5, mW, pS, oN, iN, cN]
  · simp [cE, cE5, mW, pS, oN, iN, cN]
  · simp [cE, cE5, mW, pS, oN, iN, cN]
  · rcases j with _ | _ | _ | _ | _ | _ | _ | j
    · simp [cE, cE5, mW]
    · simp [cE, cE5, mW]
    · simp [cE, cE5, mW]
    · simp [cE, cE5, mW]
    · simp [cE, cE5, mW]
    · simp [cE, cE5, mW]
    · simp [cE, cE5, mW]
    · have e1 : (mW Z 2 c v) (4 + j) = Z (4 + j) := by funext i; exact mW_k (by omega)
      simp [cE, cE5, e1]
  · cases hq
theorem cU_name {c : Nat} {v : Int32} : cU G nc nm ad X Z L (mW X 3 c v) Z 1 (c) (.inr (4, [.ref (ad 0 (oN X c)), .int (X 6 c), .int (X 7 c), .int (X 4 c), .ref (ad 4 c), .int v, .int (X 9 c), .int (Z 2 c)])) := by
  refine ⟨fun q j => by rcases q with _ | _ | _ | _ | _ | _ | q <;> first | rfl | simp [cV, iN, mW], fun q j hq hd => ?_, by simp [cE, cE5, mW, pS, oN, cN]⟩
  rcases q with _ | _ | _ | _ | _ | _ | q
  · simp [cE, cE5, mW, pS, oN, iN, cN]
  · have hne : j ≠ c := fun z => hd.elim (fun y => y rfl) (fun y => y z)
    simp [cE, cE5, mW, pS, oN, iN, cN, hne]
  · simp [cE, cE5, mW, pS, oN, iN, cN]
  · simp [cE, cE5, mW, pS, oN, iN, cN]
  · simp [cE, cE5, mW, pS, oN, iN, cN]
  · rcases j with _ | _ | _ | _ | _ | _ | _ | j
    · simp [cE, cE5, mW]
    · simp [cE, cE5, mW]
    · simp [cE, cE5, mW]
    · simp [cE, cE5, mW]
    · simp [cE, cE5, mW]
    · simp [cE, cE5, mW]
    · simp [cE, cE5, mW]
    · rfl
  · cases hq
theorem cU_kept {c : Nat} {v : Int32} : cU G nc nm ad X Z L (mW X 9 c v) Z 1 (c) (.inr (4, [.ref (ad 0 (oN X c)), .int (X 6 c), .int (X 7 c), .int (X 4 c), .ref (ad 4 c), .int (X 3 c), .int v, .int (Z 2 c)])) := by
  refine ⟨fun q j => by rcases q with _ | _ | _ | _ | _ | _ | q <;> first | rfl | simp [cV, iN, mW], fun q j hq hd => ?_, by simp [cE, cE5, mW, pS, oN, cN]⟩
  rcases q with _ | _ | _ | _ | _ | _ | q
  · simp [cE, cE5, mW, pS, oN, iN, cN]
  · have hne : j ≠ c := fun z => hd.elim (fun y => y rfl) (fun y => y z)
    simp [cE, cE5, mW, pS, oN, iN, cN, hne]
  · simp [cE, cE5, mW, pS, oN, iN, cN]
  · simp [cE, cE5, mW, pS, oN, iN, cN]
  · simp [cE, cE5, mW, pS, oN, iN, cN]
  · rcases j with _ | _ | _ | _ | _ | _ | _ | j
    · simp [cE, cE5, mW]
    · simp [cE, cE5, mW]
    · simp [cE, cE5, mW]
    · simp [cE, cE5, mW]
    · simp [cE, cE5, mW]
    · simp [cE, cE5, mW]
    · simp [cE, cE5, mW]
    · rfl
  · cases hq
theorem cU_iname {c : Nat} {v : Int32} : cU G nc nm ad X Z L (mW X 14 c v) Z 2 (c) (.inr (1, [.int (X 12 c), .int (if X 12 c = 1 then -1 else X 13 c), va_rf (if X 12 c = 1 then some (ad 0 (cN X c)) else none), .int (X 15 c), .int v])) := by
  refine ⟨fun q j => by rcases q with _ | _ | _ | _ | _ | _ | q <;> first | rfl | simp [cV, iN, mW], fun q j hq hd => ?_, by simp [cE, cE5, mW, pS, oN, cN]⟩
  rcases q with _ | _ | _ | _ | _ | _ | q
  · simp [cE, cE5, mW, pS, oN, iN, cN]
  · simp [cE, cE5, mW, pS, oN, iN, cN]
  · have hne : j ≠ c := fun z => hd.elim (fun y => y rfl) (fun y => y z)
    simp [cE, cE5, mW, pS, oN, iN, cN, hne]
  · simp [cE, cE5, mW, pS, oN, iN, cN]
  · simp [cE, cE5, mW, pS, oN, iN, cN]
  · rcases j with _ | _ | _ | _ | _ | _ | _ | j
    · simp [cE, cE5, mW]
    · simp [cE, cE5, mW]
    · simp [cE, cE5, mW]
    · simp [cE, cE5, mW]
    · simp [cE, cE5, mW]
    · simp [cE, cE5, mW]
    · simp [cE, cE5, mW]
    · rfl
  · cases hq
theorem cU_gone {v : Int32} : cU G nc nm ad X Z L X (mW Z 3 0 v) 5 (0) (.inr (7, [.ref (ad 5 1), .ref (ad 5 2), .ref (ad 5 3), .ref (ad 5 4), .int v])) := by
  refine ⟨fun q j => rfl, fun q j hq hd => ?_, by simp [cE, cE5, mW, pS, oN, cN]⟩
  rcases q with _ | _ | _ | _ | _ | _ | q
  · simp [cE, cE5, mW, pS, oN, iN, cN]
  · simp [cE, cE5, mW, pS, oN, iN, cN]
  · simp [cE, cE5, mW, pS, oN, iN, cN]
  · simp [cE, cE5, mW, pS, oN, iN, cN]
  · simp [cE, cE5, mW, pS, oN, iN, cN]
  · rcases j with _ | _ | _ | _ | _ | _ | _ | j
    · exact absurd hd (by decide)
    · simp [cE, cE5, mW]
    · simp [cE, cE5, mW]
    · simp [cE, cE5, mW]
    · simp [cE, cE5, mW]
    · simp [cE, cE5, mW]
    · simp [cE, cE5, mW]
    · have e1 : (mW Z 3 0 v) (4 + j) = Z (4 + j) := by funext i; exact mW_k (by omega)
      simp [cE, cE5, e1]
  · cases hq
theorem cU_grew {v : Int32} : cU G nc nm ad X Z L X (mW Z 3 1 v) 5 (3) (.inr (5, [.ref (ad 5 1), .int v])) := by
  refine ⟨fun q j => rfl, fun q j hq hd => ?_, by simp [cE, cE5, mW, pS, oN, cN]⟩
  rcases q with _ | _ | _ | _ | _ | _ | q
  · simp [cE, cE5, mW, pS, oN, iN, cN]
  · simp [cE, cE5, mW, pS, oN, iN, cN]
  · simp [cE, cE5, mW, pS, oN, iN, cN]
  · simp [cE, cE5, mW, pS, oN, iN, cN]
  · simp [cE, cE5, mW, pS, oN, iN, cN]
  · rcases j with _ | _ | _ | _ | _ | _ | _ | j
    · simp [cE, cE5, mW]
    · simp [cE, cE5, mW]
    · simp [cE, cE5, mW]
    · exact absurd hd (by decide)
    · simp [cE, cE5, mW]
    · simp [cE, cE5, mW]
    · simp [cE, cE5, mW]
    · have e1 : (mW Z 3 1 v) (4 + j) = Z (4 + j) := by funext i; exact mW_k (by omega)
      simp [cE, cE5, e1]
  · cases hq
theorem cU_oc {v : Int32} : cU G nc nm ad X Z L X (mW Z 3 2 v) 5 (2) (.inr (6, [.int v, .int (Z 3 3)])) := by
  refine ⟨fun q j => rfl, fun q j hq hd => ?_, by simp [cE, cE5, mW, pS, oN, cN]⟩
  rcases q with _ | _ | _ | _ | _ | _ | q
  · simp [cE, cE5, mW, pS, oN, iN, cN]
  · simp [cE, cE5, mW, pS, oN, iN, cN]
  · simp [cE, cE5, mW, pS, oN, iN, cN]
  · simp [cE, cE5, mW, pS, oN, iN, cN]
  · simp [cE, cE5, mW, pS, oN, iN, cN]
  · rcases j with _ | _ | _ | _ | _ | _ | _ | j
    · simp [cE, cE5, mW]
    · simp [cE, cE5, mW]
    · exact absurd hd (by decide)
    · simp [cE, cE5, mW]
    · simp [cE, cE5, mW]
    · simp [cE, cE5, mW]
    · simp [cE, cE5, mW]
    · have e1 : (mW Z 3 2 v) (4 + j) = Z (4 + j) := by funext i; exact mW_k (by omega)
      simp [cE, cE5, e1]
  · cases hq
theorem cU_dn {v : Int32} : cU G nc nm ad X Z L X (mW Z 3 3 v) 5 (2) (.inr (6, [.int (Z 3 2), .int v])) := by
  refine ⟨fun q j => rfl, fun q j hq hd => ?_, by simp [cE, cE5, mW, pS, oN, cN]⟩
  rcases q with _ | _ | _ | _ | _ | _ | q
  · simp [cE, cE5, mW, pS, oN, iN, cN]
  · simp [cE, cE5, mW, pS, oN, iN, cN]
  · simp [cE, cE5, mW, pS, oN, iN, cN]
  · simp [cE, cE5, mW, pS, oN, iN, cN]
  · simp [cE, cE5, mW, pS, oN, iN, cN]
  · rcases j with _ | _ | _ | _ | _ | _ | _ | j
    · simp [cE, cE5, mW]
    · simp [cE, cE5, mW]
    · exact absurd hd (by decide)
    · simp [cE, cE5, mW]
    · simp [cE, cE5, mW]
    · simp [cE, cE5, mW]
    · simp [cE, cE5, mW]
    · have e1 : (mW Z 3 3 v) (4 + j) = Z (4 + j) := by funext i; exact mW_k (by omega)
      simp [cE, cE5, e1]
  · cases hq
theorem cU_sz {v : Int32} : cU G nc nm ad X Z L X (mW Z 3 4 v) 5 (4) (.inr (0, [.ref (ad 5 1), .ref (ad 5 7), .ref (ad 5 8), .ref (ad 5 9), .ref (ad 5 10), .ref (ad 5 11), .ref (ad 5 12), .int v])) := by
  refine ⟨fun q j => rfl, fun q j hq hd => ?_, by simp [cE, cE5, mW, pS, oN, cN]⟩
  rcases q with _ | _ | _ | _ | _ | _ | q
  · simp [cE, cE5, mW, pS, oN, iN, cN]
  · simp [cE, cE5, mW, pS, oN, iN, cN]
  · simp [cE, cE5, mW, pS, oN, iN, cN]
  · simp [cE, cE5, mW, pS, oN, iN, cN]
  · simp [cE, cE5, mW, pS, oN, iN, cN]
  · rcases j with _ | _ | _ | _ | _ | _ | _ | j
    · simp [cE, cE5, mW]
    · simp [cE, cE5, mW]
    · simp [cE, cE5, mW]
    · simp [cE, cE5, mW]
    · exact absurd hd (by decide)
    · simp [cE, cE5, mW]
    · simp [cE, cE5, mW]
    · have e1 : (mW Z 3 4 v) (4 + j) = Z (4 + j) := by funext i; exact mW_k (by omega)
      simp [cE, cE5, e1]
  · cases hq
theorem cU_arr {a n : Nat} {v : Int32} : cU G nc nm ad X Z L X (mW Z (4 + a) n v) 5 (a + 7) (.inl (G.2.1 (if a = 5 then 1 else 0), (if a = 0 then 8 else 24), .inl (upd (Z (4 + a)) n v))) := by
  have e0 : ∀ k, k < 4 → ∀ i, mW Z (4 + a) n v k i = Z k i := fun k hk i => mW_k (by omega)
  refine ⟨fun q j => rfl, fun q j hq hd => ?_, ?_⟩
  · rcases q with _ | _ | _ | _ | _ | _ | q
    · simp [cE, e0]
    · simp [cE, e0]
    · simp [cE]
    · simp [cE]
    · simp [cE]
    · rcases j with _ | _ | _ | _ | _ | _ | _ | j
      · simp [cE, cE5, e0]
      · simp [cE, cE5]
      · simp [cE, cE5, e0]
      · simp [cE, cE5, e0]
      · simp [cE, cE5, e0]
      · simp [cE, cE5]
      · simp [cE, cE5]
      · have hne : j ≠ a := fun z => hd.elim (fun y => y rfl) (fun y => y (by rw [z]))
        have e1 : mW Z (4 + a) n v (4 + j) = Z (4 + j) := by funext i; exact mW_k (by omega)
        simp [cE, cE5, e1]
    · cases hq
  · have e1 : mW Z (4 + a) n v (4 + a) = upd (Z (4 + a)) n v := by
      funext i
      by_cases hi : i = n
      · subst hi; rw [mW_at]; simp [upd]
      · rw [mW_i hi]; simp [upd, hi]
    simp [cE, cE5, e1]
theorem s_iconst {n : Int} {v : Int32} (d : decode M.2.1 pc = .ok (.iconst n, 1)) (hv : Int32.ofInt n = v) (k : VS G M fr lo (pc + 1) lv (.int v :: st) nc nm ad X Z L mc ms Q) : VS G M fr lo pc lv st nc nm ad X Z L mc ms Q := fun h hP => v_iconst d hv (k h hP)
theorem s_bipush {n : Int} {v : Int32} (d : decode M.2.1 pc = .ok (.bipush n, 2)) (hv : (Int8.ofInt n).toInt32 = v) (k : VS G M fr lo (pc + 2) lv (.int v :: st) nc nm ad X Z L mc ms Q) : VS G M fr lo pc lv st nc nm ad X Z L mc ms Q := fun h hP => v_bipush d hv (k h hP)
theorem s_sipush {n : Int} {v : Int32} (d : decode M.2.1 pc = .ok (.sipush n, 3)) (hv : (Int16.ofInt n).toInt32 = v) (k : VS G M fr lo (pc + 3) lv (.int v :: st) nc nm ad X Z L mc ms Q) : VS G M fr lo pc lv st nc nm ad X Z L mc ms Q := fun h hP => v_sipush d hv (k h hP)
theorem s_null  (d : decode M.2.1 pc = .ok (.aconst_null, 1)) (k : VS G M fr lo (pc + 1) lv (.null :: st) nc nm ad X Z L mc ms Q) : VS G M fr lo pc lv st nc nm ad X Z L mc ms Q := fun h hP => v_null d (k h hP)
theorem s_iload_n {i : Fin 4} {x : Int32} (d : decode M.2.1 pc = .ok (.iload_n i, 1)) (hl : vGet lv i.val = some (.int x)) (k : VS G M fr lo (pc + 1) lv (.int x :: st) nc nm ad X Z L mc ms Q) : VS G M fr lo pc lv st nc nm ad X Z L mc ms Q := fun h hP => v_iload_n d hl (k h hP)
theorem s_iload {i : Nat} {x : Int32} (d : decode M.2.1 pc = .ok (.iload i, 2)) (hl : vGet lv i = some (.int x)) (k : VS G M fr lo (pc + 2) lv (.int x :: st) nc nm ad X Z L mc ms Q) : VS G M fr lo pc lv st nc nm ad X Z L mc ms Q := fun h hP => v_iload d hl (k h hP)
theorem s_aload_n {i : Fin 4} {v : Value} (d : decode M.2.1 pc = .ok (.aload_n i, 1)) (hl : vGet lv i.val = some v) (hv : vIsR v = true) (k : VS G M fr lo (pc + 1) lv (v :: st) nc nm ad X Z L mc ms Q) : VS G M fr lo pc lv st nc nm ad X Z L mc ms Q := fun h hP => v_aload_n d hl hv (k h hP)
theorem s_aload {i : Nat} {v : Value} (d : decode M.2.1 pc = .ok (.aload i, 2)) (hl : vGet lv i = some v) (hv : vIsR v = true) (k : VS G M fr lo (pc + 2) lv (v :: st) nc nm ad X Z L mc ms Q) : VS G M fr lo pc lv st nc nm ad X Z L mc ms Q := fun h hP => v_aload d hl hv (k h hP)
theorem s_istore_n {i : Fin 4} {x : Int32} (d : decode M.2.1 pc = .ok (.istore_n i, 1)) (hn : i.val < M.2.2.1) (hl : vRep lv i.val (.int x) false = some lv') (k : VS G M fr lo (pc + 1) lv' st nc nm ad X Z L mc ms Q) : VS G M fr lo pc lv (.int x :: st) nc nm ad X Z L mc ms Q := fun h hP => v_istore_n d hn hl (k h hP)
theorem s_istore {i : Nat} {x : Int32} (d : decode M.2.1 pc = .ok (.istore i, 2)) (hn : i < M.2.2.1) (hl : vRep lv i (.int x) false = some lv') (k : VS G M fr lo (pc + 2) lv' st nc nm ad X Z L mc ms Q) : VS G M fr lo pc lv (.int x :: st) nc nm ad X Z L mc ms Q := fun h hP => v_istore d hn hl (k h hP)
theorem s_astore_n {i : Fin 4} {v : Value} (d : decode M.2.1 pc = .ok (.astore_n i, 1)) (hv : vIsR v = true) (hn : i.val < M.2.2.1) (hl : vRep lv i.val v false = some lv') (k : VS G M fr lo (pc + 1) lv' st nc nm ad X Z L mc ms Q) : VS G M fr lo pc lv (v :: st) nc nm ad X Z L mc ms Q := fun h hP => v_astore_n d hv hn hl (k h hP)
theorem s_astore {i : Nat} {v : Value} (d : decode M.2.1 pc = .ok (.astore i, 2)) (hv : vIsR v = true) (hn : i < M.2.2.1) (hl : vRep lv i v false = some lv') (k : VS G M fr lo (pc + 2) lv' st nc nm ad X Z L mc ms Q) : VS G M fr lo pc lv (v :: st) nc nm ad X Z L mc ms Q := fun h hP => v_astore d hv hn hl (k h hP)
theorem s_iinc {i : Nat} {n : Int} {x v : Int32} (d : decode M.2.1 pc = .ok (.iinc i n, 3)) (hx : vGet lv i = some (.int x)) (hv : x + Int32.ofInt n = v) (hn : i < M.2.2.1) (hl : vRep lv i (.int v) false = some lv') (k : VS G M fr lo (pc + 3) lv' st nc nm ad X Z L mc ms Q) : VS G M fr lo pc lv st nc nm ad X Z L mc ms Q := fun h hP => v_iinc d hx hv hn hl (k h hP)
theorem s_iadd {x y : Int32} (d : decode M.2.1 pc = .ok (.iadd, 1)) (k : VS G M fr lo (pc + 1) lv (.int (x + y) :: st) nc nm ad X Z L mc ms Q) : VS G M fr lo pc lv (.int y :: .int x :: st) nc nm ad X Z L mc ms Q := fun h hP => v_iadd d (k h hP)
theorem s_isub {x y : Int32} (d : decode M.2.1 pc = .ok (.isub, 1)) (k : VS G M fr lo (pc + 1) lv (.int (x - y) :: st) nc nm ad X Z L mc ms Q) : VS G M fr lo pc lv (.int y :: .int x :: st) nc nm ad X Z L mc ms Q := fun h hP => v_isub d (k h hP)
theorem s_imul {x y : Int32} (d : decode M.2.1 pc = .ok (.imul, 1)) (k : VS G M fr lo (pc + 1) lv (.int (x * y) :: st) nc nm ad X Z L mc ms Q) : VS G M fr lo pc lv (.int y :: .int x :: st) nc nm ad X Z L mc ms Q := fun h hP => v_imul d (k h hP)
theorem s_iand {x y : Int32} (d : decode M.2.1 pc = .ok (.iand, 1)) (k : VS G M fr lo (pc + 1) lv (.int (x &&& y) :: st) nc nm ad X Z L mc ms Q) : VS G M fr lo pc lv (.int y :: .int x :: st) nc nm ad X Z L mc ms Q := fun h hP => v_iand d (k h hP)
theorem s_ior {x y : Int32} (d : decode M.2.1 pc = .ok (.ior, 1)) (k : VS G M fr lo (pc + 1) lv (.int (x ||| y) :: st) nc nm ad X Z L mc ms Q) : VS G M fr lo pc lv (.int y :: .int x :: st) nc nm ad X Z L mc ms Q := fun h hP => v_ior d (k h hP)
theorem s_ishl {x y : Int32} (d : decode M.2.1 pc = .ok (.ishl, 1)) (k : VS G M fr lo (pc + 1) lv (.int (x <<< (y &&& 31)) :: st) nc nm ad X Z L mc ms Q) : VS G M fr lo pc lv (.int y :: .int x :: st) nc nm ad X Z L mc ms Q := fun h hP => v_ishl d (k h hP)
theorem s_ishr {x y : Int32} (d : decode M.2.1 pc = .ok (.ishr, 1)) (k : VS G M fr lo (pc + 1) lv (.int (x >>> (y &&& 31)) :: st) nc nm ad X Z L mc ms Q) : VS G M fr lo pc lv (.int y :: .int x :: st) nc nm ad X Z L mc ms Q := fun h hP => v_ishr d (k h hP)
theorem s_i2l {x : Int32} (d : decode M.2.1 pc = .ok (.i2l, 1)) (k : VS G M fr lo (pc + 1) lv (.long x.toInt64 :: st) nc nm ad X Z L mc ms Q) : VS G M fr lo pc lv (.int x :: st) nc nm ad X Z L mc ms Q := fun h hP => v_i2l d (k h hP)
theorem s_lcmp {x y : Int64} (d : decode M.2.1 pc = .ok (.lcmp, 1)) (k : VS G M fr lo (pc + 1) lv (.int (lg_cmp x y) :: st) nc nm ad X Z L mc ms Q) : VS G M fr lo pc lv (.long y :: .long x :: st) nc nm ad X Z L mc ms Q := fun h hP => v_lcmp d (k h hP)
theorem s_dup {v : Value} (d : decode M.2.1 pc = .ok (.dup, 1)) (hv : v.category = 1) (k : VS G M fr lo (pc + 1) lv (v :: v :: st) nc nm ad X Z L mc ms Q) : VS G M fr lo pc lv (v :: st) nc nm ad X Z L mc ms Q := fun h hP => v_dup d hv (k h hP)
theorem s_pop {v : Value} (d : decode M.2.1 pc = .ok (.pop, 1)) (hv : v.category = 1) (k : VS G M fr lo (pc + 1) lv st nc nm ad X Z L mc ms Q) : VS G M fr lo pc lv (v :: st) nc nm ad X Z L mc ms Q := fun h hP => v_pop d hv (k h hP)
theorem s_dup_x1 {v w : Value} (d : decode M.2.1 pc = .ok (.dup_x1, 1)) (hv : v.category = 1) (hw : w.category = 1) (k : VS G M fr lo (pc + 1) lv (v :: w :: v :: st) nc nm ad X Z L mc ms Q) : VS G M fr lo pc lv (v :: w :: st) nc nm ad X Z L mc ms Q := fun h hP => v_dup_x1 d hv hw (k h hP)
theorem s_dup2 {v w : Value} (d : decode M.2.1 pc = .ok (.dup2, 1)) (hv : v.category = 1) (hw : w.category = 1) (k : VS G M fr lo (pc + 1) lv (v :: w :: v :: w :: st) nc nm ad X Z L mc ms Q) : VS G M fr lo pc lv (v :: w :: st) nc nm ad X Z L mc ms Q := fun h hP => v_dup2 d hv hw (k h hP)
theorem s_if_eq {x : Int32} {off : Int} {tgt : Nat} (d : decode M.2.1 pc = .ok (.ifCond .eq off, 3)) (ht : (pc : Int) + off = (tgt : Int)) (kt : x = 0 → VS G M fr lo tgt lv st nc nm ad X Z L mc ms Q) (kf : ¬ x = 0 → VS G M fr lo (pc + 3) lv st nc nm ad X Z L mc ms Q) : VS G M fr lo pc lv (.int x :: st) nc nm ad X Z L mc ms Q := fun h hP => v_if_eq d ht (fun z => kt z h hP) (fun z => kf z h hP)
theorem s_icmp_eq {x y : Int32} {off : Int} {tgt : Nat} (d : decode M.2.1 pc = .ok (.if_icmp .eq off, 3)) (ht : (pc : Int) + off = (tgt : Int)) (kt : x = y → VS G M fr lo tgt lv st nc nm ad X Z L mc ms Q) (kf : ¬ x = y → VS G M fr lo (pc + 3) lv st nc nm ad X Z L mc ms Q) : VS G M fr lo pc lv (.int y :: .int x :: st) nc nm ad X Z L mc ms Q := fun h hP => v_icmp_eq d ht (fun z => kt z h hP) (fun z => kf z h hP)
theorem s_if_ne {x : Int32} {off : Int} {tgt : Nat} (d : decode M.2.1 pc = .ok (.ifCond .ne off, 3)) (ht : (pc : Int) + off = (tgt : Int)) (kt : ¬ x = 0 → VS G M fr lo tgt lv st nc nm ad X Z L mc ms Q) (kf : x = 0 → VS G M fr lo (pc + 3) lv st nc nm ad X Z L mc ms Q) : VS G M fr lo pc lv (.int x :: st) nc nm ad X Z L mc ms Q := fun h hP => v_if_ne d ht (fun z => kt z h hP) (fun z => kf z h hP)
theorem s_icmp_ne {x y : Int32} {off : Int} {tgt : Nat} (d : decode M.2.1 pc = .ok (.if_icmp .ne off, 3)) (ht : (pc : Int) + off = (tgt : Int)) (kt : ¬ x = y → VS G M fr lo tgt lv st nc nm ad X Z L mc ms Q) (kf : x = y → VS G M fr lo (pc + 3) lv st nc nm ad X Z L mc ms Q) : VS G M fr lo pc lv (.int y :: .int x :: st) nc nm ad X Z L mc ms Q := fun h hP => v_icmp_ne d ht (fun z => kt z h hP) (fun z => kf z h hP)
theorem s_if_lt {x : Int32} {off : Int} {tgt : Nat} (d : decode M.2.1 pc = .ok (.ifCond .lt off, 3)) (ht : (pc : Int) + off = (tgt : Int)) (kt : x < 0 → VS G M fr lo tgt lv st nc nm ad X Z L mc ms Q) (kf : ¬ x < 0 → VS G M fr lo (pc + 3) lv st nc nm ad X Z L mc ms Q) : VS G M fr lo pc lv (.int x :: st) nc nm ad X Z L mc ms Q := fun h hP => v_if_lt d ht (fun z => kt z h hP) (fun z => kf z h hP)
theorem s_icmp_lt {x y : Int32} {off : Int} {tgt : Nat} (d : decode M.2.1 pc = .ok (.if_icmp .lt off, 3)) (ht : (pc : Int) + off = (tgt : Int)) (kt : x < y → VS G M fr lo tgt lv st nc nm ad X Z L mc ms Q) (kf : ¬ x < y → VS G M fr lo (pc + 3) lv st nc nm ad X Z L mc ms Q) : VS G M fr lo pc lv (.int y :: .int x :: st) nc nm ad X Z L mc ms Q := fun h hP => v_icmp_lt d ht (fun z => kt z h hP) (fun z => kf z h hP)
theorem s_if_ge {x : Int32} {off : Int} {tgt : Nat} (d : decode M.2.1 pc = .ok (.ifCond .ge off, 3)) (ht : (pc : Int) + off = (tgt : Int)) (kt : 0 ≤ x → VS G M fr lo tgt lv st nc nm ad X Z L mc ms Q) (kf : ¬ 0 ≤ x → VS G M fr lo (pc + 3) lv st nc nm ad X Z L mc ms Q) : VS G M fr lo pc lv (.int x :: st) nc nm ad X Z L mc ms Q := fun h hP => v_if_ge d ht (fun z => kt z h hP) (fun z => kf z h hP)
theorem s_icmp_ge {x y : Int32} {off : Int} {tgt : Nat} (d : decode M.2.1 pc = .ok (.if_icmp .ge off, 3)) (ht : (pc : Int) + off = (tgt : Int)) (kt : y ≤ x → VS G M fr lo tgt lv st nc nm ad X Z L mc ms Q) (kf : ¬ y ≤ x → VS G M fr lo (pc + 3) lv st nc nm ad X Z L mc ms Q) : VS G M fr lo pc lv (.int y :: .int x :: st) nc nm ad X Z L mc ms Q := fun h hP => v_icmp_ge d ht (fun z => kt z h hP) (fun z => kf z h hP)
theorem s_if_gt {x : Int32} {off : Int} {tgt : Nat} (d : decode M.2.1 pc = .ok (.ifCond .gt off, 3)) (ht : (pc : Int) + off = (tgt : Int)) (kt : 0 < x → VS G M fr lo tgt lv st nc nm ad X Z L mc ms Q) (kf : ¬ 0 < x → VS G M fr lo (pc + 3) lv st nc nm ad X Z L mc ms Q) : VS G M fr lo pc lv (.int x :: st) nc nm ad X Z L mc ms Q := fun h hP => v_if_gt d ht (fun z => kt z h hP) (fun z => kf z h hP)
theorem s_icmp_gt {x y : Int32} {off : Int} {tgt : Nat} (d : decode M.2.1 pc = .ok (.if_icmp .gt off, 3)) (ht : (pc : Int) + off = (tgt : Int)) (kt : y < x → VS G M fr lo tgt lv st nc nm ad X Z L mc ms Q) (kf : ¬ y < x → VS G M fr lo (pc + 3) lv st nc nm ad X Z L mc ms Q) : VS G M fr lo pc lv (.int y :: .int x :: st) nc nm ad X Z L mc ms Q := fun h hP => v_icmp_gt d ht (fun z => kt z h hP) (fun z => kf z h hP)
theorem s_if_le {x : Int32} {off : Int} {tgt : Nat} (d : decode M.2.1 pc = .ok (.ifCond .le off, 3)) (ht : (pc : Int) + off = (tgt : Int)) (kt : x ≤ 0 → VS G M fr lo tgt lv st nc nm ad X Z L mc ms Q) (kf : ¬ x ≤ 0 → VS G M fr lo (pc + 3) lv st nc nm ad X Z L mc ms Q) : VS G M fr lo pc lv (.int x :: st) nc nm ad X Z L mc ms Q := fun h hP => v_if_le d ht (fun z => kt z h hP) (fun z => kf z h hP)
theorem s_icmp_le {x y : Int32} {off : Int} {tgt : Nat} (d : decode M.2.1 pc = .ok (.if_icmp .le off, 3)) (ht : (pc : Int) + off = (tgt : Int)) (kt : x ≤ y → VS G M fr lo tgt lv st nc nm ad X Z L mc ms Q) (kf : ¬ x ≤ y → VS G M fr lo (pc + 3) lv st nc nm ad X Z L mc ms Q) : VS G M fr lo pc lv (.int y :: .int x :: st) nc nm ad X Z L mc ms Q := fun h hP => v_icmp_le d ht (fun z => kt z h hP) (fun z => kf z h hP)
theorem s_acmp_eq {rx ry : Option Nat} {off : Int} {tgt : Nat} (d : decode M.2.1 pc = .ok (.if_acmp .eq off, 3)) (ht : (pc : Int) + off = (tgt : Int)) (kt : rx = ry → VS G M fr lo tgt lv st nc nm ad X Z L mc ms Q) (kf : ¬ rx = ry → VS G M fr lo (pc + 3) lv st nc nm ad X Z L mc ms Q) : VS G M fr lo pc lv (va_rf ry :: va_rf rx :: st) nc nm ad X Z L mc ms Q := fun h hP => v_acmp_eq d ht (fun z => kt z h hP) (fun z => kf z h hP)
theorem s_acmp_ne {rx ry : Option Nat} {off : Int} {tgt : Nat} (d : decode M.2.1 pc = .ok (.if_acmp .ne off, 3)) (ht : (pc : Int) + off = (tgt : Int)) (kt : ¬ rx = ry → VS G M fr lo tgt lv st nc nm ad X Z L mc ms Q) (kf : rx = ry → VS G M fr lo (pc + 3) lv st nc nm ad X Z L mc ms Q) : VS G M fr lo pc lv (va_rf ry :: va_rf rx :: st) nc nm ad X Z L mc ms Q := fun h hP => v_acmp_ne d ht (fun z => kt z h hP) (fun z => kf z h hP)
theorem s_goto {off : Int} {tgt : Nat} (d : decode M.2.1 pc = .ok (.goto off, 3)) (ht : (pc : Int) + off = (tgt : Int)) (k : VS G M fr lo tgt lv st nc nm ad X Z L mc ms Q) : VS G M fr lo pc lv st nc nm ad X Z L mc ms Q := fun h hP => v_goto d ht (k h hP)
theorem s_ifnull {r : Option Nat} {off : Int} {tgt : Nat} (d : decode M.2.1 pc = .ok (.ifnull off, 3)) (ht : (pc : Int) + off = (tgt : Int)) (kn : r = none → VS G M fr lo tgt lv st nc nm ad X Z L mc ms Q) (ks : ∀ a, r = some a → VS G M fr lo (pc + 3) lv st nc nm ad X Z L mc ms Q) : VS G M fr lo pc lv (va_rf r :: st) nc nm ad X Z L mc ms Q := fun h hP => v_ifnull d ht (fun z => kn z h hP) (fun a z => ks a z h hP)
theorem s_ifnonnull {r : Option Nat} {off : Int} {tgt : Nat} (d : decode M.2.1 pc = .ok (.ifnonnull off, 3)) (ht : (pc : Int) + off = (tgt : Int)) (kn : r = none → VS G M fr lo (pc + 3) lv st nc nm ad X Z L mc ms Q) (ks : ∀ a, r = some a → VS G M fr lo tgt lv st nc nm ad X Z L mc ms Q) : VS G M fr lo pc lv (va_rf r :: st) nc nm ad X Z L mc ms Q := fun h hP => v_ifnonnull d ht (fun z => kn z h hP) (fun a z => ks a z h hP)
theorem s_iincw {i : Nat} {n : Int} {x w : Int32} (d : decode M.2.1 pc = .ok (.iinc i n, 3)) (hx : vGet lv i = some (.int x)) (hw : Int32.ofInt n = w) (hn : i < M.2.2.1) (hl : vRep lv i (.int (x + w)) false = some lv') (k : VS G M fr lo (pc + 3) lv' st nc nm ad X Z L mc ms Q) : VS G M fr lo pc lv st nc nm ad X Z L mc ms Q := fun h hP => v_iincw d hx hw hn hl (k h hP)
theorem s_at (pc' : Nat) (e : pc = pc') (k : VS G M fr lo pc' lv st nc nm ad X Z L mc ms Q) : VS G M fr lo pc lv st nc nm ad X Z L mc ms Q := e ▸ k
theorem s_keep {lv1 : List (Nat × Value)} (n : Nat) (e : lv.take n = lv1) (k : VS G M fr lo pc lv1 st nc nm ad X Z L mc ms Q) : VS G M fr lo pc lv st nc nm ad X Z L mc ms Q := fun h hP => v_keep n e (k h hP)
theorem s_tableIn {x : Int32} {dflt lo0 hi off : Int} {offs : Array Int} {len tgt : Nat} (d : decode M.2.1 pc = .ok (.tableswitch dflt lo0 hi offs, len)) (h1 : ¬ x.toInt < lo0) (h2 : ¬ hi < x.toInt) (ho : offs[(x.toInt - lo0).toNat]? = some off) (ht : (pc : Int) + off = (tgt : Int)) (kk : VS G M fr lo tgt lv st nc nm ad X Z L mc ms Q) : VS G M fr lo pc lv (.int x :: st) nc nm ad X Z L mc ms Q := fun h hP => v_tableIn d h1 h2 ho ht (kk h hP)
theorem s_tableOut {x : Int32} {dflt lo0 hi : Int} {offs : Array Int} {len tgt : Nat} (d : decode M.2.1 pc = .ok (.tableswitch dflt lo0 hi offs, len)) (h1 : x.toInt < lo0 ∨ hi < x.toInt) (ht : (pc : Int) + dflt = (tgt : Int)) (kk : VS G M fr lo tgt lv st nc nm ad X Z L mc ms Q) : VS G M fr lo pc lv (.int x :: st) nc nm ad X Z L mc ms Q := fun h hP => v_tableOut d h1 ht (kk h hP)
theorem s_get {ci N idx : Nat} {fs : List Value} {v : Value} {ref C : String} {T : u_T} (q i : Nat) (d : decode M.2.1 pc = .ok (.getfield idx, 3)) (hv : cV X nc nm q i = true) (he : cE G ad X Z L q i = .inl (.inr (ci, fs))) (hc : vCl[ci]? = some (C, T, N)) (hin : ∀ w ∈ u_ws C T N, w ∈ vT) (k : Nat) (hk : k < N) (hw : Cond.fieldLink M.1.cls idx ref (T k).2.1 (T k).2.2.1 ∈ vT) (hs : (T k).1 = ref ∨ Cond.sameField ref (T k).1 (T k).2.1 (T k).2.2.1 ∈ vT) (hf : fs[k]? = some v) (kk : VS G M fr lo (pc + 3) lv (v :: st) nc nm ad X Z L mc ms Q) : VS G M fr lo pc lv (.ref (ad q i) :: st) nc nm ad X Z L mc ms Q := fun h hP => v_get d (hP.o hv he).1 (hP.o hv he).2 hc hin k hk hw hs hf (kk h hP)
theorem s_put {ci N idx : Nat} {fs fs' : List Value} {v : Value} {ref C : String} {T : u_T} {ty0 : Nat → FieldType} (q i : Nat) (d : decode M.2.1 pc = .ok (.putfield idx, 3)) (hv : cV X nc nm q i = true) (he : cE G ad X Z L q i = .inl (.inr (ci, fs))) (hc : vCl[ci]? = some (C, T, N)) (hin : ∀ w ∈ u_ws C T N, w ∈ vT) (hty : ∀ k, k < N → parseFieldDescriptor (T k).2.2.1 = some (ty0 k)) (hnm : ∀ a, a < N → ∀ b, b < N → a ≠ b → (T a).2.1 ≠ (T b).2.1) (k : Nat) (hk : k < N) (hw : Cond.fieldLink M.1.cls idx ref (T k).2.1 (T k).2.2.1 ∈ vT) (hs : (T k).1 = ref ∨ Cond.sameField ref (T k).1 (T k).2.1 (T k).2.2.1 ∈ vT) (hfin : (T k).2.2.2 = false ∨ ((T k).2.2.2 = true ∧ M.1.name = "<init>" ∧ (T k).1 = M.1.cls)) (hn : narrow (ty0 k) v = v) (hfit : fits (ty0 k) v = true) (hf : vSetF fs k v = some fs') (hU : cU G nc nm ad X Z L X1 Z1 q i (.inr (ci, fs'))) (kk : VS G M fr lo (pc + 3) lv st nc nm ad X1 Z1 L mc ms Q) : VS G M fr lo pc lv (v :: .ref (ad q i) :: st) nc nm ad X Z L mc ms Q := fun h hP => v_put d (hP.o hv he).1 (hP.o hv he).2 hc hin hty hnm k hk hw hs hfin hn hfit hf (kk _ (hP.put hv he (fun c f z => by cases z; exact ⟨_, rfl⟩) hU))
theorem s_ald {x : Int32} (a n : Nat) (d : decode M.2.1 pc = .ok (.iaload, 1)) (ha : a < 6 ∧ a ≠ 5) (hx : x = nI n) (hn : n < if a = 0 then 8 else 24) (kk : VS G M fr lo (pc + 1) lv (.int (Z (4 + a) n) :: st) nc nm ad X Z L mc ms Q) : VS G M fr lo pc lv (.int x :: .ref (ad 5 (a + 7)) :: st) nc nm ad X Z L mc ms Q := by
  intro h hP
  have k1 := hP.o (k := 5) (i := a + 7) (decide_eq_true (show a + 7 < 13 by omega)) rfl
  simp only [ha.2, if_true, if_false] at k1
  have hl : (if a = 0 then 8 else 24) < 2 ^ 31 := by split <;> decide
  refine v_iald d k1.1 k1.2 (by rw [hx]; exact vp_in_nI hn hl) ?_
  rw [hx, nI_clamp (by omega)]
  exact kk h hP
theorem s_zald {x : Int32} (a n : Nat) (d : decode M.2.1 pc = .ok (.baload, 1)) (ha : a < 6 ∧ a = 5) (hx : x = nI n) (hn : n < 24) (kk : VS G M fr lo (pc + 1) lv (.int (Z (4 + 5) n) :: st) nc nm ad X Z L mc ms Q) : VS G M fr lo pc lv (.int x :: .ref (ad 5 (5 + 7)) :: st) nc nm ad X Z L mc ms Q := by
  intro h hP
  have k1 := hP.o (k := 5) (i := 5 + 7) (decide_eq_true (show 5 + 7 < 13 by decide)) rfl
  have hl : (24 : Nat) < 2 ^ 31 := by decide
  refine v_zald d k1.1 k1.2 (by rw [hx]; exact vp_in_nI hn hl) ?_
  rw [hx, nI_clamp (by omega)]
  exact kk h hP
theorem s_ast {x y : Int32} (a n : Nat) (d : decode M.2.1 pc = .ok (.iastore, 1)) (ha : a < 6 ∧ a ≠ 5) (hx : x = nI n) (hn : n < if a = 0 then 8 else 24) (kk : VS G M fr lo (pc + 1) lv st nc nm ad X (mW Z (4 + a) n y) L mc ms Q) : VS G M fr lo pc lv (.int y :: .int x :: .ref (ad 5 (a + 7)) :: st) nc nm ad X Z L mc ms Q := by
  intro h hP
  have hv : cV X nc nm 5 (a + 7) = true := decide_eq_true (show a + 7 < 13 by omega)
  have k1 := hP.o (k := 5) (i := a + 7) hv rfl
  have k2 := hP.put (k := 5) (i := a + 7) hv rfl (fun c f z => nomatch z) (cU_arr (G := G) (nc := nc) (nm := nm) (ad := ad) (X := X) (Z := Z) (L := L) (a := a) (n := n) (v := y))
  simp only [ha.2, if_true, if_false] at k1 k2
  have hl : (if a = 0 then 8 else 24) < 2 ^ 31 := by split <;> decide
  refine v_iast d k1.1 k1.2 (by rw [hx]; exact vp_in_nI hn hl) ?_
  rw [hx, nI_clamp (by omega)]
  exact kk _ k2
theorem s_zast {x y : Int32} (a n : Nat) (d : decode M.2.1 pc = .ok (.bastore, 1)) (ha : a < 6 ∧ a = 5) (hx : x = nI n) (hn : n < 24) (hy : vp_nar .boolean y = y) (kk : VS G M fr lo (pc + 1) lv st nc nm ad X (mW Z (4 + 5) n y) L mc ms Q) : VS G M fr lo pc lv (.int y :: .int x :: .ref (ad 5 (5 + 7)) :: st) nc nm ad X Z L mc ms Q := by
  intro h hP
  have hv : cV X nc nm 5 (5 + 7) = true := decide_eq_true (show 5 + 7 < 13 by decide)
  have k1 := hP.o (k := 5) (i := 5 + 7) hv rfl
  have k2 := hP.put (k := 5) (i := 5 + 7) hv rfl (fun c f z => nomatch z) (cU_arr (G := G) (nc := nc) (nm := nm) (ad := ad) (X := X) (Z := Z) (L := L) (a := 5) (n := n) (v := y))
  have hl : (24 : Nat) < 2 ^ 31 := by decide
  refine v_zast d k1.1 k1.2 (by rw [hx]; exact vp_in_nI hn hl) hy ?_
  rw [hx, nI_clamp (by omega)]
  exact kk _ k2
theorem s_cast {ci idx : Nat} {fs : List Value} {w : vw_C} {nmm : String} (q i : Nat) (d : decode M.2.1 pc = .ok (.checkcast idx, 3)) (hv : cV X nc nm q i = true) (he : cE G ad X Z L q i = .inl (.inr (ci, fs))) (hc : vCl[ci]? = some w) (hw : Cond.classLink M.1.cls idx nmm ∈ vT) (hx : Cond.castable w.1 nmm ∈ vT) (kk : VS G M fr lo (pc + 3) lv (.ref (ad q i) :: st) nc nm ad X Z L mc ms Q) : VS G M fr lo pc lv (.ref (ad q i) :: st) nc nm ad X Z L mc ms Q := fun h hP => v_cast d (hP.o hv he).1 (hP.o hv he).2 hc hw hx (kk h hP)
theorem s_iret {v : Int32} {ty : FieldType} (d : decode M.2.1 pc = .ok (.ireturn, 1)) (hr : M.2.2.2.1 = some ty) (hn : narrow ty (.int v) = .int v) (hq : Q (.inl (some (.int v))) X Z L) : VS G M fr lo pc lv [.int v] nc nm ad X Z L mc ms Q := fun h hP => v_iret d hr hn ⟨X, Z, L, hP, hq⟩
theorem s_vret (d : decode M.2.1 pc = .ok (.return_, 1)) (hr : M.2.2.2.1 = none) (hq : Q (.inl none) X Z L) : VS G M fr lo pc lv [] nc nm ad X Z L mc ms Q := fun h hP => v_vret d hr ⟨X, Z, L, hP, hq⟩
theorem s_aret {v : Value} {rt : FieldType} (d : decode M.2.1 pc = .ok (.areturn, 1)) (hr : M.2.2.2.1 = some rt) (hrt : (∃ n, rt = .object n) ∨ ∃ t, rt = .array t) (hv : vIsR v = true) (hq : Q (.inl (some v)) X Z L) : VS G M fr lo pc lv [v] nc nm ad X Z L mc ms Q := fun h hP => v_aret d hr hrt hv ⟨X, Z, L, hP, hq⟩
theorem VS.mono (hq : ∀ r X Z L, Q1 r X Z L → Q r X Z L) (k : VS G M fr lo pc lv st nc nm ad X Z L mc ms Q1) : VS G M fr lo pc lv st nc nm ad X Z L mc ms Q := fun h hP => V.mono (fun r h' z => by obtain ⟨X', Z', L', z2, z3⟩ := z; exact ⟨X', Z', L', z2, hq _ _ _ _ z3⟩) (k h hP)
theorem VS.wide {fr' lo' mc' ms' : Nat} (h1 : fr ≤ fr') (h2 : lo ≤ lo') (h3 : mc ≤ mc') (h4 : ms ≤ ms') (k : VS G M fr lo pc lv st nc nm ad X Z L mc ms Q) : VS G M fr' lo' pc lv st nc nm ad X Z L mc' ms' Q := fun h hP => V.wide h1 h2 h3 h4 (k h hP)
def sRet (v : Option Value) (X' Z' : Nat → Nat → Int32) (L' : Nat → Nat → List Nat) : sQ0 := fun r X Z L => r = .inl v ∧ X = X' ∧ Z = Z' ∧ L = L'
theorem s_objInit {a idx : Nat} (d : decode M.2.1 pc = .ok (.invokespecial idx, 3)) (hw : Cond.methodLink M.1.cls idx objectInit ∈ vT) (hfr : 1 ≤ fr) (hlo : (st.map fun v => v.category).sum + 12 ≤ lo) (k : VS G M fr lo (pc + 3) lv st nc nm ad X Z L mc ms Q) : VS G M fr lo pc lv (.ref a :: st) nc nm ad X Z L mc ms Q := fun h hP => v_objInit d hw hfr hlo (k h hP)
theorem s_throw {ik is ic : Nat} {cls text : String} (d0 : decode M.2.1 pc = .ok (.new ik, 3)) (d3 : decode M.2.1 (pc + 3) = .ok (.dup, 1)) (d4 : decode M.2.1 (pc + 4) = .ok (.ldc is, 2)) (d6 : decode M.2.1 (pc + 6) = .ok (.invokespecial ic, 3)) (d9 : decode M.2.1 (pc + 9) = .ok (.athrow, 1)) (hcls : Bundle.fit cls = true) (hk : Cond.classLink M.1.cls ik cls ∈ vT) (hi : Cond.initialized cls ∈ vT) (hstr : (M.1.cls, is, text) ∈ vStr) (hw : ∀ w ∈ vThw M.1.cls ic cls, w ∈ vFour ∨ w ∈ vT) (hh : M.2.2.2.2 = []) (hfr : 6 ≤ fr) (hlo : (st.map fun v => v.category).sum + 90 ≤ lo) (hq : Q (.inr cls) X Z L) (b1 : 1 ≤ mc := by decide) (b2 : 6 ≤ ms := by decide) : VS G M fr lo pc lv st nc nm ad X Z L mc ms Q := fun h hP => v_throw d0 d3 d4 d6 d9 hcls hk hi hstr hw hh hfr hlo ⟨X, Z, L, hP, hq⟩ b1 b2
theorem cP.l {h : vH} (hP : cP G nc nm ad X Z L h) {q i ci : Nat} {xs : List Nat} (hv : cV X nc nm q i = true) (he : cE G ad X Z L q i = .inr (ci, xs)) : (∃ fs, h.2 (ad q i) = .inr (9, fs)) ∧ ad q i ∈ h.1 := by
  obtain ⟨F, h1, h2, -⟩ := hP
  have h3 := h2 q i hv
  rw [he] at h3
  exact ⟨h1.lr h3, h1.m h3⟩
theorem s_size {idx ci : Nat} {xs : List Nat} (q i : Nat) (d : decode M.2.1 pc = .ok (.invokevirtual idx, 3)) (hw : Cond.methodLink M.1.cls idx M_Al_size.1 ∈ vT) (hv : cV X nc nm q i = true) (he : cE G ad X Z L q i = .inr (ci, xs)) (k : VS G M fr lo (pc + 3) lv (.int (nI xs.length) :: st) nc nm ad X Z L mc ms Q) (b3 : 1 ≤ fr := by first | exact Nat.le_of_ble_eq_true rfl | omega) (b4 : 8 + (M_Al_size.2.2.1 + 11) + 0 ≤ lo := by first | exact Nat.le_of_ble_eq_true rfl | omega) (b5 : (st.map fun v => v.category).sum ≤ 8 := by first | exact Nat.le_of_ble_eq_true rfl | simp [Value.category, vRf_cat]) : VS G M fr lo pc lv (.ref (ad q i) :: st) nc nm ad X Z L mc ms Q := by
  intro h hP
  obtain ⟨⟨fs, e1⟩, e2⟩ := hP.l hv he
  obtain ⟨F, h1, h2, -⟩ := id hP
  have h3 := h2 q i hv
  rw [he] at h3
  exact v_callV0r (M1 := M_Al_size) d e1 e2 rfl hw kI_Al_size ks_Al_Al_size (by decide) (by decide) kM_Al_size ki_Al (by decide) (by decide +kernel) (a_size h1 h3) (k h hP) (Nat.zero_le _) (Nat.zero_le _) b3 b4 b5
theorem s_lget {idx ci : Nat} {xs : List Nat} {x : Int32} (q i : Nat) (d : decode M.2.1 pc = .ok (.invokevirtual idx, 3)) (hw : Cond.methodLink M.1.cls idx M_Al_get.1 ∈ vT) (hv : cV X nc nm q i = true) (he : cE G ad X Z L q i = .inr (ci, xs)) (n : Nat) (hx : x = nI n) (hn : n < xs.length) (y : Nat) (hy : xs.getD n 0 = y) (k : VS G M fr lo (pc + 3) lv (.ref y :: st) nc nm ad X Z L mc ms Q) (b3 : 2 + 1 ≤ fr := by first | exact Nat.le_of_ble_eq_true rfl | omega) (b4 : 8 + (M_Al_get.2.2.1 + 11) + 43 ≤ lo := by first | exact Nat.le_of_ble_eq_true rfl | omega) (b5 : (st.map fun v => v.category).sum ≤ 8 := by first | exact Nat.le_of_ble_eq_true rfl | simp [Value.category, vRf_cat]) : VS G M fr lo pc lv (.int x :: .ref (ad q i) :: st) nc nm ad X Z L mc ms Q := by
  intro h hP
  obtain ⟨⟨fs, e1⟩, e2⟩ := hP.l hv he
  obtain ⟨F, h1, h2, -⟩ := id hP
  have h3 := h2 q i hv
  rw [he] at h3
  subst hx
  subst hy
  exact v_callV1r (M1 := M_Al_get) d e1 e2 rfl hw kI_Al_get ks_Al_Al_get (by decide) rfl (by decide) kM_Al_get ki_Al (by decide) (by decide +kernel) (a_get h1 h3 hn) (k h hP) (Nat.zero_le _) (Nat.zero_le _) b3 b4 b5
theorem s_callV0 {idx ci : Nat} {fs : List Value} {w : vw_C} (q i : Nat) (d : decode M.2.1 pc = .ok (.invokevirtual idx, 3)) (hv : cV X nc nm q i = true) (he : cE G ad X Z L q i = .inl (.inr (ci, fs))) (hc : vCl[ci]? = some w) (hw : Cond.methodLink M.1.cls idx M1.1 ∈ vT) (hin : Cond.instanceMethod M1.1 ∈ vT) (hse : Cond.selects w.1 M1.1 M1.1 ∈ vT) (o1 : plainName M1.1.cls = true)  (o3 : 1 ≤ M1.2.2.1) (o4 : vCw M1 ∈ vT) (o5 : Cond.initialized M1.1.cls ∈ vT) (o9 : M1.1.cls ≠ "java/lang/invoke/MethodHandle" ∧ M1.1.cls ≠ "java/lang/invoke/VarHandle") (hp : (parseMethodDescriptor M1.1.desc).map (fun d => d.parameters.length) = some 0) (hV : VS G M1 fr1 lo1 0 (vArgs 0 (.ref (ad q i) :: [])) [] nc nm ad X Z L mc1 ms1 Q1) (hh : M.2.2.2.2 = []) (kk : ∀ v X' Z' L', Q1 (.inl v) X' Z' L' → VS G M fr lo (pc + 3) lv (v.toList ++ st) nc nm ad X' Z' L' (mc - mc1) (ms - ms1) Q) (kx : ∀ E X' Z' L', Q1 (.inr E) X' Z' L' → Q (.inr E) X' Z' L') (b1 : mc1 ≤ mc := by first | exact Nat.le_of_ble_eq_true rfl | omega) (b2 : ms1 ≤ ms := by first | exact Nat.le_of_ble_eq_true rfl | omega) (b3 : fr1 + 1 ≤ fr := by first | exact Nat.le_of_ble_eq_true rfl | omega) (b4 : 8 + (M1.2.2.1 + 11) + lo1 ≤ lo := by first | exact Nat.le_of_ble_eq_true rfl | omega) (b5 : (st.map fun v => v.category).sum ≤ 8 := by first | exact Nat.le_of_ble_eq_true rfl | simp [Value.category, vRf_cat]) : VS G M fr lo pc lv (.ref (ad q i) :: st) nc nm ad X Z L mc ms Q := fun h hP => v_callV0 d (hP.o hv he).1 (hP.o hv he).2 hc hw hin hse o1 o3 o4 o5 o9 hp (hV h hP) (fun v h' z => by obtain ⟨X', Z', L', z2, z3⟩ := z; exact kk v X' Z' L' z3 h' z2) (fun E h' z => by obtain ⟨X', Z', L', z2, z3⟩ := z; exact Or.inl ⟨by rw [hh]; exact fun x hx => (nomatch hx), X', Z', L', z2, kx E X' Z' L' z3⟩) b1 b2 b3 b4 b5
theorem s_callV0r {idx ci : Nat} {fs : List Value} {w : vw_C} {x : Value} (q i : Nat) (d : decode M.2.1 pc = .ok (.invokevirtual idx, 3)) (hv : cV X nc nm q i = true) (he : cE G ad X Z L q i = .inl (.inr (ci, fs))) (hc : vCl[ci]? = some w) (hw : Cond.methodLink M.1.cls idx M1.1 ∈ vT) (hin : Cond.instanceMethod M1.1 ∈ vT) (hse : Cond.selects w.1 M1.1 M1.1 ∈ vT) (o1 : plainName M1.1.cls = true)  (o3 : 1 ≤ M1.2.2.1) (o4 : vCw M1 ∈ vT) (o5 : Cond.initialized M1.1.cls ∈ vT) (o9 : M1.1.cls ≠ "java/lang/invoke/MethodHandle" ∧ M1.1.cls ≠ "java/lang/invoke/VarHandle") (hp : (parseMethodDescriptor M1.1.desc).map (fun d => d.parameters.length) = some 0) (hV : VS G M1 fr1 lo1 0 (vArgs 0 (.ref (ad q i) :: [])) [] nc nm ad X Z L 0 0 (sRet (some x) X1 Z1 L1)) (k : VS G M fr lo (pc + 3) lv (x :: st) nc nm ad X1 Z1 L1 mc ms Q) (b3 : fr1 + 1 ≤ fr := by first | exact Nat.le_of_ble_eq_true rfl | omega) (b4 : 8 + (M1.2.2.1 + 11) + lo1 ≤ lo := by first | exact Nat.le_of_ble_eq_true rfl | omega) (b5 : (st.map fun v => v.category).sum ≤ 8 := by first | exact Nat.le_of_ble_eq_true rfl | simp [Value.category, vRf_cat]) : VS G M fr lo pc lv (.ref (ad q i) :: st) nc nm ad X Z L mc ms Q := fun h hP => v_callV0 d (hP.o hv he).1 (hP.o hv he).2 hc hw hin hse o1 o3 o4 o5 o9 hp (hV h hP) (fun v h' z => by obtain ⟨X', Z', L', z2, z3, rfl, rfl, rfl⟩ := z; cases z3; exact k h' z2) (fun E h' z => by obtain ⟨X', Z', L', z2, z3, -⟩ := z; cases z3) (Nat.zero_le _) (Nat.zero_le _) b3 b4 b5
theorem s_callV0u {idx ci : Nat} {fs : List Value} {w : vw_C} (q i : Nat) (d : decode M.2.1 pc = .ok (.invokevirtual idx, 3)) (hv : cV X nc nm q i = true) (he : cE G ad X Z L q i = .inl (.inr (ci, fs))) (hc : vCl[ci]? = some w) (hw : Cond.methodLink M.1.cls idx M1.1 ∈ vT) (hin : Cond.instanceMethod M1.1 ∈ vT) (hse : Cond.selects w.1 M1.1 M1.1 ∈ vT) (o1 : plainName M1.1.cls = true)  (o3 : 1 ≤ M1.2.2.1) (o4 : vCw M1 ∈ vT) (o5 : Cond.initialized M1.1.cls ∈ vT) (o9 : M1.1.cls ≠ "java/lang/invoke/MethodHandle" ∧ M1.1.cls ≠ "java/lang/invoke/VarHandle") (hp : (parseMethodDescriptor M1.1.desc).map (fun d => d.parameters.length) = some 0) (hV : VS G M1 fr1 lo1 0 (vArgs 0 (.ref (ad q i) :: [])) [] nc nm ad X Z L 0 0 (sRet none X1 Z1 L1)) (k : VS G M fr lo (pc + 3) lv st nc nm ad X1 Z1 L1 mc ms Q) (b3 : fr1 + 1 ≤ fr := by first | exact Nat.le_of_ble_eq_true rfl | omega) (b4 : 8 + (M1.2.2.1 + 11) + lo1 ≤ lo := by first | exact Nat.le_of_ble_eq_true rfl | omega) (b5 : (st.map fun v => v.category).sum ≤ 8 := by first | exact Nat.le_of_ble_eq_true rfl | simp [Value.category, vRf_cat]) : VS G M fr lo pc lv (.ref (ad q i) :: st) nc nm ad X Z L mc ms Q := fun h hP => v_callV0 d (hP.o hv he).1 (hP.o hv he).2 hc hw hin hse o1 o3 o4 o5 o9 hp (hV h hP) (fun v h' z => by obtain ⟨X', Z', L', z2, z3, rfl, rfl, rfl⟩ := z; cases z3; exact k h' z2) (fun E h' z => by obtain ⟨X', Z', L', z2, z3, -⟩ := z; cases z3) (Nat.zero_le _) (Nat.zero_le _) b3 b4 b5
theorem s_callV1 {idx ci : Nat} {fs : List Value} {w : vw_C} {x1 : Value} (q i : Nat) (d : decode M.2.1 pc = .ok (.invokevirtual idx, 3)) (hv : cV X nc nm q i = true) (he : cE G ad X Z L q i = .inl (.inr (ci, fs))) (hc : vCl[ci]? = some w) (hw : Cond.methodLink M.1.cls idx M1.1 ∈ vT) (hin : Cond.instanceMethod M1.1 ∈ vT) (hse : Cond.selects w.1 M1.1 M1.1 ∈ vT) (o1 : plainName M1.1.cls = true) (c1 : x1.category = 1) (o3 : 2 ≤ M1.2.2.1) (o4 : vCw M1 ∈ vT) (o5 : Cond.initialized M1.1.cls ∈ vT) (o9 : M1.1.cls ≠ "java/lang/invoke/MethodHandle" ∧ M1.1.cls ≠ "java/lang/invoke/VarHandle") (hp : (parseMethodDescriptor M1.1.desc).map (fun d => d.parameters.length) = some 1) (hV : VS G M1 fr1 lo1 0 (vArgs 0 (.ref (ad q i) :: [x1])) [] nc nm ad X Z L mc1 ms1 Q1) (hh : M.2.2.2.2 = []) (kk : ∀ v X' Z' L', Q1 (.inl v) X' Z' L' → VS G M fr lo (pc + 3) lv (v.toList ++ st) nc nm ad X' Z' L' (mc - mc1) (ms - ms1) Q) (kx : ∀ E X' Z' L', Q1 (.inr E) X' Z' L' → Q (.inr E) X' Z' L') (b1 : mc1 ≤ mc := by first | exact Nat.le_of_ble_eq_true rfl | omega) (b2 : ms1 ≤ ms := by first | exact Nat.le_of_ble_eq_true rfl | omega) (b3 : fr1 + 1 ≤ fr := by first | exact Nat.le_of_ble_eq_true rfl | omega) (b4 : 8 + (M1.2.2.1 + 11) + lo1 ≤ lo := by first | exact Nat.le_of_ble_eq_true rfl | omega) (b5 : (st.map fun v => v.category).sum ≤ 8 := by first | exact Nat.le_of_ble_eq_true rfl | simp [Value.category, vRf_cat]) : VS G M fr lo pc lv (x1 :: .ref (ad q i) :: st) nc nm ad X Z L mc ms Q := fun h hP => v_callV1 d (hP.o hv he).1 (hP.o hv he).2 hc hw hin hse o1 c1 o3 o4 o5 o9 hp (hV h hP) (fun v h' z => by obtain ⟨X', Z', L', z2, z3⟩ := z; exact kk v X' Z' L' z3 h' z2) (fun E h' z => by obtain ⟨X', Z', L', z2, z3⟩ := z; exact Or.inl ⟨by rw [hh]; exact fun x hx => (nomatch hx), X', Z', L', z2, kx E X' Z' L' z3⟩) b1 b2 b3 b4 b5
theorem s_callV1r {idx ci : Nat} {fs : List Value} {w : vw_C} {x1 : Value} {x : Value} (q i : Nat) (d : decode M.2.1 pc = .ok (.invokevirtual idx, 3)) (hv : cV X nc nm q i = true) (he : cE G ad X Z L q i = .inl (.inr (ci, fs))) (hc : vCl[ci]? = some w) (hw : Cond.methodLink M.1.cls idx M1.1 ∈ vT) (hin : Cond.instanceMethod M1.1 ∈ vT) (hse : Cond.selects w.1 M1.1 M1.1 ∈ vT) (o1 : plainName M1.1.cls = true) (c1 : x1.category = 1) (o3 : 2 ≤ M1.2.2.1) (o4 : vCw M1 ∈ vT) (o5 : Cond.initialized M1.1.cls ∈ vT) (o9 : M1.1.cls ≠ "java/lang/invoke/MethodHandle" ∧ M1.1.cls ≠ "java/lang/invoke/VarHandle") (hp : (parseMethodDescriptor M1.1.desc).map (fun d => d.parameters.length) = some 1) (hV : VS G M1 fr1 lo1 0 (vArgs 0 (.ref (ad q i) :: [x1])) [] nc nm ad X Z L 0 0 (sRet (some x) X1 Z1 L1)) (k : VS G M fr lo (pc + 3) lv (x :: st) nc nm ad X1 Z1 L1 mc ms Q) (b3 : fr1 + 1 ≤ fr := by first | exact Nat.le_of_ble_eq_true rfl | omega) (b4 : 8 + (M1.2.2.1 + 11) + lo1 ≤ lo := by first | exact Nat.le_of_ble_eq_true rfl | omega) (b5 : (st.map fun v => v.category).sum ≤ 8 := by first | exact Nat.le_of_ble_eq_true rfl | simp [Value.category, vRf_cat]) : VS G M fr lo pc lv (x1 :: .ref (ad q i) :: st) nc nm ad X Z L mc ms Q := fun h hP => v_callV1 d (hP.o hv he).1 (hP.o hv he).2 hc hw hin hse o1 c1 o3 o4 o5 o9 hp (hV h hP) (fun v h' z => by obtain ⟨X', Z', L', z2, z3, rfl, rfl, rfl⟩ := z; cases z3; exact k h' z2) (fun E h' z => by obtain ⟨X', Z', L', z2, z3, -⟩ := z; cases z3) (Nat.zero_le _) (Nat.zero_le _) b3 b4 b5
theorem s_callV1u {idx ci : Nat} {fs : List Value} {w : vw_C} {x1 : Value} (q i : Nat) (d : decode M.2.1 pc = .ok (.invokevirtual idx, 3)) (hv : cV X nc nm q i = true) (he : cE G ad X Z L q i = .inl (.inr (ci, fs))) (hc : vCl[ci]? = some w) (hw : Cond.methodLink M.1.cls idx M1.1 ∈ vT) (hin : Cond.instanceMethod M1.1 ∈ vT) (hse : Cond.selects w.1 M1.1 M1.1 ∈ vT) (o1 : plainName M1.1.cls = true) (c1 : x1.category = 1) (o3 : 2 ≤ M1.2.2.1) (o4 : vCw M1 ∈ vT) (o5 : Cond.initialized M1.1.cls ∈ vT) (o9 : M1.1.cls ≠ "java/lang/invoke/MethodHandle" ∧ M1.1.cls ≠ "java/lang/invoke/VarHandle") (hp : (parseMethodDescriptor M1.1.desc).map (fun d => d.parameters.length) = some 1) (hV : VS G M1 fr1 lo1 0 (vArgs 0 (.ref (ad q i) :: [x1])) [] nc nm ad X Z L 0 0 (sRet none X1 Z1 L1)) (k : VS G M fr lo (pc + 3) lv st nc nm ad X1 Z1 L1 mc ms Q) (b3 : fr1 + 1 ≤ fr := by first | exact Nat.le_of_ble_eq_true rfl | omega) (b4 : 8 + (M1.2.2.1 + 11) + lo1 ≤ lo := by first | exact Nat.le_of_ble_eq_true rfl | omega) (b5 : (st.map fun v => v.category).sum ≤ 8 := by first | exact Nat.le_of_ble_eq_true rfl | simp [Value.category, vRf_cat]) : VS G M fr lo pc lv (x1 :: .ref (ad q i) :: st) nc nm ad X Z L mc ms Q := fun h hP => v_callV1 d (hP.o hv he).1 (hP.o hv he).2 hc hw hin hse o1 c1 o3 o4 o5 o9 hp (hV h hP) (fun v h' z => by obtain ⟨X', Z', L', z2, z3, rfl, rfl, rfl⟩ := z; cases z3; exact k h' z2) (fun E h' z => by obtain ⟨X', Z', L', z2, z3, -⟩ := z; cases z3) (Nat.zero_le _) (Nat.zero_le _) b3 b4 b5
theorem s_callV2 {idx ci : Nat} {fs : List Value} {w : vw_C} {x1 x2 : Value} (q i : Nat) (d : decode M.2.1 pc = .ok (.invokevirtual idx, 3)) (hv : cV X nc nm q i = true) (he : cE G ad X Z L q i = .inl (.inr (ci, fs))) (hc : vCl[ci]? = some w) (hw : Cond.methodLink M.1.cls idx M1.1 ∈ vT) (hin : Cond.instanceMethod M1.1 ∈ vT) (hse : Cond.selects w.1 M1.1 M1.1 ∈ vT) (o1 : plainName M1.1.cls = true) (c1 : x1.category = 1) (c2 : x2.category = 1) (o3 : 3 ≤ M1.2.2.1) (o4 : vCw M1 ∈ vT) (o5 : Cond.initialized M1.1.cls ∈ vT) (o9 : M1.1.cls ≠ "java/lang/invoke/MethodHandle" ∧ M1.1.cls ≠ "java/lang/invoke/VarHandle") (hp : (parseMethodDescriptor M1.1.desc).map (fun d => d.parameters.length) = some 2) (hV : VS G M1 fr1 lo1 0 (vArgs 0 (.ref (ad q i) :: [x1, x2])) [] nc nm ad X Z L mc1 ms1 Q1) (hh : M.2.2.2.2 = []) (kk : ∀ v X' Z' L', Q1 (.inl v) X' Z' L' → VS G M fr lo (pc + 3) lv (v.toList ++ st) nc nm ad X' Z' L' (mc - mc1) (ms - ms1) Q) (kx : ∀ E X' Z' L', Q1 (.inr E) X' Z' L' → Q (.inr E) X' Z' L') (b1 : mc1 ≤ mc := by first | exact Nat.le_of_ble_eq_true rfl | omega) (b2 : ms1 ≤ ms := by first | exact Nat.le_of_ble_eq_true rfl | omega) (b3 : fr1 + 1 ≤ fr := by first | exact Nat.le_of_ble_eq_true rfl | omega) (b4 : 8 + (M1.2.2.1 + 11) + lo1 ≤ lo := by first | exact Nat.le_of_ble_eq_true rfl | omega) (b5 : (st.map fun v => v.category).sum ≤ 8 := by first | exact Nat.le_of_ble_eq_true rfl | simp [Value.category, vRf_cat]) : VS G M fr lo pc lv (x2 :: x1 :: .ref (ad q i) :: st) nc nm ad X Z L mc ms Q := fun h hP => v_callV2 d (hP.o hv he).1 (hP.o hv he).2 hc hw hin hse o1 c1 c2 o3 o4 o5 o9 hp (hV h hP) (fun v h' z => by obtain ⟨X', Z', L', z2, z3⟩ := z; exact kk v X' Z' L' z3 h' z2) (fun E h' z => by obtain ⟨X', Z', L', z2, z3⟩ := z; exact Or.inl ⟨by rw [hh]; exact fun x hx => (nomatch hx), X', Z', L', z2, kx E X' Z' L' z3⟩) b1 b2 b3 b4 b5
theorem s_callV2r {idx ci : Nat} {fs : List Value} {w : vw_C} {x1 x2 : Value} {x : Value} (q i : Nat) (d : decode M.2.1 pc = .ok (.invokevirtual idx, 3)) (hv : cV X nc nm q i = true) (he : cE G ad X Z L q i = .inl (.inr (ci, fs))) (hc : vCl[ci]? = some w) (hw : Cond.methodLink M.1.cls idx M1.1 ∈ vT) (hin : Cond.instanceMethod M1.1 ∈ vT) (hse : Cond.selects w.1 M1.1 M1.1 ∈ vT) (o1 : plainName M1.1.cls = true) (c1 : x1.category = 1) (c2 : x2.category = 1) (o3 : 3 ≤ M1.2.2.1) (o4 : vCw M1 ∈ vT) (o5 : Cond.initialized M1.1.cls ∈ vT) (o9 : M1.1.cls ≠ "java/lang/invoke/MethodHandle" ∧ M1.1.cls ≠ "java/lang/invoke/VarHandle") (hp : (parseMethodDescriptor M1.1.desc).map (fun d => d.parameters.length) = some 2) (hV : VS G M1 fr1 lo1 0 (vArgs 0 (.ref (ad q i) :: [x1, x2])) [] nc nm ad X Z L 0 0 (sRet (some x) X1 Z1 L1)) (k : VS G M fr lo (pc + 3) lv (x :: st) nc nm ad X1 Z1 L1 mc ms Q) (b3 : fr1 + 1 ≤ fr := by first | exact Nat.le_of_ble_eq_true rfl | omega) (b4 : 8 + (M1.2.2.1 + 11) + lo1 ≤ lo := by first | exact Nat.le_of_ble_eq_true rfl | omega) (b5 : (st.map fun v => v.category).sum ≤ 8 := by first | exact Nat.le_of_ble_eq_true rfl | simp [Value.category, vRf_cat]) : VS G M fr lo pc lv (x2 :: x1 :: .ref (ad q i) :: st) nc nm ad X Z L mc ms Q := fun h hP => v_callV2 d (hP.o hv he).1 (hP.o hv he).2 hc hw hin hse o1 c1 c2 o3 o4 o5 o9 hp (hV h hP) (fun v h' z => by obtain ⟨X', Z', L', z2, z3, rfl, rfl, rfl⟩ := z; cases z3; exact k h' z2) (fun E h' z => by obtain ⟨X', Z', L', z2, z3, -⟩ := z; cases z3) (Nat.zero_le _) (Nat.zero_le _) b3 b4 b5
theorem s_callV2u {idx ci : Nat} {fs : List Value} {w : vw_C} {x1 x2 : Value} (q i : Nat) (d : decode M.2.1 pc = .ok (.invokevirtual idx, 3)) (hv : cV X nc nm q i = true) (he : cE G ad X Z L q i = .inl (.inr (ci, fs))) (hc : vCl[ci]? = some w) (hw : Cond.methodLink M.1.cls idx M1.1 ∈ vT) (hin : Cond.instanceMethod M1.1 ∈ vT) (hse : Cond.selects w.1 M1.1 M1.1 ∈ vT) (o1 : plainName M1.1.cls = true) (c1 : x1.category = 1) (c2 : x2.category = 1) (o3 : 3 ≤ M1.2.2.1) (o4 : vCw M1 ∈ vT) (o5 : Cond.initialized M1.1.cls ∈ vT) (o9 : M1.1.cls ≠ "java/lang/invoke/MethodHandle" ∧ M1.1.cls ≠ "java/lang/invoke/VarHandle") (hp : (parseMethodDescriptor M1.1.desc).map (fun d => d.parameters.length) = some 2) (hV : VS G M1 fr1 lo1 0 (vArgs 0 (.ref (ad q i) :: [x1, x2])) [] nc nm ad X Z L 0 0 (sRet none X1 Z1 L1)) (k : VS G M fr lo (pc + 3) lv st nc nm ad X1 Z1 L1 mc ms Q) (b3 : fr1 + 1 ≤ fr := by first | exact Nat.le_of_ble_eq_true rfl | omega) (b4 : 8 + (M1.2.2.1 + 11) + lo1 ≤ lo := by first | exact Nat.le_of_ble_eq_true rfl | omega) (b5 : (st.map fun v => v.category).sum ≤ 8 := by first | exact Nat.le_of_ble_eq_true rfl | simp [Value.category, vRf_cat]) : VS G M fr lo pc lv (x2 :: x1 :: .ref (ad q i) :: st) nc nm ad X Z L mc ms Q := fun h hP => v_callV2 d (hP.o hv he).1 (hP.o hv he).2 hc hw hin hse o1 c1 c2 o3 o4 o5 o9 hp (hV h hP) (fun v h' z => by obtain ⟨X', Z', L', z2, z3, rfl, rfl, rfl⟩ := z; cases z3; exact k h' z2) (fun E h' z => by obtain ⟨X', Z', L', z2, z3, -⟩ := z; cases z3) (Nat.zero_le _) (Nat.zero_le _) b3 b4 b5
theorem s_callV3 {idx ci : Nat} {fs : List Value} {w : vw_C} {x1 x2 x3 : Value} (q i : Nat) (d : decode M.2.1 pc = .ok (.invokevirtual idx, 3)) (hv : cV X nc nm q i = true) (he : cE G ad X Z L q i = .inl (.inr (ci, fs))) (hc : vCl[ci]? = some w) (hw : Cond.methodLink M.1.cls idx M1.1 ∈ vT) (hin : Cond.instanceMethod M1.1 ∈ vT) (hse : Cond.selects w.1 M1.1 M1.1 ∈ vT) (o1 : plainName M1.1.cls = true) (c1 : x1.category = 1) (c2 : x2.category = 1) (c3 : x3.category = 1) (o3 : 4 ≤ M1.2.2.1) (o4 : vCw M1 ∈ vT) (o5 : Cond.initialized M1.1.cls ∈ vT) (o9 : M1.1.cls ≠ "java/lang/invoke/MethodHandle" ∧ M1.1.cls ≠ "java/lang/invoke/VarHandle") (hp : (parseMethodDescriptor M1.1.desc).map (fun d => d.parameters.length) = some 3) (hV : VS G M1 fr1 lo1 0 (vArgs 0 (.ref (ad q i) :: [x1, x2, x3])) [] nc nm ad X Z L mc1 ms1 Q1) (hh : M.2.2.2.2 = []) (kk : ∀ v X' Z' L', Q1 (.inl v) X' Z' L' → VS G M fr lo (pc + 3) lv (v.toList ++ st) nc nm ad X' Z' L' (mc - mc1) (ms - ms1) Q) (kx : ∀ E X' Z' L', Q1 (.inr E) X' Z' L' → Q (.inr E) X' Z' L') (b1 : mc1 ≤ mc := by first | exact Nat.le_of_ble_eq_true rfl | omega) (b2 : ms1 ≤ ms := by first | exact Nat.le_of_ble_eq_true rfl | omega) (b3 : fr1 + 1 ≤ fr := by first | exact Nat.le_of_ble_eq_true rfl | omega) (b4 : 8 + (M1.2.2.1 + 11) + lo1 ≤ lo := by first | exact Nat.le_of_ble_eq_true rfl | omega) (b5 : (st.map fun v => v.category).sum ≤ 8 := by first | exact Nat.le_of_ble_eq_true rfl | simp [Value.category, vRf_cat]) : VS G M fr lo pc lv (x3 :: x2 :: x1 :: .ref (ad q i) :: st) nc nm ad X Z L mc ms Q := fun h hP => v_callV3 d (hP.o hv he).1 (hP.o hv he).2 hc hw hin hse o1 c1 c2 c3 o3 o4 o5 o9 hp (hV h hP) (fun v h' z => by obtain ⟨X', Z', L', z2, z3⟩ := z; exact kk v X' Z' L' z3 h' z2) (fun E h' z => by obtain ⟨X', Z', L', z2, z3⟩ := z; exact Or.inl ⟨by rw [hh]; exact fun x hx => (nomatch hx), X', Z', L', z2, kx E X' Z' L' z3⟩) b1 b2 b3 b4 b5
theorem s_callV3r {idx ci : Nat} {fs : List Value} {w : vw_C} {x1 x2 x3 : Value} {x : Value} (q i : Nat) (d : decode M.2.1 pc = .ok (.invokevirtual idx, 3)) (hv : cV X nc nm q i = true) (he : cE G ad X Z L q i = .inl (.inr (ci, fs))) (hc : vCl[ci]? = some w) (hw : Cond.methodLink M.1.cls idx M1.1 ∈ vT) (hin : Cond.instanceMethod M1.1 ∈ vT) (hse : Cond.selects w.1 M1.1 M1.1 ∈ vT) (o1 : plainName M1.1.cls = true) (c1 : x1.category = 1) (c2 : x2.category = 1) (c3 : x3.category = 1) (o3 : 4 ≤ M1.2.2.1) (o4 : vCw M1 ∈ vT) (o5 : Cond.initialized M1.1.cls ∈ vT) (o9 : M1.1.cls ≠ "java/lang/invoke/MethodHandle" ∧ M1.1.cls ≠ "java/lang/invoke/VarHandle") (hp : (parseMethodDescriptor M1.1.desc).map (fun d => d.parameters.length) = some 3) (hV : VS G M1 fr1 lo1 0 (vArgs 0 (.ref (ad q i) :: [x1, x2, x3])) [] nc nm ad X Z L 0 0 (sRet (some x) X1 Z1 L1)) (k : VS G M fr lo (pc + 3) lv (x :: st) nc nm ad X1 Z1 L1 mc ms Q) (b3 : fr1 + 1 ≤ fr := by first | exact Nat.le_of_ble_eq_true rfl | omega) (b4 : 8 + (M1.2.2.1 + 11) + lo1 ≤ lo := by first | exact Nat.le_of_ble_eq_true rfl | omega) (b5 : (st.map fun v => v.category).sum ≤ 8 := by first | exact Nat.le_of_ble_eq_true rfl | simp [Value.category, vRf_cat]) : VS G M fr lo pc lv (x3 :: x2 :: x1 :: .ref (ad q i) :: st) nc nm ad X Z L mc ms Q := fun h hP => v_callV3 d (hP.o hv he).1 (hP.o hv he).2 hc hw hin hse o1 c1 c2 c3 o3 o4 o5 o9 hp (hV h hP) (fun v h' z => by obtain ⟨X', Z', L', z2, z3, rfl, rfl, rfl⟩ := z; cases z3; exact k h' z2) (fun E h' z => by obtain ⟨X', Z', L', z2, z3, -⟩ := z; cases z3) (Nat.zero_le _) (Nat.zero_le _) b3 b4 b5
theorem s_callV3u {idx ci : Nat} {fs : List Value} {w : vw_C} {x1 x2 x3 : Value} (q i : Nat) (d : decode M.2.1 pc = .ok (.invokevirtual idx, 3)) (hv : cV X nc nm q i = true) (he : cE G ad X Z L q i = .inl (.inr (ci, fs))) (hc : vCl[ci]? = some w) (hw : Cond.methodLink M.1.cls idx M1.1 ∈ vT) (hin : Cond.instanceMethod M1.1 ∈ vT) (hse : Cond.selects w.1 M1.1 M1.1 ∈ vT) (o1 : plainName M1.1.cls = true) (c1 : x1.category = 1) (c2 : x2.category = 1) (c3 : x3.category = 1) (o3 : 4 ≤ M1.2.2.1) (o4 : vCw M1 ∈ vT) (o5 : Cond.initialized M1.1.cls ∈ vT) (o9 : M1.1.cls ≠ "java/lang/invoke/MethodHandle" ∧ M1.1.cls ≠ "java/lang/invoke/VarHandle") (hp : (parseMethodDescriptor M1.1.desc).map (fun d => d.parameters.length) = some 3) (hV : VS G M1 fr1 lo1 0 (vArgs 0 (.ref (ad q i) :: [x1, x2, x3])) [] nc nm ad X Z L 0 0 (sRet none X1 Z1 L1)) (k : VS G M fr lo (pc + 3) lv st nc nm ad X1 Z1 L1 mc ms Q) (b3 : fr1 + 1 ≤ fr := by first | exact Nat.le_of_ble_eq_true rfl | omega) (b4 : 8 + (M1.2.2.1 + 11) + lo1 ≤ lo := by first | exact Nat.le_of_ble_eq_true rfl | omega) (b5 : (st.map fun v => v.category).sum ≤ 8 := by first | exact Nat.le_of_ble_eq_true rfl | simp [Value.category, vRf_cat]) : VS G M fr lo pc lv (x3 :: x2 :: x1 :: .ref (ad q i) :: st) nc nm ad X Z L mc ms Q := fun h hP => v_callV3 d (hP.o hv he).1 (hP.o hv he).2 hc hw hin hse o1 c1 c2 c3 o3 o4 o5 o9 hp (hV h hP) (fun v h' z => by obtain ⟨X', Z', L', z2, z3, rfl, rfl, rfl⟩ := z; cases z3; exact k h' z2) (fun E h' z => by obtain ⟨X', Z', L', z2, z3, -⟩ := z; cases z3) (Nat.zero_le _) (Nat.zero_le _) b3 b4 b5
theorem s_callV4 {idx ci : Nat} {fs : List Value} {w : vw_C} {x1 x2 x3 x4 : Value} (q i : Nat) (d : decode M.2.1 pc = .ok (.invokevirtual idx, 3)) (hv : cV X nc nm q i = true) (he : cE G ad X Z L q i = .inl (.inr (ci, fs))) (hc : vCl[ci]? = some w) (hw : Cond.methodLink M.1.cls idx M1.1 ∈ vT) (hin : Cond.instanceMethod M1.1 ∈ vT) (hse : Cond.selects w.1 M1.1 M1.1 ∈ vT) (o1 : plainName M1.1.cls = true) (c1 : x1.category = 1) (c2 : x2.category = 1) (c3 : x3.category = 1) (c4 : x4.category = 1) (o3 : 5 ≤ M1.2.2.1) (o4 : vCw M1 ∈ vT) (o5 : Cond.initialized M1.1.cls ∈ vT) (o9 : M1.1.cls ≠ "java/lang/invoke/MethodHandle" ∧ M1.1.cls ≠ "java/lang/invoke/VarHandle") (hp : (parseMethodDescriptor M1.1.desc).map (fun d => d.parameters.length) = some 4) (hV : VS G M1 fr1 lo1 0 (vArgs 0 (.ref (ad q i) :: [x1, x2, x3, x4])) [] nc nm ad X Z L mc1 ms1 Q1) (hh : M.2.2.2.2 = []) (kk : ∀ v X' Z' L', Q1 (.inl v) X' Z' L' → VS G M fr lo (pc + 3) lv (v.toList ++ st) nc nm ad X' Z' L' (mc - mc1) (ms - ms1) Q) (kx : ∀ E X' Z' L', Q1 (.inr E) X' Z' L' → Q (.inr E) X' Z' L') (b1 : mc1 ≤ mc := by first | exact Nat.le_of_ble_eq_true rfl | omega) (b2 : ms1 ≤ ms := by first | exact Nat.le_of_ble_eq_true rfl | omega) (b3 : fr1 + 1 ≤ fr := by first | exact Nat.le_of_ble_eq_true rfl | omega) (b4 : 8 + (M1.2.2.1 + 11) + lo1 ≤ lo := by first | exact Nat.le_of_ble_eq_true rfl | omega) (b5 : (st.map fun v => v.category).sum ≤ 8 := by first | exact Nat.le_of_ble_eq_true rfl | simp [Value.category, vRf_cat]) : VS G M fr lo pc lv (x4 :: x3 :: x2 :: x1 :: .ref (ad q i) :: st) nc nm ad X Z L mc ms Q := fun h hP => v_callV4 d (hP.o hv he).1 (hP.o hv he).2 hc hw hin hse o1 c1 c2 c3 c4 o3 o4 o5 o9 hp (hV h hP) (fun v h' z => by obtain ⟨X', Z', L', z2, z3⟩ := z; exact kk v X' Z' L' z3 h' z2) (fun E h' z => by obtain ⟨X', Z', L', z2, z3⟩ := z; exact Or.inl ⟨by rw [hh]; exact fun x hx => (nomatch hx), X', Z', L', z2, kx E X' Z' L' z3⟩) b1 b2 b3 b4 b5
theorem s_callV4r {idx ci : Nat} {fs : List Value} {w : vw_C} {x1 x2 x3 x4 : Value} {x : Value} (q i : Nat) (d : decode M.2.1 pc = .ok (.invokevirtual idx, 3)) (hv : cV X nc nm q i = true) (he : cE G ad X Z L q i = .inl (.inr (ci, fs))) (hc : vCl[ci]? = some w) (hw : Cond.methodLink M.1.cls idx M1.1 ∈ vT) (hin : Cond.instanceMethod M1.1 ∈ vT) (hse : Cond.selects w.1 M1.1 M1.1 ∈ vT) (o1 : plainName M1.1.cls = true) (c1 : x1.category = 1) (c2 : x2.category = 1) (c3 : x3.category = 1) (c4 : x4.category = 1) (o3 : 5 ≤ M1.2.2.1) (o4 : vCw M1 ∈ vT) (o5 : Cond.initialized M1.1.cls ∈ vT) (o9 : M1.1.cls ≠ "java/lang/invoke/MethodHandle" ∧ M1.1.cls ≠ "java/lang/invoke/VarHandle") (hp : (parseMethodDescriptor M1.1.desc).map (fun d => d.parameters.length) = some 4) (hV : VS G M1 fr1 lo1 0 (vArgs 0 (.ref (ad q i) :: [x1, x2, x3, x4])) [] nc nm ad X Z L 0 0 (sRet (some x) X1 Z1 L1)) (k : VS G M fr lo (pc + 3) lv (x :: st) nc nm ad X1 Z1 L1 mc ms Q) (b3 : fr1 + 1 ≤ fr := by first | exact Nat.le_of_ble_eq_true rfl | omega) (b4 : 8 + (M1.2.2.1 + 11) + lo1 ≤ lo := by first | exact Nat.le_of_ble_eq_true rfl | omega) (b5 : (st.map fun v => v.category).sum ≤ 8 := by first | exact Nat.le_of_ble_eq_true rfl | simp [Value.category, vRf_cat]) : VS G M fr lo pc lv (x4 :: x3 :: x2 :: x1 :: .ref (ad q i) :: st) nc nm ad X Z L mc ms Q := fun h hP => v_callV4 d (hP.o hv he).1 (hP.o hv he).2 hc hw hin hse o1 c1 c2 c3 c4 o3 o4 o5 o9 hp (hV h hP) (fun v h' z => by obtain ⟨X', Z', L', z2, z3, rfl, rfl, rfl⟩ := z; cases z3; exact k h' z2) (fun E h' z => by obtain ⟨X', Z', L', z2, z3, -⟩ := z; cases z3) (Nat.zero_le _) (Nat.zero_le _) b3 b4 b5
theorem s_callV4u {idx ci : Nat} {fs : List Value} {w : vw_C} {x1 x2 x3 x4 : Value} (q i : Nat) (d : decode M.2.1 pc = .ok (.invokevirtual idx, 3)) (hv : cV X nc nm q i = true) (he : cE G ad X Z L q i = .inl (.inr (ci, fs))) (hc : vCl[ci]? = some w) (hw : Cond.methodLink M.1.cls idx M1.1 ∈ vT) (hin : Cond.instanceMethod M1.1 ∈ vT) (hse : Cond.selects w.1 M1.1 M1.1 ∈ vT) (o1 : plainName M1.1.cls = true) (c1 : x1.category = 1) (c2 : x2.category = 1) (c3 : x3.category = 1) (c4 : x4.category = 1) (o3 : 5 ≤ M1.2.2.1) (o4 : vCw M1 ∈ vT) (o5 : Cond.initialized M1.1.cls ∈ vT) (o9 : M1.1.cls ≠ "java/lang/invoke/MethodHandle" ∧ M1.1.cls ≠ "java/lang/invoke/VarHandle") (hp : (parseMethodDescriptor M1.1.desc).map (fun d => d.parameters.length) = some 4) (hV : VS G M1 fr1 lo1 0 (vArgs 0 (.ref (ad q i) :: [x1, x2, x3, x4])) [] nc nm ad X Z L 0 0 (sRet none X1 Z1 L1)) (k : VS G M fr lo (pc + 3) lv st nc nm ad X1 Z1 L1 mc ms Q) (b3 : fr1 + 1 ≤ fr := by first | exact Nat.le_of_ble_eq_true rfl | omega) (b4 : 8 + (M1.2.2.1 + 11) + lo1 ≤ lo := by first | exact Nat.le_of_ble_eq_true rfl | omega) (b5 : (st.map fun v => v.category).sum ≤ 8 := by first | exact Nat.le_of_ble_eq_true rfl | simp [Value.category, vRf_cat]) : VS G M fr lo pc lv (x4 :: x3 :: x2 :: x1 :: .ref (ad q i) :: st) nc nm ad X Z L mc ms Q := fun h hP => v_callV4 d (hP.o hv he).1 (hP.o hv he).2 hc hw hin hse o1 c1 c2 c3 c4 o3 o4 o5 o9 hp (hV h hP) (fun v h' z => by obtain ⟨X', Z', L', z2, z3, rfl, rfl, rfl⟩ := z; cases z3; exact k h' z2) (fun E h' z => by obtain ⟨X', Z', L', z2, z3, -⟩ := z; cases z3) (Nat.zero_le _) (Nat.zero_le _) b3 b4 b5
theorem s_callV5 {idx ci : Nat} {fs : List Value} {w : vw_C} {x1 x2 x3 x4 x5 : Value} (q i : Nat) (d : decode M.2.1 pc = .ok (.invokevirtual idx, 3)) (hv : cV X nc nm q i = true) (he : cE G ad X Z L q i = .inl (.inr (ci, fs))) (hc : vCl[ci]? = some w) (hw : Cond.methodLink M.1.cls idx M1.1 ∈ vT) (hin : Cond.instanceMethod M1.1 ∈ vT) (hse : Cond.selects w.1 M1.1 M1.1 ∈ vT) (o1 : plainName M1.1.cls = true) (c1 : x1.category = 1) (c2 : x2.category = 1) (c3 : x3.category = 1) (c4 : x4.category = 1) (c5 : x5.category = 1) (o3 : 6 ≤ M1.2.2.1) (o4 : vCw M1 ∈ vT) (o5 : Cond.initialized M1.1.cls ∈ vT) (o9 : M1.1.cls ≠ "java/lang/invoke/MethodHandle" ∧ M1.1.cls ≠ "java/lang/invoke/VarHandle") (hp : (parseMethodDescriptor M1.1.desc).map (fun d => d.parameters.length) = some 5) (hV : VS G M1 fr1 lo1 0 (vArgs 0 (.ref (ad q i) :: [x1, x2, x3, x4, x5])) [] nc nm ad X Z L mc1 ms1 Q1) (hh : M.2.2.2.2 = []) (kk : ∀ v X' Z' L', Q1 (.inl v) X' Z' L' → VS G M fr lo (pc + 3) lv (v.toList ++ st) nc nm ad X' Z' L' (mc - mc1) (ms - ms1) Q) (kx : ∀ E X' Z' L', Q1 (.inr E) X' Z' L' → Q (.inr E) X' Z' L') (b1 : mc1 ≤ mc := by first | exact Nat.le_of_ble_eq_true rfl | omega) (b2 : ms1 ≤ ms := by first | exact Nat.le_of_ble_eq_true rfl | omega) (b3 : fr1 + 1 ≤ fr := by first | exact Nat.le_of_ble_eq_true rfl | omega) (b4 : 8 + (M1.2.2.1 + 11) + lo1 ≤ lo := by first | exact Nat.le_of_ble_eq_true rfl | omega) (b5 : (st.map fun v => v.category).sum ≤ 8 := by first | exact Nat.le_of_ble_eq_true rfl | simp [Value.category, vRf_cat]) : VS G M fr lo pc lv (x5 :: x4 :: x3 :: x2 :: x1 :: .ref (ad q i) :: st) nc nm ad X Z L mc ms Q := fun h hP => v_callV5 d (hP.o hv he).1 (hP.o hv he).2 hc hw hin hse o1 c1 c2 c3 c4 c5 o3 o4 o5 o9 hp (hV h hP) (fun v h' z => by obtain ⟨X', Z', L', z2, z3⟩ := z; exact kk v X' Z' L' z3 h' z2) (fun E h' z => by obtain ⟨X', Z', L', z2, z3⟩ := z; exact Or.inl ⟨by rw [hh]; exact fun x hx => (nomatch hx), X', Z', L', z2, kx E X' Z' L' z3⟩) b1 b2 b3 b4 b5
theorem s_callV5r {idx ci : Nat} {fs : List Value} {w : vw_C} {x1 x2 x3 x4 x5 : Value} {x : Value} (q i : Nat) (d : decode M.2.1 pc = .ok (.invokevirtual idx, 3)) (hv : cV X nc nm q i = true) (he : cE G ad X Z L q i = .inl (.inr (ci, fs))) (hc : vCl[ci]? = some w) (hw : Cond.methodLink M.1.cls idx M1.1 ∈ vT) (hin : Cond.instanceMethod M1.1 ∈ vT) (hse : Cond.selects w.1 M1.1 M1.1 ∈ vT) (o1 : plainName M1.1.cls = true) (c1 : x1.category = 1) (c2 : x2.category = 1) (c3 : x3.category = 1) (c4 : x4.category = 1) (c5 : x5.category = 1) (o3 : 6 ≤ M1.2.2.1) (o4 : vCw M1 ∈ vT) (o5 : Cond.initialized M1.1.cls ∈ vT) (o9 : M1.1.cls ≠ "java/lang/invoke/MethodHandle" ∧ M1.1.cls ≠ "java/lang/invoke/VarHandle") (hp : (parseMethodDescriptor M1.1.desc).map (fun d => d.parameters.length) = some 5) (hV : VS G M1 fr1 lo1 0 (vArgs 0 (.ref (ad q i) :: [x1, x2, x3, x4, x5])) [] nc nm ad X Z L 0 0 (sRet (some x) X1 Z1 L1)) (k : VS G M fr lo (pc + 3) lv (x :: st) nc nm ad X1 Z1 L1 mc ms Q) (b3 : fr1 + 1 ≤ fr := by first | exact Nat.le_of_ble_eq_true rfl | omega) (b4 : 8 + (M1.2.2.1 + 11) + lo1 ≤ lo := by first | exact Nat.le_of_ble_eq_true rfl | omega) (b5 : (st.map fun v => v.category).sum ≤ 8 := by first | exact Nat.le_of_ble_eq_true rfl | simp [Value.category, vRf_cat]) : VS G M fr lo pc lv (x5 :: x4 :: x3 :: x2 :: x1 :: .ref (ad q i) :: st) nc nm ad X Z L mc ms Q := fun h hP => v_callV5 d (hP.o hv he).1 (hP.o hv he).2 hc hw hin hse o1 c1 c2 c3 c4 c5 o3 o4 o5 o9 hp (hV h hP) (fun v h' z => by obtain ⟨X', Z', L', z2, z3, rfl, rfl, rfl⟩ := z; cases z3; exact k h' z2) (fun E h' z => by obtain ⟨X', Z', L', z2, z3, -⟩ := z; cases z3) (Nat.zero_le _) (Nat.zero_le _) b3 b4 b5
theorem s_callV5u {idx ci : Nat} {fs : List Value} {w : vw_C} {x1 x2 x3 x4 x5 : Value} (q i : Nat) (d : decode M.2.1 pc = .ok (.invokevirtual idx, 3)) (hv : cV X nc nm q i = true) (he : cE G ad X Z L q i = .inl (.inr (ci, fs))) (hc : vCl[ci]? = some w) (hw : Cond.methodLink M.1.cls idx M1.1 ∈ vT) (hin : Cond.instanceMethod M1.1 ∈ vT) (hse : Cond.selects w.1 M1.1 M1.1 ∈ vT) (o1 : plainName M1.1.cls = true) (c1 : x1.category = 1) (c2 : x2.category = 1) (c3 : x3.category = 1) (c4 : x4.category = 1) (c5 : x5.category = 1) (o3 : 6 ≤ M1.2.2.1) (o4 : vCw M1 ∈ vT) (o5 : Cond.initialized M1.1.cls ∈ vT) (o9 : M1.1.cls ≠ "java/lang/invoke/MethodHandle" ∧ M1.1.cls ≠ "java/lang/invoke/VarHandle") (hp : (parseMethodDescriptor M1.1.desc).map (fun d => d.parameters.length) = some 5) (hV : VS G M1 fr1 lo1 0 (vArgs 0 (.ref (ad q i) :: [x1, x2, x3, x4, x5])) [] nc nm ad X Z L 0 0 (sRet none X1 Z1 L1)) (k : VS G M fr lo (pc + 3) lv st nc nm ad X1 Z1 L1 mc ms Q) (b3 : fr1 + 1 ≤ fr := by first | exact Nat.le_of_ble_eq_true rfl | omega) (b4 : 8 + (M1.2.2.1 + 11) + lo1 ≤ lo := by first | exact Nat.le_of_ble_eq_true rfl | omega) (b5 : (st.map fun v => v.category).sum ≤ 8 := by first | exact Nat.le_of_ble_eq_true rfl | simp [Value.category, vRf_cat]) : VS G M fr lo pc lv (x5 :: x4 :: x3 :: x2 :: x1 :: .ref (ad q i) :: st) nc nm ad X Z L mc ms Q := fun h hP => v_callV5 d (hP.o hv he).1 (hP.o hv he).2 hc hw hin hse o1 c1 c2 c3 c4 c5 o3 o4 o5 o9 hp (hV h hP) (fun v h' z => by obtain ⟨X', Z', L', z2, z3, rfl, rfl, rfl⟩ := z; cases z3; exact k h' z2) (fun E h' z => by obtain ⟨X', Z', L', z2, z3, -⟩ := z; cases z3) (Nat.zero_le _) (Nat.zero_le _) b3 b4 b5
theorem s_callS1 {idx : Nat} {x1 : Value} (d : decode M.2.1 pc = .ok (.invokestatic idx, 3)) (hw : Cond.methodLink M.1.cls idx M1.1 ∈ vT) (hst : Cond.static M1.1 ∈ vT) (o1 : plainName M1.1.cls = true) (c1 : x1.category = 1) (o3 : 1 ≤ M1.2.2.1) (o4 : vCw M1 ∈ vT) (o5 : Cond.initialized M1.1.cls ∈ vT) (o9 : M1.1.cls ≠ "java/lang/invoke/MethodHandle" ∧ M1.1.cls ≠ "java/lang/invoke/VarHandle") (hp : (parseMethodDescriptor M1.1.desc).map (fun d => d.parameters.length) = some 1) (hV : VS G M1 fr1 lo1 0 (vArgs 0 [x1]) [] nc nm ad X Z L mc1 ms1 Q1) (hh : M.2.2.2.2 = []) (kk : ∀ v X' Z' L', Q1 (.inl v) X' Z' L' → VS G M fr lo (pc + 3) lv (v.toList ++ st) nc nm ad X' Z' L' (mc - mc1) (ms - ms1) Q) (kx : ∀ E X' Z' L', Q1 (.inr E) X' Z' L' → Q (.inr E) X' Z' L') (b1 : mc1 ≤ mc := by first | exact Nat.le_of_ble_eq_true rfl | omega) (b2 : ms1 ≤ ms := by first | exact Nat.le_of_ble_eq_true rfl | omega) (b3 : fr1 + 1 ≤ fr := by first | exact Nat.le_of_ble_eq_true rfl | omega) (b4 : 8 + (M1.2.2.1 + 11) + lo1 ≤ lo := by first | exact Nat.le_of_ble_eq_true rfl | omega) (b5 : (st.map fun v => v.category).sum ≤ 8 := by first | exact Nat.le_of_ble_eq_true rfl | simp [Value.category, vRf_cat]) : VS G M fr lo pc lv (x1 :: st) nc nm ad X Z L mc ms Q := fun h hP => v_callS1 d hw hst o1 c1 o3 o4 o5 o9 hp (hV h hP) (fun v h' z => by obtain ⟨X', Z', L', z2, z3⟩ := z; exact kk v X' Z' L' z3 h' z2) (fun E h' z => by obtain ⟨X', Z', L', z2, z3⟩ := z; exact Or.inl ⟨by rw [hh]; exact fun x hx => (nomatch hx), X', Z', L', z2, kx E X' Z' L' z3⟩) b1 b2 b3 b4 b5
theorem s_callS1r {idx : Nat} {x1 : Value} {x : Value} (d : decode M.2.1 pc = .ok (.invokestatic idx, 3)) (hw : Cond.methodLink M.1.cls idx M1.1 ∈ vT) (hst : Cond.static M1.1 ∈ vT) (o1 : plainName M1.1.cls = true) (c1 : x1.category = 1) (o3 : 1 ≤ M1.2.2.1) (o4 : vCw M1 ∈ vT) (o5 : Cond.initialized M1.1.cls ∈ vT) (o9 : M1.1.cls ≠ "java/lang/invoke/MethodHandle" ∧ M1.1.cls ≠ "java/lang/invoke/VarHandle") (hp : (parseMethodDescriptor M1.1.desc).map (fun d => d.parameters.length) = some 1) (hV : VS G M1 fr1 lo1 0 (vArgs 0 [x1]) [] nc nm ad X Z L 0 0 (sRet (some x) X1 Z1 L1)) (k : VS G M fr lo (pc + 3) lv (x :: st) nc nm ad X1 Z1 L1 mc ms Q) (b3 : fr1 + 1 ≤ fr := by first | exact Nat.le_of_ble_eq_true rfl | omega) (b4 : 8 + (M1.2.2.1 + 11) + lo1 ≤ lo := by first | exact Nat.le_of_ble_eq_true rfl | omega) (b5 : (st.map fun v => v.category).sum ≤ 8 := by first | exact Nat.le_of_ble_eq_true rfl | simp [Value.category, vRf_cat]) : VS G M fr lo pc lv (x1 :: st) nc nm ad X Z L mc ms Q := fun h hP => v_callS1 d hw hst o1 c1 o3 o4 o5 o9 hp (hV h hP) (fun v h' z => by obtain ⟨X', Z', L', z2, z3, rfl, rfl, rfl⟩ := z; cases z3; exact k h' z2) (fun E h' z => by obtain ⟨X', Z', L', z2, z3, -⟩ := z; cases z3) (Nat.zero_le _) (Nat.zero_le _) b3 b4 b5
theorem s_callS1u {idx : Nat} {x1 : Value} (d : decode M.2.1 pc = .ok (.invokestatic idx, 3)) (hw : Cond.methodLink M.1.cls idx M1.1 ∈ vT) (hst : Cond.static M1.1 ∈ vT) (o1 : plainName M1.1.cls = true) (c1 : x1.category = 1) (o3 : 1 ≤ M1.2.2.1) (o4 : vCw M1 ∈ vT) (o5 : Cond.initialized M1.1.cls ∈ vT) (o9 : M1.1.cls ≠ "java/lang/invoke/MethodHandle" ∧ M1.1.cls ≠ "java/lang/invoke/VarHandle") (hp : (parseMethodDescriptor M1.1.desc).map (fun d => d.parameters.length) = some 1) (hV : VS G M1 fr1 lo1 0 (vArgs 0 [x1]) [] nc nm ad X Z L 0 0 (sRet none X1 Z1 L1)) (k : VS G M fr lo (pc + 3) lv st nc nm ad X1 Z1 L1 mc ms Q) (b3 : fr1 + 1 ≤ fr := by first | exact Nat.le_of_ble_eq_true rfl | omega) (b4 : 8 + (M1.2.2.1 + 11) + lo1 ≤ lo := by first | exact Nat.le_of_ble_eq_true rfl | omega) (b5 : (st.map fun v => v.category).sum ≤ 8 := by first | exact Nat.le_of_ble_eq_true rfl | simp [Value.category, vRf_cat]) : VS G M fr lo pc lv (x1 :: st) nc nm ad X Z L mc ms Q := fun h hP => v_callS1 d hw hst o1 c1 o3 o4 o5 o9 hp (hV h hP) (fun v h' z => by obtain ⟨X', Z', L', z2, z3, rfl, rfl, rfl⟩ := z; cases z3; exact k h' z2) (fun E h' z => by obtain ⟨X', Z', L', z2, z3, -⟩ := z; cases z3) (Nat.zero_le _) (Nat.zero_le _) b3 b4 b5
theorem s_callS2 {idx : Nat} {x1 x2 : Value} (d : decode M.2.1 pc = .ok (.invokestatic idx, 3)) (hw : Cond.methodLink M.1.cls idx M1.1 ∈ vT) (hst : Cond.static M1.1 ∈ vT) (o1 : plainName M1.1.cls = true) (c1 : x1.category = 1) (c2 : x2.category = 1) (o3 : 2 ≤ M1.2.2.1) (o4 : vCw M1 ∈ vT) (o5 : Cond.initialized M1.1.cls ∈ vT) (o9 : M1.1.cls ≠ "java/lang/invoke/MethodHandle" ∧ M1.1.cls ≠ "java/lang/invoke/VarHandle") (hp : (parseMethodDescriptor M1.1.desc).map (fun d => d.parameters.length) = some 2) (hV : VS G M1 fr1 lo1 0 (vArgs 0 [x1, x2]) [] nc nm ad X Z L mc1 ms1 Q1) (hh : M.2.2.2.2 = []) (kk : ∀ v X' Z' L', Q1 (.inl v) X' Z' L' → VS G M fr lo (pc + 3) lv (v.toList ++ st) nc nm ad X' Z' L' (mc - mc1) (ms - ms1) Q) (kx : ∀ E X' Z' L', Q1 (.inr E) X' Z' L' → Q (.inr E) X' Z' L') (b1 : mc1 ≤ mc := by first | exact Nat.le_of_ble_eq_true rfl | omega) (b2 : ms1 ≤ ms := by first | exact Nat.le_of_ble_eq_true rfl | omega) (b3 : fr1 + 1 ≤ fr := by first | exact Nat.le_of_ble_eq_true rfl | omega) (b4 : 8 + (M1.2.2.1 + 11) + lo1 ≤ lo := by first | exact Nat.le_of_ble_eq_true rfl | omega) (b5 : (st.map fun v => v.category).sum ≤ 8 := by first | exact Nat.le_of_ble_eq_true rfl | simp [Value.category, vRf_cat]) : VS G M fr lo pc lv (x2 :: x1 :: st) nc nm ad X Z L mc ms Q := fun h hP => v_callS2 d hw hst o1 c1 c2 o3 o4 o5 o9 hp (hV h hP) (fun v h' z => by obtain ⟨X', Z', L', z2, z3⟩ := z; exact kk v X' Z' L' z3 h' z2) (fun E h' z => by obtain ⟨X', Z', L', z2, z3⟩ := z; exact Or.inl ⟨by rw [hh]; exact fun x hx => (nomatch hx), X', Z', L', z2, kx E X' Z' L' z3⟩) b1 b2 b3 b4 b5
theorem s_callS2r {idx : Nat} {x1 x2 : Value} {x : Value} (d : decode M.2.1 pc = .ok (.invokestatic idx, 3)) (hw : Cond.methodLink M.1.cls idx M1.1 ∈ vT) (hst : Cond.static M1.1 ∈ vT) (o1 : plainName M1.1.cls = true) (c1 : x1.category = 1) (c2 : x2.category = 1) (o3 : 2 ≤ M1.2.2.1) (o4 : vCw M1 ∈ vT) (o5 : Cond.initialized M1.1.cls ∈ vT) (o9 : M1.1.cls ≠ "java/lang/invoke/MethodHandle" ∧ M1.1.cls ≠ "java/lang/invoke/VarHandle") (hp : (parseMethodDescriptor M1.1.desc).map (fun d => d.parameters.length) = some 2) (hV : VS G M1 fr1 lo1 0 (vArgs 0 [x1, x2]) [] nc nm ad X Z L 0 0 (sRet (some x) X1 Z1 L1)) (k : VS G M fr lo (pc + 3) lv (x :: st) nc nm ad X1 Z1 L1 mc ms Q) (b3 : fr1 + 1 ≤ fr := by first | exact Nat.le_of_ble_eq_true rfl | omega) (b4 : 8 + (M1.2.2.1 + 11) + lo1 ≤ lo := by first | exact Nat.le_of_ble_eq_true rfl | omega) (b5 : (st.map fun v => v.category).sum ≤ 8 := by first | exact Nat.le_of_ble_eq_true rfl | simp [Value.category, vRf_cat]) : VS G M fr lo pc lv (x2 :: x1 :: st) nc nm ad X Z L mc ms Q := fun h hP => v_callS2 d hw hst o1 c1 c2 o3 o4 o5 o9 hp (hV h hP) (fun v h' z => by obtain ⟨X', Z', L', z2, z3, rfl, rfl, rfl⟩ := z; cases z3; exact k h' z2) (fun E h' z => by obtain ⟨X', Z', L', z2, z3, -⟩ := z; cases z3) (Nat.zero_le _) (Nat.zero_le _) b3 b4 b5
theorem s_callS2u {idx : Nat} {x1 x2 : Value} (d : decode M.2.1 pc = .ok (.invokestatic idx, 3)) (hw : Cond.methodLink M.1.cls idx M1.1 ∈ vT) (hst : Cond.static M1.1 ∈ vT) (o1 : plainName M1.1.cls = true) (c1 : x1.category = 1) (c2 : x2.category = 1) (o3 : 2 ≤ M1.2.2.1) (o4 : vCw M1 ∈ vT) (o5 : Cond.initialized M1.1.cls ∈ vT) (o9 : M1.1.cls ≠ "java/lang/invoke/MethodHandle" ∧ M1.1.cls ≠ "java/lang/invoke/VarHandle") (hp : (parseMethodDescriptor M1.1.desc).map (fun d => d.parameters.length) = some 2) (hV : VS G M1 fr1 lo1 0 (vArgs 0 [x1, x2]) [] nc nm ad X Z L 0 0 (sRet none X1 Z1 L1)) (k : VS G M fr lo (pc + 3) lv st nc nm ad X1 Z1 L1 mc ms Q) (b3 : fr1 + 1 ≤ fr := by first | exact Nat.le_of_ble_eq_true rfl | omega) (b4 : 8 + (M1.2.2.1 + 11) + lo1 ≤ lo := by first | exact Nat.le_of_ble_eq_true rfl | omega) (b5 : (st.map fun v => v.category).sum ≤ 8 := by first | exact Nat.le_of_ble_eq_true rfl | simp [Value.category, vRf_cat]) : VS G M fr lo pc lv (x2 :: x1 :: st) nc nm ad X Z L mc ms Q := fun h hP => v_callS2 d hw hst o1 c1 c2 o3 o4 o5 o9 hp (hV h hP) (fun v h' z => by obtain ⟨X', Z', L', z2, z3, rfl, rfl, rfl⟩ := z; cases z3; exact k h' z2) (fun E h' z => by obtain ⟨X', Z', L', z2, z3, -⟩ := z; cases z3) (Nat.zero_le _) (Nat.zero_le _) b3 b4 b5
theorem s_callS3 {idx : Nat} {x1 x2 x3 : Value} (d : decode M.2.1 pc = .ok (.invokestatic idx, 3)) (hw : Cond.methodLink M.1.cls idx M1.1 ∈ vT) (hst : Cond.static M1.1 ∈ vT) (o1 : plainName M1.1.cls = true) (c1 : x1.category = 1) (c2 : x2.category = 1) (c3 : x3.category = 1) (o3 : 3 ≤ M1.2.2.1) (o4 : vCw M1 ∈ vT) (o5 : Cond.initialized M1.1.cls ∈ vT) (o9 : M1.1.cls ≠ "java/lang/invoke/MethodHandle" ∧ M1.1.cls ≠ "java/lang/invoke/VarHandle") (hp : (parseMethodDescriptor M1.1.desc).map (fun d => d.parameters.length) = some 3) (hV : VS G M1 fr1 lo1 0 (vArgs 0 [x1, x2, x3]) [] nc nm ad X Z L mc1 ms1 Q1) (hh : M.2.2.2.2 = []) (kk : ∀ v X' Z' L', Q1 (.inl v) X' Z' L' → VS G M fr lo (pc + 3) lv (v.toList ++ st) nc nm ad X' Z' L' (mc - mc1) (ms - ms1) Q) (kx : ∀ E X' Z' L', Q1 (.inr E) X' Z' L' → Q (.inr E) X' Z' L') (b1 : mc1 ≤ mc := by first | exact Nat.le_of_ble_eq_true rfl | omega) (b2 : ms1 ≤ ms := by first | exact Nat.le_of_ble_eq_true rfl | omega) (b3 : fr1 + 1 ≤ fr := by first | exact Nat.le_of_ble_eq_true rfl | omega) (b4 : 8 + (M1.2.2.1 + 11) + lo1 ≤ lo := by first | exact Nat.le_of_ble_eq_true rfl | omega) (b5 : (st.map fun v => v.category).sum ≤ 8 := by first | exact Nat.le_of_ble_eq_true rfl | simp [Value.category, vRf_cat]) : VS G M fr lo pc lv (x3 :: x2 :: x1 :: st) nc nm ad X Z L mc ms Q := fun h hP => v_callS3 d hw hst o1 c1 c2 c3 o3 o4 o5 o9 hp (hV h hP) (fun v h' z => by obtain ⟨X', Z', L', z2, z3⟩ := z; exact kk v X' Z' L' z3 h' z2) (fun E h' z => by obtain ⟨X', Z', L', z2, z3⟩ := z; exact Or.inl ⟨by rw [hh]; exact fun x hx => (nomatch hx), X', Z', L', z2, kx E X' Z' L' z3⟩) b1 b2 b3 b4 b5
theorem s_callS3r {idx : Nat} {x1 x2 x3 : Value} {x : Value} (d : decode M.2.1 pc = .ok (.invokestatic idx, 3)) (hw : Cond.methodLink M.1.cls idx M1.1 ∈ vT) (hst : Cond.static M1.1 ∈ vT) (o1 : plainName M1.1.cls = true) (c1 : x1.category = 1) (c2 : x2.category = 1) (c3 : x3.category = 1) (o3 : 3 ≤ M1.2.2.1) (o4 : vCw M1 ∈ vT) (o5 : Cond.initialized M1.1.cls ∈ vT) (o9 : M1.1.cls ≠ "java/lang/invoke/MethodHandle" ∧ M1.1.cls ≠ "java/lang/invoke/VarHandle") (hp : (parseMethodDescriptor M1.1.desc).map (fun d => d.parameters.length) = some 3) (hV : VS G M1 fr1 lo1 0 (vArgs 0 [x1, x2, x3]) [] nc nm ad X Z L 0 0 (sRet (some x) X1 Z1 L1)) (k : VS G M fr lo (pc + 3) lv (x :: st) nc nm ad X1 Z1 L1 mc ms Q) (b3 : fr1 + 1 ≤ fr := by first | exact Nat.le_of_ble_eq_true rfl | omega) (b4 : 8 + (M1.2.2.1 + 11) + lo1 ≤ lo := by first | exact Nat.le_of_ble_eq_true rfl | omega) (b5 : (st.map fun v => v.category).sum ≤ 8 := by first | exact Nat.le_of_ble_eq_true rfl | simp [Value.category, vRf_cat]) : VS G M fr lo pc lv (x3 :: x2 :: x1 :: st) nc nm ad X Z L mc ms Q := fun h hP => v_callS3 d hw hst o1 c1 c2 c3 o3 o4 o5 o9 hp (hV h hP) (fun v h' z => by obtain ⟨X', Z', L', z2, z3, rfl, rfl, rfl⟩ := z; cases z3; exact k h' z2) (fun E h' z => by obtain ⟨X', Z', L', z2, z3, -⟩ := z; cases z3) (Nat.zero_le _) (Nat.zero_le _) b3 b4 b5
theorem s_callS3u {idx : Nat} {x1 x2 x3 : Value} (d : decode M.2.1 pc = .ok (.invokestatic idx, 3)) (hw : Cond.methodLink M.1.cls idx M1.1 ∈ vT) (hst : Cond.static M1.1 ∈ vT) (o1 : plainName M1.1.cls = true) (c1 : x1.category = 1) (c2 : x2.category = 1) (c3 : x3.category = 1) (o3 : 3 ≤ M1.2.2.1) (o4 : vCw M1 ∈ vT) (o5 : Cond.initialized M1.1.cls ∈ vT) (o9 : M1.1.cls ≠ "java/lang/invoke/MethodHandle" ∧ M1.1.cls ≠ "java/lang/invoke/VarHandle") (hp : (parseMethodDescriptor M1.1.desc).map (fun d => d.parameters.length) = some 3) (hV : VS G M1 fr1 lo1 0 (vArgs 0 [x1, x2, x3]) [] nc nm ad X Z L 0 0 (sRet none X1 Z1 L1)) (k : VS G M fr lo (pc + 3) lv st nc nm ad X1 Z1 L1 mc ms Q) (b3 : fr1 + 1 ≤ fr := by first | exact Nat.le_of_ble_eq_true rfl | omega) (b4 : 8 + (M1.2.2.1 + 11) + lo1 ≤ lo := by first | exact Nat.le_of_ble_eq_true rfl | omega) (b5 : (st.map fun v => v.category).sum ≤ 8 := by first | exact Nat.le_of_ble_eq_true rfl | simp [Value.category, vRf_cat]) : VS G M fr lo pc lv (x3 :: x2 :: x1 :: st) nc nm ad X Z L mc ms Q := fun h hP => v_callS3 d hw hst o1 c1 c2 c3 o3 o4 o5 o9 hp (hV h hP) (fun v h' z => by obtain ⟨X', Z', L', z2, z3, rfl, rfl, rfl⟩ := z; cases z3; exact k h' z2) (fun E h' z => by obtain ⟨X', Z', L', z2, z3, -⟩ := z; cases z3) (Nat.zero_le _) (Nat.zero_le _) b3 b4 b5
theorem s_mmin {idx : Nat} {x y : Int32} (d : decode M.2.1 pc = .ok (.invokestatic idx, 3)) (hw : Cond.methodLink M.1.cls idx ⟨"java/lang/Math", "min", "(II)I"⟩ ∈ vT) (k : VS G M fr lo (pc + 3) lv (.int (if y < x then y else x) :: st) nc nm ad X Z L mc ms Q) (b1 : 1 ≤ fr := by first | exact Nat.le_of_ble_eq_true rfl | omega) (b5 : (st.map fun v => v.category).sum + 13 ≤ lo := by first | exact Nat.le_of_ble_eq_true rfl | simp [Value.category, vRf_cat]) : VS G M fr lo pc lv (.int y :: .int x :: st) nc nm ad X Z L mc ms Q := fun h hP => v_mmin d hw (k h hP) b1 b5
end VSt
