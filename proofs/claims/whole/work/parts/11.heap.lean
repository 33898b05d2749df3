/-! The rows of V that read, write and make cells. -/
section VHp
variable {G : vG} {M : vM} {fr lo pc : Nat} {lv lv' : List (Nat × Value)} {st : List Value} {h : vH} {mc ms : Nat} {Q Q' : vQ}
theorem vts {p : Program} {l : Launch} {s : State} {m : MethodId} {meth : Method} {c : Code} {A : Nat → Prop} (C1 : vCx G M p l s m meth c A) (args : Array Value) : ∀ w ∈ vT, w.before args s = true := fun w hw => C1.2.2.2.2.2.2.2.2.2.2.1 w hw args
theorem vown {p : Program} {l : Launch} {s : State} {m : MethodId} {meth : Method} {c : Code} {A : Nat → Prop} (C1 : vCx G M p l s m meth c A) : s.vm.findClass M.1.cls = some m.cls := C1.2.2.2.2.2.2.2.1
theorem venv {p : Program} {l : Launch} {s : State} {m : MethodId} {meth : Method} {c : Code} {A : Nat → Prop} (C1 : vCx G M p l s m meth c A) : vEnv G A s s.heap := C1.2.2.2.2.2.2.2.2.2.2
theorem vK {p : Program} {l : Launch} {s : State} {m : MethodId} {meth : Method} {c : Code} {A : Nat → Prop} (C1 : vCx G M p l s m meth c A) : va_K G.1 vCl (vTy G) s := (venv C1).2.1
theorem vhA {p : Program} {l : Launch} {s : State} {m : MethodId} {meth : Method} {c : Code} {A : Nat → Prop} (C1 : vCx G M p l s m meth c A) : ∀ q, s.heap.size ≤ q → A q := C1.2.2.2.2.2.2.2.2.2.1
theorem vplS {A : Nat → Prop} {L : List Nat} {f : Nat → va_E} {a k : Nat} {e : va_E} (hD : va_D A (va_pl L f)) (ha : a ∈ L) (hk : (va_pl L f)[k]? = some (a, f a)) : (va_pl L f).set k (a, e) = va_pl L (va_up f a e) := va_pl_set (X := []) hD ha hk
theorem vplG {L : List Nat} {f : Nat → va_E} {a : Nat} {e : va_E} (ha : a ∈ L) (he : f a = e) : ∃ k : Nat, (va_pl L f)[k]? = some (a, e) := by
  obtain ⟨k, hk⟩ := va_pl_get (X := []) (f := f) ha
  rw [he] at hk
  exact ⟨k, hk⟩
theorem vplN {A : Nat → Prop} {L : List Nat} {f : Nat → va_E} {q : Nat} {e : va_E} (hD : va_D A (va_pl L f ++ [(q, e)])) : q ∉ L ∧ va_pl L f ++ [(q, e)] = va_pl (L ++ [q]) (va_up f q e) := by
  have h1 : q ∉ L := va_pl_fresh2 (X := []) hD
  exact ⟨h1, va_pl_push h1⟩
theorem v_get {a ci N idx : Nat} {fs : List Value} {v : Value} {ref C : String} {T : u_T} (d : decode M.2.1 pc = .ok (.getfield idx, 3)) (hf : h.2 a = .inr (ci, fs)) (ha : a ∈ h.1) (hc : vCl[ci]? = some (C, T, N)) (hin : ∀ w ∈ u_ws C T N, w ∈ vT) (k : Nat) (hk : k < N) (hw : Cond.fieldLink M.1.cls idx ref (T k).2.1 (T k).2.2.1 ∈ vT) (hs : (T k).1 = ref ∨ Cond.sameField ref (T k).1 (T k).2.1 (T k).2.2.1 ∈ vT) (hv : fs[k]? = some v)
    (kk : V G M fr lo (pc + 3) lv (v :: st) h mc ms Q) : V G M fr lo pc lv (.ref a :: st) h mc ms Q := by
  intro p l e R s m args below meth c A H locs cells slots MC MS ls I
  obtain ⟨j, hj⟩ := vplG ha hf
  exact va_get I.1.1 I.1.2.1 (vts I.1 args) hin (vown I.1) (vK I.1) I.2.2.1 j hj hc k hk (vts I.1 args _ hw) (fun x hx => by
    rcases hs with e1 | e1
    · rw [← e1]; exact hx
    · exact u_same (vts I.1 args _ e1) x hx) hv d (kk p l e R s m args below meth c A H locs cells slots MC MS ls I)
def vSetF : List Value → Nat → Value → Option (List Value)
  | [], _, _ => none
  | _ :: r, 0, v => some (v :: r)
  | x :: r, k + 1, v => match vSetF r k v with | some t => some (x :: t) | none => none
theorem vSetF_eq : ∀ {fs : List Value} {k : Nat} {v : Value} {fs' : List Value}, vSetF fs k v = some fs' → fs.set k v = fs' ∧ k < fs.length
  | [], _, _, _, h => by cases h
  | _ :: r, 0, v, fs', h => by cases h; exact ⟨rfl, Nat.zero_lt_succ _⟩
  | x :: r, k + 1, v, fs', h => by
    unfold vSetF at h
    cases hr : vSetF r k v with
    | none => rw [hr] at h; cases h
    | some t =>
      rw [hr] at h
      cases h
      obtain ⟨e1, e2⟩ := vSetF_eq hr
      exact ⟨by rw [List.set_cons_succ, e1], Nat.succ_lt_succ e2⟩
theorem v_put {a ci N idx : Nat} {fs fs' : List Value} {v : Value} {ref C : String} {T : u_T} {ty0 : Nat → FieldType} (d : decode M.2.1 pc = .ok (.putfield idx, 3)) (hf : h.2 a = .inr (ci, fs)) (ha : a ∈ h.1) (hc : vCl[ci]? = some (C, T, N)) (hin : ∀ w ∈ u_ws C T N, w ∈ vT) (hty : ∀ k, k < N → parseFieldDescriptor (T k).2.2.1 = some (ty0 k)) (hnm : ∀ a, a < N → ∀ b, b < N → a ≠ b → (T a).2.1 ≠ (T b).2.1) (k : Nat) (hk : k < N) (hw : Cond.fieldLink M.1.cls idx ref (T k).2.1 (T k).2.2.1 ∈ vT) (hs : (T k).1 = ref ∨ Cond.sameField ref (T k).1 (T k).2.1 (T k).2.2.1 ∈ vT) (hfin : (T k).2.2.2 = false ∨ ((T k).2.2.2 = true ∧ M.1.name = "<init>" ∧ (T k).1 = M.1.cls)) (hn : narrow (ty0 k) v = v) (hfit : fits (ty0 k) v = true) (he : vSetF fs k v = some fs')
    (kk : V G M fr lo (pc + 3) lv st (h.1, va_up h.2 a (.inr (ci, fs'))) mc ms Q) : V G M fr lo pc lv (v :: .ref a :: st) h mc ms Q := by
  obtain ⟨he, hl⟩ := vSetF_eq he
  subst he
  intro p l e R s m args below meth c A H locs cells slots MC MS ls I
  obtain ⟨j, hj⟩ := vplG ha hf
  have hj0 : (va_pl h.1 h.2)[j]? = some (a, h.2 a) := by rw [hf]; exact hj
  have hsame : ∀ x, s.fieldFound? (T k).1 (T k).2.1 (T k).2.2.1 = some x → s.fieldFound? ref (T k).2.1 (T k).2.2.1 = some x := fun x hx => by
    rcases hs with e1 | e1
    · rw [← e1]; exact hx
    · exact u_same (vts I.1 args _ e1) x hx
  rcases hfin with h0 | ⟨h0, h1, h2⟩
  · refine va_put I.1.1 I.1.2.1 (vts I.1 args) hin ty0 hty hnm (vown I.1) (vK I.1) I.2.2.1 I.2.2.2.1 I.2.2.2.2.1 j hj hc k hk (vts I.1 args _ hw) hsame h0 (hty k hk) hn hfit hl d (fun H1 locs1 hP hD hS => ?_)
    rw [vplS I.2.2.2.1 ha hj0] at hP hD
    exact kk p l e R s m args below meth c A H1 locs1 cells slots MC MS ls ⟨I.1, I.2.1, hP, hD, hS, I.2.2.2.2.2⟩
  · refine va_putF I.1.1 I.1.2.1 (vts I.1 args) hin ty0 hty hnm (vown I.1) (vK I.1) I.2.2.1 I.2.2.2.1 I.2.2.2.2.1 j hj hc k hk (vts I.1 args _ hw) hsame h0 (I.1.2.2.2.2.2.2.1.trans h1) h2 (hty k hk) hn hfit hl d (fun H1 locs1 hP hD hS => ?_)
    rw [vplS I.2.2.2.1 ha hj0] at hP hD
    exact kk p l e R s m args below meth c A H1 locs1 cells slots MC MS ls ⟨I.1, I.2.1, hP, hD, hS, I.2.2.2.2.2⟩
theorem v_iald {a n : Nat} {f : Nat → Int32} {i : Int32} (d : decode M.2.1 pc = .ok (.iaload, 1)) (hf : h.2 a = .inl (G.2.1 0, n, .inl f)) (ha : a ∈ h.1) (hi : vp_in i n) (kk : V G M fr lo (pc + 1) lv (.int (f i.toNatClampNeg) :: st) h mc ms Q) : V G M fr lo pc lv (.int i :: .ref a :: st) h mc ms Q := by
  intro p l e R s m args below meth c A H locs cells slots MC MS ls I
  obtain ⟨j, hj⟩ := vplG ha hf
  exact va_iald I.1.1 I.1.2.1 (vK I.1) I.2.2.1 j 0 hj rfl hi d (kk p l e R s m args below meth c A H locs cells slots MC MS ls I)
theorem v_zald {a n : Nat} {f : Nat → Int32} {i : Int32} (d : decode M.2.1 pc = .ok (.baload, 1)) (hf : h.2 a = .inl (G.2.1 1, n, .inl f)) (ha : a ∈ h.1) (hi : vp_in i n) (kk : V G M fr lo (pc + 1) lv (.int (f i.toNatClampNeg) :: st) h mc ms Q) : V G M fr lo pc lv (.int i :: .ref a :: st) h mc ms Q := by
  intro p l e R s m args below meth c A H locs cells slots MC MS ls I
  obtain ⟨j, hj⟩ := vplG ha hf
  exact va_zald I.1.1 I.1.2.1 (vK I.1) I.2.2.1 j 1 hj rfl hi d (kk p l e R s m args below meth c A H locs cells slots MC MS ls I)
theorem v_lald {a n : Nat} {f : Nat → Int64} {i : Int32} (d : decode M.2.1 pc = .ok (.laload, 1)) (hf : h.2 a = .inl (G.2.1 2, n, .inr (.inl f))) (ha : a ∈ h.1) (hi : vp_in i n) (kk : V G M fr lo (pc + 1) lv (.long (f i.toNatClampNeg) :: st) h mc ms Q) : V G M fr lo pc lv (.int i :: .ref a :: st) h mc ms Q := by
  intro p l e R s m args below meth c A H locs cells slots MC MS ls I
  obtain ⟨j, hj⟩ := vplG ha hf
  exact va_lald I.1.1 I.1.2.1 (vK I.1) I.2.2.1 j 2 hj rfl hi d (kk p l e R s m args below meth c A H locs cells slots MC MS ls I)
theorem v_aald {a n : Nat} {f : Nat → Option Nat} {i : Int32} (d : decode M.2.1 pc = .ok (.aaload, 1)) (hf : h.2 a = .inl (G.2.1 3, n, .inr (.inr (.inr (.inr f))))) (ha : a ∈ h.1) (hi : vp_in i n) (kk : V G M fr lo (pc + 1) lv (va_rf (f i.toNatClampNeg) :: st) h mc ms Q) : V G M fr lo pc lv (.int i :: .ref a :: st) h mc ms Q := by
  intro p l e R s m args below meth c A H locs cells slots MC MS ls I
  obtain ⟨j, hj⟩ := vplG ha hf
  exact va_aldq (C := "java/lang/Object") I.1.1 I.1.2.1 (vK I.1) I.2.2.1 j 3 hj rfl hi d (kk p l e R s m args below meth c A H locs cells slots MC MS ls I)
theorem v_iast {a n : Nat} {f : Nat → Int32} {i x : Int32} (d : decode M.2.1 pc = .ok (.iastore, 1)) (hf : h.2 a = .inl (G.2.1 0, n, .inl f)) (ha : a ∈ h.1) (hi : vp_in i n) (kk : V G M fr lo (pc + 1) lv st (h.1, va_up h.2 a (.inl (G.2.1 0, n, .inl (upd f i.toNatClampNeg x)))) mc ms Q) : V G M fr lo pc lv (.int x :: .int i :: .ref a :: st) h mc ms Q := by
  intro p l e R s m args below meth c A H locs cells slots MC MS ls I
  obtain ⟨j, hj⟩ := vplG ha hf
  have hj0 : (va_pl h.1 h.2)[j]? = some (a, h.2 a) := by rw [hf]; exact hj
  refine va_iast I.1.1 I.1.2.1 (vK I.1) I.2.2.1 I.2.2.2.1 I.2.2.2.2.1 j 0 hj rfl hi d (fun H1 locs1 hP hD hS => ?_)
  rw [vplS I.2.2.2.1 ha hj0] at hP hD
  exact kk p l e R s m args below meth c A H1 locs1 cells slots MC MS ls ⟨I.1, I.2.1, hP, hD, hS, I.2.2.2.2.2⟩
theorem v_zast {a n : Nat} {f : Nat → Int32} {i x : Int32} (d : decode M.2.1 pc = .ok (.bastore, 1)) (hf : h.2 a = .inl (G.2.1 1, n, .inl f)) (ha : a ∈ h.1) (hi : vp_in i n) (hx : vp_nar .boolean x = x) (kk : V G M fr lo (pc + 1) lv st (h.1, va_up h.2 a (.inl (G.2.1 1, n, .inl (upd f i.toNatClampNeg x)))) mc ms Q) : V G M fr lo pc lv (.int x :: .int i :: .ref a :: st) h mc ms Q := by
  intro p l e R s m args below meth c A H locs cells slots MC MS ls I
  obtain ⟨j, hj⟩ := vplG ha hf
  have hj0 : (va_pl h.1 h.2)[j]? = some (a, h.2 a) := by rw [hf]; exact hj
  refine va_zast I.1.1 I.1.2.1 (vK I.1) I.2.2.1 I.2.2.2.1 I.2.2.2.2.1 j 1 hj rfl hi d (fun H1 locs1 hP hD hS => ?_)
  rw [hx, vplS I.2.2.2.1 ha hj0] at hP hD
  exact kk p l e R s m args below meth c A H1 locs1 cells slots MC MS ls ⟨I.1, I.2.1, hP, hD, hS, I.2.2.2.2.2⟩
theorem v_last {a n : Nat} {f : Nat → Int64} {i : Int32} {x : Int64} (d : decode M.2.1 pc = .ok (.lastore, 1)) (hf : h.2 a = .inl (G.2.1 2, n, .inr (.inl f))) (ha : a ∈ h.1) (hi : vp_in i n) (kk : V G M fr lo (pc + 1) lv st (h.1, va_up h.2 a (.inl (G.2.1 2, n, .inr (.inl (vp_updL f i.toNatClampNeg x))))) mc ms Q) : V G M fr lo pc lv (.long x :: .int i :: .ref a :: st) h mc ms Q := by
  intro p l e R s m args below meth c A H locs cells slots MC MS ls I
  obtain ⟨j, hj⟩ := vplG ha hf
  have hj0 : (va_pl h.1 h.2)[j]? = some (a, h.2 a) := by rw [hf]; exact hj
  refine va_last I.1.1 I.1.2.1 (vK I.1) I.2.2.1 I.2.2.2.1 I.2.2.2.2.1 j 2 hj rfl hi d (fun H1 locs1 hP hD hS => ?_)
  rw [vplS I.2.2.2.1 ha hj0] at hP hD
  exact kk p l e R s m args below meth c A H1 locs1 cells slots MC MS ls ⟨I.1, I.2.1, hP, hD, hS, I.2.2.2.2.2⟩
theorem v_aastN {a n : Nat} {f : Nat → Option Nat} {i : Int32} (d : decode M.2.1 pc = .ok (.aastore, 1)) (hf : h.2 a = .inl (G.2.1 3, n, .inr (.inr (.inr (.inr f))))) (ha : a ∈ h.1) (hi : vp_in i n) (kk : V G M fr lo (pc + 1) lv st (h.1, va_up h.2 a (.inl (G.2.1 3, n, .inr (.inr (.inr (.inr (va_up f i.toNatClampNeg none))))))) mc ms Q) : V G M fr lo pc lv (.null :: .int i :: .ref a :: st) h mc ms Q := by
  intro p l e R s m args below meth c A H locs cells slots MC MS ls I
  obtain ⟨j, hj⟩ := vplG ha hf
  have hj0 : (va_pl h.1 h.2)[j]? = some (a, h.2 a) := by rw [hf]; exact hj
  refine va_astqN (C := "java/lang/Object") I.1.1 I.1.2.1 (vK I.1) I.2.2.1 I.2.2.2.1 I.2.2.2.2.1 j 3 hj rfl hi d (fun H1 locs1 hP hD hS => ?_)
  rw [vplS I.2.2.2.1 ha hj0] at hP hD
  exact kk p l e R s m args below meth c A H1 locs1 cells slots MC MS ls ⟨I.1, I.2.1, hP, hD, hS, I.2.2.2.2.2⟩
theorem v_aast {a n b ci : Nat} {vs : List Value} {r : vw_C} {f : Nat → Option Nat} {i : Int32} (d : decode M.2.1 pc = .ok (.aastore, 1)) (hf : h.2 a = .inl (G.2.1 3, n, .inr (.inr (.inr (.inr f))))) (ha : a ∈ h.1) (hg : h.2 b = .inr (ci, vs)) (hb : b ∈ h.1) (hc : vCl[ci]? = some r) (hx : Cond.castable r.1 "java/lang/Object" ∈ vT) (hi : vp_in i n) (kk : V G M fr lo (pc + 1) lv st (h.1, va_up h.2 a (.inl (G.2.1 3, n, .inr (.inr (.inr (.inr (va_up f i.toNatClampNeg (some b)))))))) mc ms Q) : V G M fr lo pc lv (.ref b :: .int i :: .ref a :: st) h mc ms Q := by
  intro p l e R s m args below meth c A H locs cells slots MC MS ls I
  obtain ⟨j, hj⟩ := vplG ha hf
  obtain ⟨jb, hjb⟩ := vplG hb hg
  have hj0 : (va_pl h.1 h.2)[j]? = some (a, h.2 a) := by rw [hf]; exact hj
  refine va_astqO (E := "java/lang/Object") I.1.1 I.1.2.1 (vK I.1) I.2.2.1 I.2.2.2.1 I.2.2.2.2.1 j 3 jb ci hj rfl (va_Nw.of rfl (vts I.1 args _ hx)) hjb hc hi d (fun H1 locs1 hP hD hS => ?_)
  rw [vplS I.2.2.2.1 ha hj0] at hP hD
  exact kk p l e R s m args below meth c A H1 locs1 cells slots MC MS ls ⟨I.1, I.2.1, hP, hD, hS, I.2.2.2.2.2⟩
theorem v_alen {a k : Nat} {x : vp_A} (d : decode M.2.1 pc = .ok (.arraylength, 1)) (hk : k < 4) (hf : h.2 a = .inl (G.2.1 k, x)) (ha : a ∈ h.1) (kk : V G M fr lo (pc + 1) lv (.int (Int32.ofNat x.1) :: st) h mc ms Q) : V G M fr lo pc lv (.ref a :: st) h mc ms Q := by
  intro p l e R s m args below meth c A H locs cells slots MC MS ls I
  obtain ⟨j, hj⟩ := vplG ha hf
  have ht : ∃ ty, (vTy G)[k]? = some (G.2.1 k, ty) := by
    rcases (show k = 0 ∨ k = 1 ∨ k = 2 ∨ k = 3 by omega) with rfl | rfl | rfl | rfl <;> exact ⟨_, rfl⟩
  obtain ⟨ty, ht⟩ := ht
  exact va_alen I.1.1 I.1.2.1 (vK I.1) I.2.2.1 j k hj ht rfl d (kk p l e R s m args below meth c A H locs cells slots MC MS ls I)
/-- the empty array that every new list begins with -/
theorem v_elen (d : decode M.2.1 pc = .ok (.arraylength, 1)) (kk : V G M fr lo (pc + 1) lv (.int 0 :: st) h mc ms Q) : V G M fr lo pc lv (.ref G.2.2.1 :: st) h mc ms Q := by
  intro p l e R s m args below meth c A H locs cells slots MC MS ls I
  exact va_tlen I.1.1 I.1.2.1 (venv I.1).2.2.2.1.2 I.2.2.2.2.1 (v := 0) rfl d (kk p l e R s m args below meth c A H locs cells slots MC MS ls I)
theorem v_gets {idx : Nat} (d : decode M.2.1 pc = .ok (.getstatic idx, 3)) (hw : Cond.fieldLink M.1.cls idx "java/util/ArrayList" "DEFAULTCAPACITY_EMPTY_ELEMENTDATA" "[Ljava/lang/Object;" ∈ vT) (kk : V G M fr lo (pc + 3) lv (.ref G.2.2.1 :: st) h mc ms Q) : V G M fr lo pc lv st h mc ms Q := by
  intro p l e R s m args below meth c A H locs cells slots MC MS ls I
  exact va_gets I.1.1 I.1.2.1 (venv I.1).2.2.2.1.1 I.2.2.2.2.1 (vown I.1) (vts I.1 args _ hw) (fun x hx => hx) d (kk p l e R s m args below meth c A H locs cells slots MC MS ls I)
/-- the empty array is none of the pool -/
theorem v_eo (k : (∀ a ∈ h.1, a ≠ G.2.2.1) → V G M fr lo pc lv st h mc ms Q) : V G M fr lo pc lv st h mc ms Q := by
  intro p l e R s m args below meth c A H locs cells slots MC MS ls I
  refine k (fun a ha he => ?_) p l e R s m args below meth c A H locs cells slots MC MS ls I
  obtain ⟨cell, -, -, -, -, -, -, hn⟩ := (venv I.1).2.2.2.1.2
  obtain ⟨j, hj⟩ := vplG (f := h.2) ha rfl
  exact hn (he ▸ I.2.2.2.1.2 j _ hj)
theorem v_slen (d : decode M.2.1 pc = .ok (.arraylength, 1)) (kk : V G M fr lo (pc + 1) lv (.int (Int32.ofNat G.2.2.2.2.2.1) :: st) h mc ms Q) : V G M fr lo pc lv (.ref G.2.2.2.2.1 :: st) h mc ms Q := by
  intro p l e R s m args below meth c A H locs cells slots MC MS ls I
  obtain ⟨hX, hb, hA⟩ := (venv I.1).2.2.2.2.2.2.2.2.2.2
  exact va_slen I.1.1 I.1.2.1 hX hb hA I.2.2.2.2.1 d (kk p l e R s m args below meth c A H locs cells slots MC MS ls I)
theorem v_sld {i : Int32} (d : decode M.2.1 pc = .ok (.iaload, 1)) (hi : vp_in i G.2.2.2.2.2.1) (kk : V G M fr lo (pc + 1) lv (.int (G.2.2.2.2.2.2 i.toNatClampNeg) :: st) h mc ms Q) : V G M fr lo pc lv (.int i :: .ref G.2.2.2.2.1 :: st) h mc ms Q := by
  intro p l e R s m args below meth c A H locs cells slots MC MS ls I
  obtain ⟨hX, hb, hA⟩ := (venv I.1).2.2.2.2.2.2.2.2.2.2
  exact va_sld I.1.1 I.1.2.1 hX hb hA I.2.2.2.2.1 hi d (kk p l e R s m args below meth c A H locs cells slots MC MS ls I)
theorem v_new {ci N idx : Nat} {fs : List Value} {C : String} {T : u_T} {ty : Nat → FieldType} (d : decode M.2.1 pc = .ok (.new idx, 3)) (hc : vCl[ci]? = some (C, T, N)) (hin : ∀ w ∈ u_ws C T N, w ∈ vT) (hty : ∀ k, k < N → parseFieldDescriptor (T k).2.2.1 = some (ty k)) (hw : Cond.classLink M.1.cls idx C ∈ vT) (hn : Cond.instantiable C N ∈ vT) (hi : Cond.initialized C ∈ vT) (hfs : ∀ j, j < N → defaultValue (ty j) = vp_V fs j)
    (kk : ∀ q : Nat, q ∉ h.1 → V G M fr lo (pc + 3) lv (.ref q :: st) (h.1 ++ [q], va_up h.2 q (.inr (ci, fs))) (mc - 1) (ms - N) Q) (b1 : 1 ≤ mc := by decide) (b2 : N ≤ ms := by decide) : V G M fr lo pc lv st h mc ms Q := by
  intro p l e R s m args below meth c A H locs cells slots MC MS ls I
  obtain ⟨I1, ⟨r1, r2, r3, r4, r5, r6⟩, I3, I4, I5, I6⟩ := I
  refine va_new I1.1 I1.2.1 (vts I1 args) hin ty hty (vown I1) (vts I1 args _ hw) (vts I1 args _ hn) (vts I1 args _ hi) (vK I1) I3 I4 I5 (vhA I1) hc hfs (by omega) (by omega) d (fun q H1 hP hD hS => ?_)
  obtain ⟨h1, h2⟩ := vplN hD
  rw [h2] at hP hD
  exact kk q h1 p l e R s m args below meth c A H1 locs (cells + 1) (slots + N) MC MS ls ⟨I1, ⟨r1, r2, by omega, by omega, r5, r6⟩, hP, hD, hS, I6⟩
theorem v_newi {n : Nat} {x : Int32} (d : decode M.2.1 pc = .ok (.newarray .int, 2)) (hx : x = nI n) (hn : n < 1000) (kk : ∀ q : Nat, q ∉ h.1 → V G M fr lo (pc + 2) lv (.ref q :: st) (h.1 ++ [q], va_up h.2 q (.inl (G.2.1 0, n, .inl (fun _ => 0)))) (mc - 1) (ms - n) Q) (b1 : 1 ≤ mc := by decide) (b2 : n ≤ ms := by decide) : V G M fr lo pc lv (.int x :: st) h mc ms Q := by
  subst hx
  intro p l e R s m args below meth c A H locs cells slots MC MS ls I
  obtain ⟨I1, ⟨r1, r2, r3, r4, r5, r6⟩, I3, I4, I5, I6⟩ := I
  refine va_newa (atype := .int) (ty := .int) (N' := n) (a0 := (n, .inl (fun _ => 0))) I1.1 I1.2.1 (vts I1 args _ kz_136) rfl (vK I1) I3 I4 I5 (vhA I1) (fun cA => rfl) (nI_pos (by omega)) (nI_clamp (by omega)) (by simp [componentBytes]; omega) (by omega) (by omega) d (fun q cA H1 hK hP hD hS => ?_)
  have e1 : cA = G.2.1 0 := Option.some.inj ((va_nm_int (hK.2 4 _ rfl).2).symm.trans (va_nm_int ((vK I1).2 0 _ rfl).2))
  rw [e1] at hP hD
  obtain ⟨h1, h2⟩ := vplN hD
  rw [h2] at hP hD
  exact kk q h1 p l e R s m args below meth c A H1 locs (cells + 1) (slots + n) MC MS ls ⟨I1, ⟨r1, r2, by omega, by omega, r5, r6⟩, hP, hD, hS, I6⟩
theorem v_newz {n : Nat} {x : Int32} (d : decode M.2.1 pc = .ok (.newarray .boolean, 2)) (hx : x = nI n) (hn : n < 1000) (kk : ∀ q : Nat, q ∉ h.1 → V G M fr lo (pc + 2) lv (.ref q :: st) (h.1 ++ [q], va_up h.2 q (.inl (G.2.1 1, n, .inl (fun _ => 0)))) (mc - 1) (ms - n) Q) (b1 : 1 ≤ mc := by decide) (b2 : n ≤ ms := by decide) : V G M fr lo pc lv (.int x :: st) h mc ms Q := by
  subst hx
  intro p l e R s m args below meth c A H locs cells slots MC MS ls I
  obtain ⟨I1, ⟨r1, r2, r3, r4, r5, r6⟩, I3, I4, I5, I6⟩ := I
  refine va_newa (atype := .boolean) (ty := .boolean) (N' := n) (a0 := (n, .inl (fun _ => 0))) I1.1 I1.2.1 (vts I1 args _ kz_137) rfl (vK I1) I3 I4 I5 (vhA I1) (fun cA => rfl) (nI_pos (by omega)) (nI_clamp (by omega)) (by simp [componentBytes]; omega) (by omega) (by omega) d (fun q cA H1 hK hP hD hS => ?_)
  have e1 : cA = G.2.1 1 := Option.some.inj ((va_nm_boolean (hK.2 4 _ rfl).2).symm.trans (va_nm_boolean ((vK I1).2 1 _ rfl).2))
  rw [e1] at hP hD
  obtain ⟨h1, h2⟩ := vplN hD
  rw [h2] at hP hD
  exact kk q h1 p l e R s m args below meth c A H1 locs (cells + 1) (slots + n) MC MS ls ⟨I1, ⟨r1, r2, by omega, by omega, r5, r6⟩, hP, hD, hS, I6⟩
theorem v_newl {n : Nat} {x : Int32} (d : decode M.2.1 pc = .ok (.newarray .long, 2)) (hx : x = nI n) (hn : n < 1000) (kk : ∀ q : Nat, q ∉ h.1 → V G M fr lo (pc + 2) lv (.ref q :: st) (h.1 ++ [q], va_up h.2 q (.inl (G.2.1 2, n, .inr (.inl (fun _ => 0))))) (mc - 1) (ms - n) Q) (b1 : 1 ≤ mc := by decide) (b2 : n ≤ ms := by decide) : V G M fr lo pc lv (.int x :: st) h mc ms Q := by
  subst hx
  intro p l e R s m args below meth c A H locs cells slots MC MS ls I
  obtain ⟨I1, ⟨r1, r2, r3, r4, r5, r6⟩, I3, I4, I5, I6⟩ := I
  refine va_newa (atype := .long) (ty := .long) (N' := n) (a0 := (n, .inr (.inl (fun _ => 0)))) I1.1 I1.2.1 (vts I1 args _ kz_959) rfl (vK I1) I3 I4 I5 (vhA I1) (fun cA => rfl) (nI_pos (by omega)) (nI_clamp (by omega)) (by simp [componentBytes]; omega) (by omega) (by omega) d (fun q cA H1 hK hP hD hS => ?_)
  have e1 : cA = G.2.1 2 := Option.some.inj ((va_nm_long (hK.2 4 _ rfl).2).symm.trans (va_nm_long ((vK I1).2 2 _ rfl).2))
  rw [e1] at hP hD
  obtain ⟨h1, h2⟩ := vplN hD
  rw [h2] at hP hD
  exact kk q h1 p l e R s m args below meth c A H1 locs (cells + 1) (slots + n) MC MS ls ⟨I1, ⟨r1, r2, by omega, by omega, r5, r6⟩, hP, hD, hS, I6⟩
theorem v_newq {n idx : Nat} {x : Int32} (d : decode M.2.1 pc = .ok (.anewarray idx, 3)) (hw : Cond.classLink M.1.cls idx "java/lang/Object" ∈ vT) (hx : x = nI n) (hn : n < 1000) (kk : ∀ q : Nat, q ∉ h.1 → V G M fr lo (pc + 3) lv (.ref q :: st) (h.1 ++ [q], va_up h.2 q (.inl (G.2.1 3, n, .inr (.inr (.inr (.inr (fun _ => none))))))) (mc - 1) (ms - n) Q) (b1 : 1 ≤ mc := by decide) (b2 : n ≤ ms := by decide) : V G M fr lo pc lv (.int x :: st) h mc ms Q := by
  subst hx
  intro p l e R s m args below meth c A H locs cells slots MC MS ls I
  obtain ⟨I1, ⟨r1, r2, r3, r4, r5, r6⟩, I3, I4, I5, I6⟩ := I
  refine va_newq (C := "java/lang/Object") (N' := n) I1.1 I1.2.1 (vown I1) (vts I1 args _ hw) (venv I1).2.2.2.2.2.2.2.2.1 (vK I1) I3 I4 I5 (vhA I1) (nI_pos (by omega)) (nI_clamp (by omega)) (by omega) (by omega) (by omega) d (fun q cA H1 hK hP hD hS => ?_)
  have e1 : cA = G.2.1 3 := Option.some.inj ((va_nmO (hK.2 4 _ rfl).2 rfl).symm.trans (va_nmO ((vK I1).2 3 _ rfl).2 rfl))
  rw [e1] at hP hD
  obtain ⟨h1, h2⟩ := vplN hD
  rw [h2] at hP hD
  exact kk q h1 p l e R s m args below meth c A H1 locs (cells + 1) (slots + n) MC MS ls ⟨I1, ⟨r1, r2, by omega, by omega, r5, r6⟩, hP, hD, hS, I6⟩
theorem v_cast {a ci idx : Nat} {fs : List Value} {q : vw_C} {nm : String} (d : decode M.2.1 pc = .ok (.checkcast idx, 3)) (hf : h.2 a = .inr (ci, fs)) (ha : a ∈ h.1) (hc : vCl[ci]? = some q) (hw : Cond.classLink M.1.cls idx nm ∈ vT) (hx : Cond.castable q.1 nm ∈ vT) (kk : V G M fr lo (pc + 3) lv (.ref a :: st) h mc ms Q) : V G M fr lo pc lv (.ref a :: st) h mc ms Q := by
  intro p l e R s m args below meth c A H locs cells slots MC MS ls I
  obtain ⟨j, hj⟩ := vplG ha hf
  exact va_castY I.1.1 I.1.2.1 (vown I.1) (vts I.1 args _ hw) (va_Nw.of rfl (vts I.1 args _ hx)) (va_recv (vK I.1) I.2.2.1 hc hj) d (kk p l e R s m args below meth c A H locs cells slots MC MS ls I)
theorem v_castN {idx : Nat} (d : decode M.2.1 pc = .ok (.checkcast idx, 3)) (kk : V G M fr lo (pc + 3) lv (.null :: st) h mc ms Q) : V G M fr lo pc lv (.null :: st) h mc ms Q := fun p l e R s m args below meth c A H locs cells slots MC MS ls I => lv_castN I.1.1 I.1.2.1 d (kk p l e R s m args below meth c A H locs cells slots MC MS ls I)
theorem v_ldcI {idx : Nat} {v : Int32} (d : decode M.2.1 pc = .ok (.ldc idx, 2)) (hw : Cond.constant M.1.cls idx v ∈ vT) (kk : V G M fr lo (pc + 2) lv (.int v :: st) h mc ms Q) : V G M fr lo pc lv st h mc ms Q := fun p l e R s m args below meth c A H locs cells slots MC MS ls I => lv_ldc I.1.1 I.1.2.1 (vown I.1) (vts I.1 args _ hw) d (kk p l e R s m args below meth c A H locs cells slots MC MS ls I)
theorem v_ldcM {idx : Nat} (d : decode M.2.1 pc = .ok (.ldc idx, 2)) (hw : Cond.classLink M.1.cls idx "[Ljava/lang/Object;" ∈ vT) (kk : V G M fr lo (pc + 2) lv (.ref G.2.2.2.1 :: st) h mc ms Q) : V G M fr lo pc lv st h mc ms Q := fun p l e R s m args below meth c A H locs cells slots MC MS ls I => va_ldcM I.1.1 I.1.2.1 (vown I.1) (vts I.1 args _ hw) (venv I.1).2.2.2.2.2.2.2.1 d (kk p l e R s m args below meth c A H locs cells slots MC MS ls I)
theorem v_tableIn {x : Int32} {dflt lo0 hi off : Int} {offs : Array Int} {len tgt : Nat} (d : decode M.2.1 pc = .ok (.tableswitch dflt lo0 hi offs, len)) (h1 : ¬ x.toInt < lo0) (h2 : ¬ hi < x.toInt) (ho : offs[(x.toInt - lo0).toNat]? = some off) (ht : (pc : Int) + off = (tgt : Int)) (kk : V G M fr lo tgt lv st h mc ms Q) : V G M fr lo pc lv (.int x :: st) h mc ms Q := fun p l e R s m args below meth c A H locs cells slots MC MS ls I => lv_tableIn I.1.1 I.1.2.1 d h1 h2 ho ht (kk p l e R s m args below meth c A H locs cells slots MC MS ls I)
theorem v_tableOut {x : Int32} {dflt lo0 hi : Int} {offs : Array Int} {len tgt : Nat} (d : decode M.2.1 pc = .ok (.tableswitch dflt lo0 hi offs, len)) (h1 : x.toInt < lo0 ∨ hi < x.toInt) (ht : (pc : Int) + dflt = (tgt : Int)) (kk : V G M fr lo tgt lv st h mc ms Q) : V G M fr lo pc lv (.int x :: st) h mc ms Q := fun p l e R s m args below meth c A H locs cells slots MC MS ls I => lv_tableOut I.1.1 I.1.2.1 d h1 ht (kk p l e R s m args below meth c A H locs cells slots MC MS ls I)
end VHp
