/-! The law: its pool is the class, the reference, and the array for the answers. -/
section VLw
def VW (G : vG) (M : vM) (fr lo pc : Nat) (lv : List (Nat × Value)) (st : List Value) (W : vH → Prop) (mc ms : Nat) (Q : vQ) : Prop := ∀ h : vH, W h → V G M fr lo pc lv st h mc ms Q
variable {G : vG} {M M1 : vM} {fr lo pc fr1 lo1 mc ms mc1 ms1 : Nat} {lv lv' : List (Nat × Value)} {st : List Value} {W : vH → Prop} {Q : vQ}
theorem w_iconst {n : Int} {v : Int32} (d : decode M.2.1 pc = .ok (.iconst n, 1)) (hv : Int32.ofInt n = v) (k : VW G M fr lo (pc + 1) lv (.int v :: st) W mc ms Q) : VW G M fr lo pc lv st W mc ms Q := fun h hP => v_iconst d hv (k h hP)
theorem w_bipush {n : Int} {v : Int32} (d : decode M.2.1 pc = .ok (.bipush n, 2)) (hv : (Int8.ofInt n).toInt32 = v) (k : VW G M fr lo (pc + 2) lv (.int v :: st) W mc ms Q) : VW G M fr lo pc lv st W mc ms Q := fun h hP => v_bipush d hv (k h hP)
theorem w_sipush {n : Int} {v : Int32} (d : decode M.2.1 pc = .ok (.sipush n, 3)) (hv : (Int16.ofInt n).toInt32 = v) (k : VW G M fr lo (pc + 3) lv (.int v :: st) W mc ms Q) : VW G M fr lo pc lv st W mc ms Q := fun h hP => v_sipush d hv (k h hP)
theorem w_null  (d : decode M.2.1 pc = .ok (.aconst_null, 1)) (k : VW G M fr lo (pc + 1) lv (.null :: st) W mc ms Q) : VW G M fr lo pc lv st W mc ms Q := fun h hP => v_null d (k h hP)
theorem w_iload_n {i : Fin 4} {x : Int32} (d : decode M.2.1 pc = .ok (.iload_n i, 1)) (hl : vGet lv i.val = some (.int x)) (k : VW G M fr lo (pc + 1) lv (.int x :: st) W mc ms Q) : VW G M fr lo pc lv st W mc ms Q := fun h hP => v_iload_n d hl (k h hP)
theorem w_iload {i : Nat} {x : Int32} (d : decode M.2.1 pc = .ok (.iload i, 2)) (hl : vGet lv i = some (.int x)) (k : VW G M fr lo (pc + 2) lv (.int x :: st) W mc ms Q) : VW G M fr lo pc lv st W mc ms Q := fun h hP => v_iload d hl (k h hP)
theorem w_aload_n {i : Fin 4} {v : Value} (d : decode M.2.1 pc = .ok (.aload_n i, 1)) (hl : vGet lv i.val = some v) (hv : vIsR v = true) (k : VW G M fr lo (pc + 1) lv (v :: st) W mc ms Q) : VW G M fr lo pc lv st W mc ms Q := fun h hP => v_aload_n d hl hv (k h hP)
theorem w_aload {i : Nat} {v : Value} (d : decode M.2.1 pc = .ok (.aload i, 2)) (hl : vGet lv i = some v) (hv : vIsR v = true) (k : VW G M fr lo (pc + 2) lv (v :: st) W mc ms Q) : VW G M fr lo pc lv st W mc ms Q := fun h hP => v_aload d hl hv (k h hP)
theorem w_istore_n {i : Fin 4} {x : Int32} (d : decode M.2.1 pc = .ok (.istore_n i, 1)) (hn : i.val < M.2.2.1) (hl : vRep lv i.val (.int x) false = some lv') (k : VW G M fr lo (pc + 1) lv' st W mc ms Q) : VW G M fr lo pc lv (.int x :: st) W mc ms Q := fun h hP => v_istore_n d hn hl (k h hP)
theorem w_istore {i : Nat} {x : Int32} (d : decode M.2.1 pc = .ok (.istore i, 2)) (hn : i < M.2.2.1) (hl : vRep lv i (.int x) false = some lv') (k : VW G M fr lo (pc + 2) lv' st W mc ms Q) : VW G M fr lo pc lv (.int x :: st) W mc ms Q := fun h hP => v_istore d hn hl (k h hP)
theorem w_astore_n {i : Fin 4} {v : Value} (d : decode M.2.1 pc = .ok (.astore_n i, 1)) (hv : vIsR v = true) (hn : i.val < M.2.2.1) (hl : vRep lv i.val v false = some lv') (k : VW G M fr lo (pc + 1) lv' st W mc ms Q) : VW G M fr lo pc lv (v :: st) W mc ms Q := fun h hP => v_astore_n d hv hn hl (k h hP)
theorem w_astore {i : Nat} {v : Value} (d : decode M.2.1 pc = .ok (.astore i, 2)) (hv : vIsR v = true) (hn : i < M.2.2.1) (hl : vRep lv i v false = some lv') (k : VW G M fr lo (pc + 2) lv' st W mc ms Q) : VW G M fr lo pc lv (v :: st) W mc ms Q := fun h hP => v_astore d hv hn hl (k h hP)
theorem w_iadd {x y : Int32} (d : decode M.2.1 pc = .ok (.iadd, 1)) (k : VW G M fr lo (pc + 1) lv (.int (x + y) :: st) W mc ms Q) : VW G M fr lo pc lv (.int y :: .int x :: st) W mc ms Q := fun h hP => v_iadd d (k h hP)
theorem w_isub {x y : Int32} (d : decode M.2.1 pc = .ok (.isub, 1)) (k : VW G M fr lo (pc + 1) lv (.int (x - y) :: st) W mc ms Q) : VW G M fr lo pc lv (.int y :: .int x :: st) W mc ms Q := fun h hP => v_isub d (k h hP)
theorem w_iand {x y : Int32} (d : decode M.2.1 pc = .ok (.iand, 1)) (k : VW G M fr lo (pc + 1) lv (.int (x &&& y) :: st) W mc ms Q) : VW G M fr lo pc lv (.int y :: .int x :: st) W mc ms Q := fun h hP => v_iand d (k h hP)
theorem w_i2l {x : Int32} (d : decode M.2.1 pc = .ok (.i2l, 1)) (k : VW G M fr lo (pc + 1) lv (.long x.toInt64 :: st) W mc ms Q) : VW G M fr lo pc lv (.int x :: st) W mc ms Q := fun h hP => v_i2l d (k h hP)
theorem w_lcmp {x y : Int64} (d : decode M.2.1 pc = .ok (.lcmp, 1)) (k : VW G M fr lo (pc + 1) lv (.int (lg_cmp x y) :: st) W mc ms Q) : VW G M fr lo pc lv (.long y :: .long x :: st) W mc ms Q := fun h hP => v_lcmp d (k h hP)
theorem w_dup {v : Value} (d : decode M.2.1 pc = .ok (.dup, 1)) (hv : v.category = 1) (k : VW G M fr lo (pc + 1) lv (v :: v :: st) W mc ms Q) : VW G M fr lo pc lv (v :: st) W mc ms Q := fun h hP => v_dup d hv (k h hP)
theorem w_pop {v : Value} (d : decode M.2.1 pc = .ok (.pop, 1)) (hv : v.category = 1) (k : VW G M fr lo (pc + 1) lv st W mc ms Q) : VW G M fr lo pc lv (v :: st) W mc ms Q := fun h hP => v_pop d hv (k h hP)
theorem w_if_eq {x : Int32} {off : Int} {tgt : Nat} (d : decode M.2.1 pc = .ok (.ifCond .eq off, 3)) (ht : (pc : Int) + off = (tgt : Int)) (kt : x = 0 → VW G M fr lo tgt lv st W mc ms Q) (kf : ¬ x = 0 → VW G M fr lo (pc + 3) lv st W mc ms Q) : VW G M fr lo pc lv (.int x :: st) W mc ms Q := fun h hP => v_if_eq d ht (fun z => kt z h hP) (fun z => kf z h hP)
theorem w_icmp_eq {x y : Int32} {off : Int} {tgt : Nat} (d : decode M.2.1 pc = .ok (.if_icmp .eq off, 3)) (ht : (pc : Int) + off = (tgt : Int)) (kt : x = y → VW G M fr lo tgt lv st W mc ms Q) (kf : ¬ x = y → VW G M fr lo (pc + 3) lv st W mc ms Q) : VW G M fr lo pc lv (.int y :: .int x :: st) W mc ms Q := fun h hP => v_icmp_eq d ht (fun z => kt z h hP) (fun z => kf z h hP)
theorem w_if_ne {x : Int32} {off : Int} {tgt : Nat} (d : decode M.2.1 pc = .ok (.ifCond .ne off, 3)) (ht : (pc : Int) + off = (tgt : Int)) (kt : ¬ x = 0 → VW G M fr lo tgt lv st W mc ms Q) (kf : x = 0 → VW G M fr lo (pc + 3) lv st W mc ms Q) : VW G M fr lo pc lv (.int x :: st) W mc ms Q := fun h hP => v_if_ne d ht (fun z => kt z h hP) (fun z => kf z h hP)
theorem w_icmp_ne {x y : Int32} {off : Int} {tgt : Nat} (d : decode M.2.1 pc = .ok (.if_icmp .ne off, 3)) (ht : (pc : Int) + off = (tgt : Int)) (kt : ¬ x = y → VW G M fr lo tgt lv st W mc ms Q) (kf : x = y → VW G M fr lo (pc + 3) lv st W mc ms Q) : VW G M fr lo pc lv (.int y :: .int x :: st) W mc ms Q := fun h hP => v_icmp_ne d ht (fun z => kt z h hP) (fun z => kf z h hP)
theorem w_if_lt {x : Int32} {off : Int} {tgt : Nat} (d : decode M.2.1 pc = .ok (.ifCond .lt off, 3)) (ht : (pc : Int) + off = (tgt : Int)) (kt : x < 0 → VW G M fr lo tgt lv st W mc ms Q) (kf : ¬ x < 0 → VW G M fr lo (pc + 3) lv st W mc ms Q) : VW G M fr lo pc lv (.int x :: st) W mc ms Q := fun h hP => v_if_lt d ht (fun z => kt z h hP) (fun z => kf z h hP)
theorem w_icmp_lt {x y : Int32} {off : Int} {tgt : Nat} (d : decode M.2.1 pc = .ok (.if_icmp .lt off, 3)) (ht : (pc : Int) + off = (tgt : Int)) (kt : x < y → VW G M fr lo tgt lv st W mc ms Q) (kf : ¬ x < y → VW G M fr lo (pc + 3) lv st W mc ms Q) : VW G M fr lo pc lv (.int y :: .int x :: st) W mc ms Q := fun h hP => v_icmp_lt d ht (fun z => kt z h hP) (fun z => kf z h hP)
theorem w_if_ge {x : Int32} {off : Int} {tgt : Nat} (d : decode M.2.1 pc = .ok (.ifCond .ge off, 3)) (ht : (pc : Int) + off = (tgt : Int)) (kt : 0 ≤ x → VW G M fr lo tgt lv st W mc ms Q) (kf : ¬ 0 ≤ x → VW G M fr lo (pc + 3) lv st W mc ms Q) : VW G M fr lo pc lv (.int x :: st) W mc ms Q := fun h hP => v_if_ge d ht (fun z => kt z h hP) (fun z => kf z h hP)
theorem w_icmp_ge {x y : Int32} {off : Int} {tgt : Nat} (d : decode M.2.1 pc = .ok (.if_icmp .ge off, 3)) (ht : (pc : Int) + off = (tgt : Int)) (kt : y ≤ x → VW G M fr lo tgt lv st W mc ms Q) (kf : ¬ y ≤ x → VW G M fr lo (pc + 3) lv st W mc ms Q) : VW G M fr lo pc lv (.int y :: .int x :: st) W mc ms Q := fun h hP => v_icmp_ge d ht (fun z => kt z h hP) (fun z => kf z h hP)
theorem w_if_gt {x : Int32} {off : Int} {tgt : Nat} (d : decode M.2.1 pc = .ok (.ifCond .gt off, 3)) (ht : (pc : Int) + off = (tgt : Int)) (kt : 0 < x → VW G M fr lo tgt lv st W mc ms Q) (kf : ¬ 0 < x → VW G M fr lo (pc + 3) lv st W mc ms Q) : VW G M fr lo pc lv (.int x :: st) W mc ms Q := fun h hP => v_if_gt d ht (fun z => kt z h hP) (fun z => kf z h hP)
theorem w_icmp_gt {x y : Int32} {off : Int} {tgt : Nat} (d : decode M.2.1 pc = .ok (.if_icmp .gt off, 3)) (ht : (pc : Int) + off = (tgt : Int)) (kt : y < x → VW G M fr lo tgt lv st W mc ms Q) (kf : ¬ y < x → VW G M fr lo (pc + 3) lv st W mc ms Q) : VW G M fr lo pc lv (.int y :: .int x :: st) W mc ms Q := fun h hP => v_icmp_gt d ht (fun z => kt z h hP) (fun z => kf z h hP)
theorem w_if_le {x : Int32} {off : Int} {tgt : Nat} (d : decode M.2.1 pc = .ok (.ifCond .le off, 3)) (ht : (pc : Int) + off = (tgt : Int)) (kt : x ≤ 0 → VW G M fr lo tgt lv st W mc ms Q) (kf : ¬ x ≤ 0 → VW G M fr lo (pc + 3) lv st W mc ms Q) : VW G M fr lo pc lv (.int x :: st) W mc ms Q := fun h hP => v_if_le d ht (fun z => kt z h hP) (fun z => kf z h hP)
theorem w_icmp_le {x y : Int32} {off : Int} {tgt : Nat} (d : decode M.2.1 pc = .ok (.if_icmp .le off, 3)) (ht : (pc : Int) + off = (tgt : Int)) (kt : x ≤ y → VW G M fr lo tgt lv st W mc ms Q) (kf : ¬ x ≤ y → VW G M fr lo (pc + 3) lv st W mc ms Q) : VW G M fr lo pc lv (.int y :: .int x :: st) W mc ms Q := fun h hP => v_icmp_le d ht (fun z => kt z h hP) (fun z => kf z h hP)
theorem w_goto {off : Int} {tgt : Nat} (d : decode M.2.1 pc = .ok (.goto off, 3)) (ht : (pc : Int) + off = (tgt : Int)) (k : VW G M fr lo tgt lv st W mc ms Q) : VW G M fr lo pc lv st W mc ms Q := fun h hP => v_goto d ht (k h hP)
theorem w_ifnull {r : Option Nat} {off : Int} {tgt : Nat} (d : decode M.2.1 pc = .ok (.ifnull off, 3)) (ht : (pc : Int) + off = (tgt : Int)) (kn : r = none → VW G M fr lo tgt lv st W mc ms Q) (ks : ∀ a, r = some a → VW G M fr lo (pc + 3) lv st W mc ms Q) : VW G M fr lo pc lv (va_rf r :: st) W mc ms Q := fun h hP => v_ifnull d ht (fun z => kn z h hP) (fun a z => ks a z h hP)
theorem w_ifnonnull {r : Option Nat} {off : Int} {tgt : Nat} (d : decode M.2.1 pc = .ok (.ifnonnull off, 3)) (ht : (pc : Int) + off = (tgt : Int)) (kn : r = none → VW G M fr lo (pc + 3) lv st W mc ms Q) (ks : ∀ a, r = some a → VW G M fr lo tgt lv st W mc ms Q) : VW G M fr lo pc lv (va_rf r :: st) W mc ms Q := fun h hP => v_ifnonnull d ht (fun z => kn z h hP) (fun a z => ks a z h hP)
theorem w_iincw {i : Nat} {n : Int} {x w : Int32} (d : decode M.2.1 pc = .ok (.iinc i n, 3)) (hx : vGet lv i = some (.int x)) (hw : Int32.ofInt n = w) (hn : i < M.2.2.1) (hl : vRep lv i (.int (x + w)) false = some lv') (k : VW G M fr lo (pc + 3) lv' st W mc ms Q) : VW G M fr lo pc lv st W mc ms Q := fun h hP => v_iincw d hx hw hn hl (k h hP)
theorem w_at (pc' : Nat) (e : pc = pc') (k : VW G M fr lo pc' lv st W mc ms Q) : VW G M fr lo pc lv st W mc ms Q := e ▸ k
theorem w_keep {lv1 : List (Nat × Value)} (n : Nat) (e : lv.take n = lv1) (k : VW G M fr lo pc lv1 st W mc ms Q) : VW G M fr lo pc lv st W mc ms Q := fun h hP => v_keep n e (k h hP)
theorem w_tableIn {x : Int32} {dflt lo0 hi off : Int} {offs : Array Int} {len tgt : Nat} (d : decode M.2.1 pc = .ok (.tableswitch dflt lo0 hi offs, len)) (h1 : ¬ x.toInt < lo0) (h2 : ¬ hi < x.toInt) (ho : offs[(x.toInt - lo0).toNat]? = some off) (ht : (pc : Int) + off = (tgt : Int)) (kk : VW G M fr lo tgt lv st W mc ms Q) : VW G M fr lo pc lv (.int x :: st) W mc ms Q := fun h hP => v_tableIn d h1 h2 ho ht (kk h hP)
theorem w_tableOut {x : Int32} {dflt lo0 hi : Int} {offs : Array Int} {len tgt : Nat} (d : decode M.2.1 pc = .ok (.tableswitch dflt lo0 hi offs, len)) (h1 : x.toInt < lo0 ∨ hi < x.toInt) (ht : (pc : Int) + dflt = (tgt : Int)) (kk : VW G M fr lo tgt lv st W mc ms Q) : VW G M fr lo pc lv (.int x :: st) W mc ms Q := fun h hP => v_tableOut d h1 ht (kk h hP)
def lwQ (G : vG) (C Mo : vH → Prop) (o : Nat) (w : Nat → Int64) (h : vH) : Prop := ∃ hc hm : vH, hc.1.Nodup ∧ hm.1.Nodup ∧ (∀ a, a ∈ h.1 ↔ a ∈ hc.1 ∨ a ∈ hm.1 ∨ a = o) ∧ (∀ a ∈ hc.1, a ∉ hm.1 ∧ a ≠ o ∧ h.2 a = hc.2 a) ∧ (∀ a ∈ hm.1, a ≠ o ∧ h.2 a = hm.2 a) ∧ h.2 o = .inl (G.2.1 2, 1, .inr (.inl w)) ∧ C hc ∧ Mo hm
theorem lwQ.mono {C C' Mo Mo' : vH → Prop} {o : Nat} {w : Nat → Int64} {h : vH} (hl : lwQ G C Mo o w h) (h1 : ∀ a, C a → C' a) (h2 : ∀ a, Mo a → Mo' a) : lwQ G C' Mo' o w h := by
  obtain ⟨hc, hm, z1, z2, z3, z4, z5, z6, z7, z8⟩ := hl
  exact ⟨hc, hm, z1, z2, z3, z4, z5, z6, h1 _ z7, h2 _ z8⟩
theorem VW.mono {W W' : vH → Prop} (hW : ∀ h, W h → W' h) (k : VW G M fr lo pc lv st W' mc ms Q) : VW G M fr lo pc lv st W mc ms Q := fun h hP => k h (hW h hP)
theorem VW.wide {fr' lo' mc' ms' : Nat} {W : vH → Prop} (h1 : fr ≤ fr') (h2 : lo ≤ lo') (h3 : mc ≤ mc') (h4 : ms ≤ ms') (k : VW G M fr lo pc lv st W mc ms Q) : VW G M fr' lo' pc lv st W mc' ms' Q := fun h hP => V.wide h1 h2 h3 h4 (k h hP)
theorem VW.post {Q' : vQ} {W : vH → Prop} (hq : ∀ r h, Q' r h → Q r h) (k : VW G M fr lo pc lv st W mc ms Q') : VW G M fr lo pc lv st W mc ms Q := fun h hP => V.mono hq (k h hP)
theorem mg_c {C Mo : vH → Prop} {o : Nat} {w : Nat → Int64} {h hc hm hc' h' : vH} (z2 : hm.1.Nodup) (z3 : ∀ a, a ∈ h.1 ↔ a ∈ hc.1 ∨ a ∈ hm.1 ∨ a = o) (z4 : ∀ a ∈ hc.1, a ∉ hm.1 ∧ a ≠ o ∧ h.2 a = hc.2 a) (z5 : ∀ a ∈ hm.1, a ≠ o ∧ h.2 a = hm.2 a) (z6 : h.2 o = .inl (G.2.1 2, 1, .inr (.inl w))) (hg : vMg h hc hc' h') (zC : C hc') (zM : Mo hm) : lwQ G C Mo o w h' := by
  obtain ⟨g1, g2, g3, g4⟩ := hg
  have ho : o ∈ h.1 ∧ o ∉ hc.1 := ⟨(z3 o).mpr (Or.inr (Or.inr rfl)), fun z => (z4 o z).2.1 rfl⟩
  have hmi : ∀ a ∈ hm.1, a ∈ h.1 ∧ a ∉ hc.1 := fun a ha => ⟨(z3 a).mpr (Or.inr (Or.inl ha)), fun z => (z4 a z).1 ha⟩
  refine ⟨hc', hm, g1, z2, fun a => ?_, fun a ha => ⟨fun z => (g4 a (hmi a z).1 (hmi a z).2).2 ha, fun z => ?_, g3 a ha⟩, fun a ha => ⟨(z5 a ha).1, ?_⟩, ?_, zC, zM⟩
  · rw [g2 a, z3 a]
    constructor
    · rintro (h1 | ⟨h1, h2⟩)
      · exact Or.inl h1
      · exact h1.elim (fun z => absurd z h2) Or.inr
    · rintro (h1 | h1)
      · exact Or.inl h1
      · refine Or.inr ⟨Or.inr h1, ?_⟩
        rcases h1 with h1 | rfl
        · exact (hmi a h1).2
        · exact ho.2
  · subst z; exact (g4 a ho.1 ho.2).2 ha
  · rw [(g4 a (hmi a ha).1 (hmi a ha).2).1]; exact (z5 a ha).2
  · rw [(g4 o ho.1 ho.2).1]; exact z6
theorem mg_m {C Mo : vH → Prop} {o : Nat} {w : Nat → Int64} {h hc hm hm' h' : vH} (z1 : hc.1.Nodup) (z3 : ∀ a, a ∈ h.1 ↔ a ∈ hc.1 ∨ a ∈ hm.1 ∨ a = o) (z4 : ∀ a ∈ hc.1, a ∉ hm.1 ∧ a ≠ o ∧ h.2 a = hc.2 a) (z5 : ∀ a ∈ hm.1, a ≠ o ∧ h.2 a = hm.2 a) (z6 : h.2 o = .inl (G.2.1 2, 1, .inr (.inl w))) (hg : vMg h hm hm' h') (zC : C hc) (zM : Mo hm') : lwQ G C Mo o w h' := by
  obtain ⟨g1, g2, g3, g4⟩ := hg
  have ho : o ∈ h.1 ∧ o ∉ hm.1 := ⟨(z3 o).mpr (Or.inr (Or.inr rfl)), fun z => (z5 o z).1 rfl⟩
  have hci : ∀ a ∈ hc.1, a ∈ h.1 ∧ a ∉ hm.1 := fun a ha => ⟨(z3 a).mpr (Or.inl ha), (z4 a ha).1⟩
  refine ⟨hc, hm', z1, g1, fun a => ?_, fun a ha => ⟨fun z => (g4 a (hci a ha).1 (hci a ha).2).2 z, (z4 a ha).2.1, ?_⟩, fun a ha => ⟨fun z => ?_, g3 a ha⟩, ?_, zC, zM⟩
  · rw [g2 a, z3 a]
    constructor
    · rintro (h1 | ⟨h1, h2⟩)
      · exact Or.inr (Or.inl h1)
      · rcases h1 with h1 | h1 | h1
        · exact Or.inl h1
        · exact absurd h1 h2
        · exact Or.inr (Or.inr h1)
    · rintro (h1 | h1 | h1)
      · exact Or.inr ⟨Or.inl h1, (hci a h1).2⟩
      · exact Or.inl h1
      · subst h1; exact Or.inr ⟨Or.inr (Or.inr rfl), ho.2⟩
  · rw [(g4 a (hci a ha).1 (hci a ha).2).1]; exact (z4 a ha).2.2
  · subst z; exact (g4 a ho.1 ho.2).2 ha
  · rw [(g4 o ho.1 ho.2).1]; exact z6
/-- a call of the class -/
theorem w_cls {C Mo : vH → Prop} {o idx b ci : Nat} {w : Nat → Int64} {q : vw_C} {As st0 : List Value} {Q1 : vQ} (d : decode M.2.1 pc = .ok (.invokevirtual idx, 3)) (hb : ∀ hc, C hc → b ∈ hc.1 ∧ ∃ fs, hc.2 b = .inr (ci, fs)) (hc : vCl[ci]? = some q) (hw : Cond.methodLink M.1.cls idx M1.1 ∈ vT) (hin : Cond.instanceMethod M1.1 ∈ vT) (hse : Cond.selects q.1 M1.1 M1.1 ∈ vT) (hok : vOk M M1 fr lo fr1 lo1 (.ref b :: As) st) (hp : (parseMethodDescriptor M1.1.desc).map (fun d => d.parameters.length) = some As.length) (hs0 : As.reverse ++ .ref b :: st = st0) (hV : ∀ hc, C hc → V G M1 fr1 lo1 0 (vArgs 0 (.ref b :: As)) [] hc mc1 ms1 Q1) (kk : ∀ v, VW G M fr lo (pc + 3) lv (v.toList ++ st) (lwQ G (Q1 (.inl v)) Mo o w) (mc - mc1) (ms - ms1) Q) (kx : ∀ E h', lwQ G (Q1 (.inr E)) Mo o w h' → vXh G M fr lo pc lv h' (mc - mc1) (ms - ms1) Q E) (b1 : mc1 ≤ mc) (b2 : ms1 ≤ ms) : VW G M fr lo pc lv st0 (lwQ G C Mo o w) mc ms Q := fun h hW => by
  obtain ⟨hcc, hm, z1, z2, z3, z4, z5, z6, z7, z8⟩ := hW
  obtain ⟨hb1, fs, hb2⟩ := hb hcc z7
  refine v_callVF (h1x := hcc) d ((z4 b hb1).2.2.trans hb2) ((z3 b).mpr (Or.inl hb1)) hc hw hin hse hok hp hs0 (fun a ha => ⟨(z3 a).mpr (Or.inl ha), (z4 a ha).2.2⟩) z1 (hV hcc z7) (fun v h1' h' hq hg => kk v h' (mg_c z2 z3 z4 z5 z6 hg hq z8)) (fun E h1' h' hq hg => kx E h' (mg_c z2 z3 z4 z5 z6 hg hq z8)) b1 b2
/-- a call of the reference -/
theorem w_mod {C Mo : vH → Prop} {o idx b ci : Nat} {w : Nat → Int64} {q : vw_C} {As st0 : List Value} {Q1 : vQ} (d : decode M.2.1 pc = .ok (.invokevirtual idx, 3)) (hb : ∀ hc, Mo hc → b ∈ hc.1 ∧ ∃ fs, hc.2 b = .inr (ci, fs)) (hc : vCl[ci]? = some q) (hw : Cond.methodLink M.1.cls idx M1.1 ∈ vT) (hin : Cond.instanceMethod M1.1 ∈ vT) (hse : Cond.selects q.1 M1.1 M1.1 ∈ vT) (hok : vOk M M1 fr lo fr1 lo1 (.ref b :: As) st) (hp : (parseMethodDescriptor M1.1.desc).map (fun d => d.parameters.length) = some As.length) (hs0 : As.reverse ++ .ref b :: st = st0) (hV : ∀ hc, Mo hc → V G M1 fr1 lo1 0 (vArgs 0 (.ref b :: As)) [] hc 0 0 Q1) (kk : ∀ v, VW G M fr lo (pc + 3) lv (v.toList ++ st) (lwQ G C (Q1 (.inl v)) o w) mc ms Q) (kx : ∀ E h', Q1 (.inr E) h' → False) : VW G M fr lo pc lv st0 (lwQ G C Mo o w) mc ms Q := fun h hW => by
  obtain ⟨hcc, hm, z1, z2, z3, z4, z5, z6, z7, z8⟩ := hW
  obtain ⟨hb1, fs, hb2⟩ := hb hm z8
  refine v_callVF (h1x := hm) d ((z5 b hb1).2.trans hb2) ((z3 b).mpr (Or.inr (Or.inl hb1))) hc hw hin hse hok hp hs0 (fun a ha => ⟨(z3 a).mpr (Or.inr (Or.inl ha)), (z5 a ha).2⟩) z2 (hV hm z8) (fun v h1' h' hq hg => kk v h' (mg_m z1 z3 z4 z5 z6 hg z7 hq)) (fun E h1' h' hq hg => (kx E h1' hq).elim) (Nat.zero_le _) (Nat.zero_le _)
theorem w_lald {C Mo : vH → Prop} {o : Nat} {w : Nat → Int64} (d : decode M.2.1 pc = .ok (.laload, 1)) (kk : VW G M fr lo (pc + 1) lv (.long (w 0) :: st) (lwQ G C Mo o w) mc ms Q) : VW G M fr lo pc lv (.int 0 :: .ref o :: st) (lwQ G C Mo o w) mc ms Q := fun h hW => by
  obtain ⟨hcc, hm, z1, z2, z3, z4, z5, z6, z7, z8⟩ := id hW
  exact v_lald d z6 ((z3 o).mpr (Or.inr (Or.inr rfl))) (show ¬ ((0 : Int32) < 0 ∨ 1 ≤ Int32.toNatClampNeg 0) by decide) (kk h hW)
theorem w_last {C Mo : vH → Prop} {o : Nat} {w : Nat → Int64} {x : Int64} (d : decode M.2.1 pc = .ok (.lastore, 1)) (kk : VW G M fr lo (pc + 1) lv st (lwQ G C Mo o (vp_updL w 0 x)) mc ms Q) : VW G M fr lo pc lv (.long x :: .int 0 :: .ref o :: st) (lwQ G C Mo o w) mc ms Q := fun h hW => by
  obtain ⟨hcc, hm, z1, z2, z3, z4, z5, z6, z7, z8⟩ := hW
  refine v_last d z6 ((z3 o).mpr (Or.inr (Or.inr rfl))) (show ¬ ((0 : Int32) < 0 ∨ 1 ≤ Int32.toNatClampNeg 0) by decide) (kk _ ⟨hcc, hm, z1, z2, z3, fun a ha => ⟨(z4 a ha).1, (z4 a ha).2.1, ?_⟩, fun a ha => ⟨(z5 a ha).1, ?_⟩, va_up_self _ _ _, z7, z8⟩)
  · show va_up h.2 o _ a = _
    rw [va_up_ne _ _ (z4 a ha).2.1]; exact (z4 a ha).2.2
  · show va_up h.2 o _ a = _
    rw [va_up_ne _ _ (z5 a ha).1]; exact (z5 a ha).2
theorem w_slen {W : vH → Prop} (d : decode M.2.1 pc = .ok (.arraylength, 1)) (kk : VW G M fr lo (pc + 1) lv (.int (Int32.ofNat G.2.2.2.2.2.1) :: st) W mc ms Q) : VW G M fr lo pc lv (.ref G.2.2.2.2.1 :: st) W mc ms Q := fun h hW => v_slen d (kk h hW)
theorem w_sld {W : vH → Prop} {i : Int32} (d : decode M.2.1 pc = .ok (.iaload, 1)) (hi : vp_in i G.2.2.2.2.2.1) (kk : VW G M fr lo (pc + 1) lv (.int (G.2.2.2.2.2.2 i.toNatClampNeg) :: st) W mc ms Q) : VW G M fr lo pc lv (.int i :: .ref G.2.2.2.2.1 :: st) W mc ms Q := fun h hW => v_sld d hi (kk h hW)
theorem w_iret {W : vH → Prop} {v : Int32} {ty : FieldType} (d : decode M.2.1 pc = .ok (.ireturn, 1)) (hr : M.2.2.2.1 = some ty) (hn : narrow ty (.int v) = .int v) (hq : ∀ h, W h → Q (.inl (some (.int v))) h) : VW G M fr lo pc lv [.int v] W mc ms Q := fun h hW => v_iret d hr hn (hq h hW)
theorem w_callS {W W' : vH → Prop} {idx : Nat} {As st0 : List Value} {v : Option Value} (d : decode M.2.1 pc = .ok (.invokestatic idx, 3)) (hw : Cond.methodLink M.1.cls idx M1.1 ∈ vT) (hst : Cond.static M1.1 ∈ vT) (hok : vOk M M1 fr lo fr1 lo1 As st) (hp : (parseMethodDescriptor M1.1.desc).map (fun d => d.parameters.length) = some As.length) (hs0 : As.reverse ++ st = st0) (hV : VW G M1 fr1 lo1 0 (vArgs 0 As) [] W mc1 ms1 (fun r h' => r = .inl v ∧ W' h')) (k : VW G M fr lo (pc + 3) lv (v.toList ++ st) W' (mc - mc1) (ms - ms1) Q) (b1 : mc1 ≤ mc) (b2 : ms1 ≤ ms) : VW G M fr lo pc lv st0 W mc ms Q := fun h hW => v_callS d hw hst hok hp hs0 (hV h hW) (fun v' h' z => by obtain ⟨z1, z2⟩ := z; cases z1; exact k h' z2) (fun E h' z => nomatch z.1) b1 b2
end VLw
