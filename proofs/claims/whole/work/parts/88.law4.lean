/-! The law's blocks, one for a kind of call. -/
section VLb
variable {G : vG} {M M1 : vM} {fr lo pc fr1 lo1 mc ms mc1 ms1 : Nat} {lv : List (Nat × Value)} {st : List Value} {Q : vQ} {C C' Mo Mo' : vH → Prop} {o x am nc nm : Nat} {w : Nat → Int64} {X : Nat → Nat → Int32} {Y : Nat → Int32} {g : Int32}
theorem w_callSk {W W' : vH → Prop} {idx : Nat} {As st0 : List Value} {v : Int32} (d : decode M.2.1 pc = .ok (.invokestatic idx, 3)) (hw : Cond.methodLink M.1.cls idx M1.1 ∈ vT) (hst : Cond.static M1.1 ∈ vT) (hok : vOk M M1 fr lo fr1 lo1 As st) (hp : (parseMethodDescriptor M1.1.desc).map (fun d => d.parameters.length) = some As.length) (hs0 : As.reverse ++ st = st0) (hV : VW G M1 fr1 lo1 0 (vArgs 0 As) [] W mc1 ms1 (fun r h' => r = .inl (some (.int v)) ∧ W' h')) (b1 : mc1 ≤ mc) (b2 : ms1 ≤ ms) (k : VW G M fr lo (pc + 3) lv (.int v :: st) W' (mc - mc1) (ms - ms1) Q) : VW G M fr lo pc lv st0 W mc ms Q := w_callS d hw hst hok hp hs0 hV k b1 b2
theorem w_clsK {idx b ci : Nat} {q : vw_C} {As st0 : List Value} {v : Int32} (d : decode M.2.1 pc = .ok (.invokevirtual idx, 3)) (hb : cAt C ci b) (hc : vCl[ci]? = some q) (hw : Cond.methodLink M.1.cls idx M1.1 ∈ vT) (hin : Cond.instanceMethod M1.1 ∈ vT) (hse : Cond.selects q.1 M1.1 M1.1 ∈ vT) (hok : vOk M M1 fr lo fr1 lo1 (.ref b :: As) st) (hp : (parseMethodDescriptor M1.1.desc).map (fun d => d.parameters.length) = some As.length) (hs0 : As.reverse ++ .ref b :: st = st0) (hV : ∀ hc, C hc → V G M1 fr1 lo1 0 (vArgs 0 (.ref b :: As)) [] hc mc1 ms1 (fun r h' => r = .inl (some (.int v)) ∧ C' h')) (b1 : mc1 ≤ mc) (b2 : ms1 ≤ ms) (kk : VW G M fr lo (pc + 3) lv (.int v :: st) (lwQ G C' Mo o w) (mc - mc1) (ms - ms1) Q) : VW G M fr lo pc lv st0 (lwQ G C Mo o w) mc ms Q := w_clsR d hb hc hw hin hse hok hp hs0 hV kk b1 b2
theorem w_modR {idx b ci : Nat} {q : vw_C} {As st0 : List Value} {v : Option Value} (d : decode M.2.1 pc = .ok (.invokevirtual idx, 3)) (hb : cAt Mo ci b) (hc : vCl[ci]? = some q) (hw : Cond.methodLink M.1.cls idx M1.1 ∈ vT) (hin : Cond.instanceMethod M1.1 ∈ vT) (hse : Cond.selects q.1 M1.1 M1.1 ∈ vT) (hok : vOk M M1 fr lo fr1 lo1 (.ref b :: As) st) (hp : (parseMethodDescriptor M1.1.desc).map (fun d => d.parameters.length) = some As.length) (hs0 : As.reverse ++ .ref b :: st = st0) (hV : ∀ hc, Mo hc → V G M1 fr1 lo1 0 (vArgs 0 (.ref b :: As)) [] hc 0 0 (fun r h' => r = .inl v ∧ Mo' h')) (kk : VW G M fr lo (pc + 3) lv (v.toList ++ st) (lwQ G C Mo' o w) mc ms Q) : VW G M fr lo pc lv st0 (lwQ G C Mo o w) mc ms Q := w_mod d hb hc hw hin hse hok hp hs0 hV (fun v' h hl => by
  obtain ⟨hc', hm, z1, z2, z3, z4, z5, z6, z7, ⟨z8, z8'⟩⟩ := hl
  cases z8
  exact kk h ⟨hc', hm, z1, z2, z3, z4, z5, z6, z7, z8'⟩) (fun E h' z => nomatch z.1)
theorem w_modK {idx b ci : Nat} {q : vw_C} {As st0 : List Value} {v : Int32} (d : decode M.2.1 pc = .ok (.invokevirtual idx, 3)) (hb : cAt Mo ci b) (hc : vCl[ci]? = some q) (hw : Cond.methodLink M.1.cls idx M1.1 ∈ vT) (hin : Cond.instanceMethod M1.1 ∈ vT) (hse : Cond.selects q.1 M1.1 M1.1 ∈ vT) (hok : vOk M M1 fr lo fr1 lo1 (.ref b :: As) st) (hp : (parseMethodDescriptor M1.1.desc).map (fun d => d.parameters.length) = some As.length) (hs0 : As.reverse ++ .ref b :: st = st0) (hV : ∀ hc, Mo hc → V G M1 fr1 lo1 0 (vArgs 0 (.ref b :: As)) [] hc 0 0 (fun r h' => r = .inl (some (.int v)) ∧ Mo' h')) (kk : VW G M fr lo (pc + 3) lv (.int v :: st) (lwQ G C Mo' o w) mc ms Q) : VW G M fr lo pc lv st0 (lwQ G C Mo o w) mc ms Q := w_modR d hb hc hw hin hse hok hp hs0 hV kk
theorem w_modU {idx b ci : Nat} {q : vw_C} {As st0 : List Value} (d : decode M.2.1 pc = .ok (.invokevirtual idx, 3)) (hb : cAt Mo ci b) (hc : vCl[ci]? = some q) (hw : Cond.methodLink M.1.cls idx M1.1 ∈ vT) (hin : Cond.instanceMethod M1.1 ∈ vT) (hse : Cond.selects q.1 M1.1 M1.1 ∈ vT) (hok : vOk M M1 fr lo fr1 lo1 (.ref b :: As) st) (hp : (parseMethodDescriptor M1.1.desc).map (fun d => d.parameters.length) = some As.length) (hs0 : As.reverse ++ .ref b :: st = st0) (hV : ∀ hc, Mo hc → V G M1 fr1 lo1 0 (vArgs 0 (.ref b :: As)) [] hc 0 0 (fun r h' => r = .inl none ∧ Mo' h')) (kk : VW G M fr lo (pc + 3) lv st (lwQ G C Mo' o w) mc ms Q) : VW G M fr lo pc lv st0 (lwQ G C Mo o w) mc ms Q := w_modR d hb hc hw hin hse hok hp hs0 hV kk
theorem oS'_thrown : ∀ hm, oS' G am X Y hm → V G M_Mo_thrown 42 1010 0 (vArgs 0 (.ref am :: [])) [] hm 0 0 (fun r h' => r = .inl (some (.int (Y 19))) ∧ oS' G am X Y h') := by
  rintro hm ⟨X', h0, adm, h1⟩
  refine V.wide (by decide) (by decide) (Nat.le_refl _) (Nat.le_refl _) (V.mono ?_ (c_Mo_thrown hm h1))
  rintro r h' ⟨-, X2, Y2, z1, z2, rfl, rfl⟩
  exact ⟨z2, X2, h0, adm, z1⟩
theorem lg_self {y : Int64} : lg_cmp y y = 0 := by simp [lg_cmp]
def scI (G : vG) (i : Nat) : Prop := vp_in (nI i + 1) G.2.2.2.2.2.1 ∧ vp_in (nI i + 2) G.2.2.2.2.2.1 ∧ vp_in (nI i + 3) G.2.2.2.2.2.1 ∧ vp_in (nI i + 4) G.2.2.2.2.2.1 ∧ vp_in (nI i + 5) G.2.2.2.2.2.1
abbrev lwL (G : vG) (x am o i : Nat) : List (Nat × Value) := [(0, .ref G.2.2.2.2.1), (1, .ref x), (2, .ref am), (3, .ref o), (4, .int (nI i))]

theorem lw_add {i : Nat} (hs : scI G i) (b1 : 4 ≤ mc) (b2 : 140 ≤ ms) (hj : jI X nc nm Y g) (nx : VW G M_Lw_law 45 1100 763 (lwL G x am o i) [] (lwJ G x am o) (mc - 4) (ms - 140) Q) : VW G M_Lw_law 45 1100 100 (lwL G x am o i) [] (lwQ G (kS G x nc nm X g) (oS G am X Y) o w) mc ms Q := by
  obtain ⟨k, a, b, nc', nm', X', Y', g', hA, hB, hab, hY, hj'⟩ := op_add (G := G) (x := x) (am := am) (v := G.2.2.2.2.2.2 (nI i + 1).toNatClampNeg) hj
  obtain ⟨w', hw', hV⟩ := hA (oS G am X Y) o w
  refine w_aload_n d_Lw_law_100 rfl (by first | rfl | exact vIsR_rf _) ?_
  refine w_aload_n d_Lw_law_101 rfl (by first | rfl | exact vIsR_rf _) ?_
  refine w_iload d_Lw_law_102 rfl ?_
  refine w_iconst (v := 1) d_Lw_law_104 (by decide) ?_
  refine w_iadd d_Lw_law_105 ?_
  refine w_sld d_Lw_law_106 (hs.1) ?_
  refine w_aload_n d_Lw_law_107 rfl (by first | rfl | exact vIsR_rf _) ?_
  refine w_callSk (M1 := M_Lw_add) (As := [.ref x, .int (G.2.2.2.2.2.2 (nI i + 1).toNatClampNeg), .ref o]) (st := []) (fr1 := 43) (lo1 := 1050) (mc1 := 4) (ms1 := 140) d_Lw_law_108 km_Lw_48 kS_Lw_add ⟨by decide, (by intro v hv; simp only [List.mem_cons, List.not_mem_nil, or_false] at hv; rcases hv with rfl | rfl | rfl <;> rfl), Nat.le_of_ble_eq_true rfl, kM_Lw_add, ki_Lw, by decide, by decide, Nat.le_of_ble_eq_true rfl, by decide, by decide⟩ (show _ = some 3 from by decide +kernel) rfl hV b1 b2 ?_
  refine w_istore d_Lw_law_111 (by decide) rfl ?_
  refine w_aload_n d_Lw_law_113 rfl (by first | rfl | exact vIsR_rf _) ?_
  refine w_aload_n d_Lw_law_114 rfl (by first | rfl | exact vIsR_rf _) ?_
  refine w_iload d_Lw_law_115 rfl ?_
  refine w_iconst (v := 1) d_Lw_law_117 (by decide) ?_
  refine w_iadd d_Lw_law_118 ?_
  refine w_sld d_Lw_law_119 (hs.1) ?_
  refine w_modK (M1 := M_Mo_add) (ci := 8) (As := [.int (G.2.2.2.2.2.2 (nI i + 1).toNatClampNeg)]) (st := []) (fr1 := 42) (lo1 := 1010) d_Lw_law_120 oS_at rfl km_Lw_53 kI_Mo_add ks_Mo_Mo_add ⟨by decide, (by intro v hv; simp only [List.mem_cons, List.not_mem_nil, or_false] at hv; rcases hv with rfl | rfl <;> rfl), Nat.le_of_ble_eq_true rfl, kM_Mo_add, ki_Mo, by decide, by decide, Nat.le_of_ble_eq_true rfl, by decide, by decide⟩ (show _ = some 1 from by decide +kernel) rfl hB ?_
  refine w_istore d_Lw_law_123 (by decide) rfl ?_
  refine w_aload_n d_Lw_law_125 rfl (by first | rfl | exact vIsR_rf _) ?_
  refine w_modK (M1 := M_Mo_thrown) (ci := 8) (As := []) (st := []) (fr1 := 42) (lo1 := 1010) d_Lw_law_126 oS'_at rfl km_Lw_54 kI_Mo_thrown ks_Mo_Mo_thrown ⟨by decide, (by intro v hv; simp only [List.mem_cons, List.not_mem_nil, or_false] at hv; rcases hv with rfl <;> rfl), Nat.le_of_ble_eq_true rfl, kM_Mo_thrown, ki_Mo, by decide, by decide, Nat.le_of_ble_eq_true rfl, by decide, by decide⟩ (show _ = some 0 from by decide +kernel) rfl oS'_thrown ?_
  refine w_iload d_Lw_law_129 rfl ?_
  refine w_icmp_eq (tgt := 136) d_Lw_law_131 (by decide) (fun _ => ?_) (fun c => absurd (hY) c)
  by_cases hk : k = 0
  · refine w_iload d_Lw_law_136 rfl ?_
    refine w_if_ne (tgt := 153) d_Lw_law_138 (by decide) (fun c => absurd (hk) c) (fun _ => ?_)
    refine w_aload_n d_Lw_law_141 rfl (by first | rfl | exact vIsR_rf _) ?_
    refine w_iconst (v := 0) d_Lw_law_142 (by decide) ?_
    refine w_lald d_Lw_law_143 ?_
    refine w_iload d_Lw_law_144 rfl ?_
    refine w_i2l d_Lw_law_146 ?_
    refine w_lcmp d_Lw_law_147 ?_
    rw [hw' hk, hab hk, lg_self]
    refine w_if_eq (tgt := 153) d_Lw_law_148 (by decide) (fun _ => ?_) (fun c => absurd (rfl) c)
    refine w_goto (tgt := 763) d_Lw_law_153 (by decide) ?_
    exact w_keep 5 rfl (VW.mono (fun h hl => lw_join hj' hl) nx)
  · refine w_iload d_Lw_law_136 rfl ?_
    refine w_if_ne (tgt := 153) d_Lw_law_138 (by decide) (fun _ => ?_) (fun c => absurd c (hk))
    refine w_goto (tgt := 763) d_Lw_law_153 (by decide) ?_
    exact w_keep 5 rfl (VW.mono (fun h hl => lw_join hj' hl) nx)

theorem lw_method {i : Nat} (hs : scI G i) (b1 : 4 ≤ mc) (b2 : 140 ≤ ms) (hj : jI X nc nm Y g) (nx : VW G M_Lw_law 45 1100 763 (lwL G x am o i) [] (lwJ G x am o) (mc - 4) (ms - 140) Q) : VW G M_Lw_law 45 1100 156 (lwL G x am o i) [] (lwQ G (kS G x nc nm X g) (oS G am X Y) o w) mc ms Q := by
  obtain ⟨k, a, b, nc', nm', X', Y', g', hA, hB, hab, hY, hj'⟩ := op_method (G := G) (x := x) (am := am) (o := G.2.2.2.2.2.2 (nI i + 1).toNatClampNeg) (n := G.2.2.2.2.2.2 (nI i + 2).toNatClampNeg) (r := G.2.2.2.2.2.2 (nI i + 3).toNatClampNeg) hj
  obtain ⟨w', hw', hV⟩ := hA (oS G am X Y) o w
  refine w_aload_n d_Lw_law_156 rfl (by first | rfl | exact vIsR_rf _) ?_
  refine w_aload_n d_Lw_law_157 rfl (by first | rfl | exact vIsR_rf _) ?_
  refine w_iload d_Lw_law_158 rfl ?_
  refine w_iconst (v := 1) d_Lw_law_160 (by decide) ?_
  refine w_iadd d_Lw_law_161 ?_
  refine w_sld d_Lw_law_162 (hs.1) ?_
  refine w_aload_n d_Lw_law_163 rfl (by first | rfl | exact vIsR_rf _) ?_
  refine w_iload d_Lw_law_164 rfl ?_
  refine w_at 166 rfl ?_
  refine w_iconst (v := 2) d_Lw_law_166 (by decide) ?_
  refine w_iadd d_Lw_law_167 ?_
  refine w_sld d_Lw_law_168 (hs.2.1) ?_
  refine w_aload_n d_Lw_law_169 rfl (by first | rfl | exact vIsR_rf _) ?_
  refine w_iload d_Lw_law_170 rfl ?_
  refine w_iconst (v := 3) d_Lw_law_172 (by decide) ?_
  refine w_iadd d_Lw_law_173 ?_
  refine w_sld d_Lw_law_174 (hs.2.2.1) ?_
  refine w_at 175 rfl ?_
  refine w_aload_n d_Lw_law_175 rfl (by first | rfl | exact vIsR_rf _) ?_
  refine w_callSk (M1 := M_Lw_method) (As := [.ref x, .int (G.2.2.2.2.2.2 (nI i + 1).toNatClampNeg), .int (G.2.2.2.2.2.2 (nI i + 2).toNatClampNeg), .int (G.2.2.2.2.2.2 (nI i + 3).toNatClampNeg), .ref o]) (st := []) (fr1 := 43) (lo1 := 1050) (mc1 := 4) (ms1 := 140) d_Lw_law_176 km_Lw_58 kS_Lw_method ⟨by decide, (by intro v hv; simp only [List.mem_cons, List.not_mem_nil, or_false] at hv; rcases hv with rfl | rfl | rfl | rfl | rfl <;> rfl), Nat.le_of_ble_eq_true rfl, kM_Lw_method, ki_Lw, by decide, by decide, Nat.le_of_ble_eq_true rfl, by decide, by decide⟩ (show _ = some 5 from by decide +kernel) rfl hV b1 b2 ?_
  refine w_istore d_Lw_law_179 (by decide) rfl ?_
  refine w_aload_n d_Lw_law_181 rfl (by first | rfl | exact vIsR_rf _) ?_
  refine w_aload_n d_Lw_law_182 rfl (by first | rfl | exact vIsR_rf _) ?_
  refine w_iload d_Lw_law_183 rfl ?_
  refine w_iconst (v := 1) d_Lw_law_185 (by decide) ?_
  refine w_iadd d_Lw_law_186 ?_
  refine w_sld d_Lw_law_187 (hs.1) ?_
  refine w_aload_n d_Lw_law_188 rfl (by first | rfl | exact vIsR_rf _) ?_
  refine w_at 189 rfl ?_
  refine w_iload d_Lw_law_189 rfl ?_
  refine w_iconst (v := 2) d_Lw_law_191 (by decide) ?_
  refine w_iadd d_Lw_law_192 ?_
  refine w_sld d_Lw_law_193 (hs.2.1) ?_
  refine w_aload_n d_Lw_law_194 rfl (by first | rfl | exact vIsR_rf _) ?_
  refine w_iload d_Lw_law_195 rfl ?_
  refine w_iconst (v := 3) d_Lw_law_197 (by decide) ?_
  refine w_iadd d_Lw_law_198 ?_
  refine w_at 199 rfl ?_
  refine w_sld d_Lw_law_199 (hs.2.2.1) ?_
  refine w_modK (M1 := M_Mo_method) (ci := 8) (As := [.int (G.2.2.2.2.2.2 (nI i + 1).toNatClampNeg), .int (G.2.2.2.2.2.2 (nI i + 2).toNatClampNeg), .int (G.2.2.2.2.2.2 (nI i + 3).toNatClampNeg)]) (st := []) (fr1 := 42) (lo1 := 1010) d_Lw_law_200 oS_at rfl km_Lw_61 kI_Mo_method ks_Mo_Mo_method ⟨by decide, (by intro v hv; simp only [List.mem_cons, List.not_mem_nil, or_false] at hv; rcases hv with rfl | rfl | rfl | rfl <;> rfl), Nat.le_of_ble_eq_true rfl, kM_Mo_method, ki_Mo, by decide, by decide, Nat.le_of_ble_eq_true rfl, by decide, by decide⟩ (show _ = some 3 from by decide +kernel) rfl hB ?_
  refine w_istore d_Lw_law_203 (by decide) rfl ?_
  refine w_aload_n d_Lw_law_205 rfl (by first | rfl | exact vIsR_rf _) ?_
  refine w_modK (M1 := M_Mo_thrown) (ci := 8) (As := []) (st := []) (fr1 := 42) (lo1 := 1010) d_Lw_law_206 oS'_at rfl km_Lw_54 kI_Mo_thrown ks_Mo_Mo_thrown ⟨by decide, (by intro v hv; simp only [List.mem_cons, List.not_mem_nil, or_false] at hv; rcases hv with rfl <;> rfl), Nat.le_of_ble_eq_true rfl, kM_Mo_thrown, ki_Mo, by decide, by decide, Nat.le_of_ble_eq_true rfl, by decide, by decide⟩ (show _ = some 0 from by decide +kernel) rfl oS'_thrown ?_
  refine w_iload d_Lw_law_209 rfl ?_
  refine w_icmp_eq (tgt := 216) d_Lw_law_211 (by decide) (fun _ => ?_) (fun c => absurd (hY) c)
  by_cases hk : k = 0
  · refine w_iload d_Lw_law_216 rfl ?_
    refine w_if_ne (tgt := 233) d_Lw_law_218 (by decide) (fun c => absurd (hk) c) (fun _ => ?_)
    refine w_aload_n d_Lw_law_221 rfl (by first | rfl | exact vIsR_rf _) ?_
    refine w_iconst (v := 0) d_Lw_law_222 (by decide) ?_
    refine w_lald d_Lw_law_223 ?_
    refine w_iload d_Lw_law_224 rfl ?_
    refine w_i2l d_Lw_law_226 ?_
    refine w_lcmp d_Lw_law_227 ?_
    rw [hw' hk, hab hk, lg_self]
    refine w_if_eq (tgt := 233) d_Lw_law_228 (by decide) (fun _ => ?_) (fun c => absurd (rfl) c)
    refine w_goto (tgt := 763) d_Lw_law_233 (by decide) ?_
    exact w_keep 5 rfl (VW.mono (fun h hl => lw_join hj' hl) nx)
  · refine w_iload d_Lw_law_216 rfl ?_
    refine w_if_ne (tgt := 233) d_Lw_law_218 (by decide) (fun _ => ?_) (fun c => absurd c (hk))
    refine w_goto (tgt := 763) d_Lw_law_233 (by decide) ?_
    exact w_keep 5 rfl (VW.mono (fun h hl => lw_join hj' hl) nx)

theorem lw_item {i : Nat} (hs : scI G i) (b1 : 4 ≤ mc) (b2 : 140 ≤ ms) (hj : jI X nc nm Y g) (nx : VW G M_Lw_law 45 1100 763 (lwL G x am o i) [] (lwJ G x am o) (mc - 4) (ms - 140) Q) : VW G M_Lw_law 45 1100 236 (lwL G x am o i) [] (lwQ G (kS G x nc nm X g) (oS G am X Y) o w) mc ms Q := by
  obtain ⟨k, a, b, nc', nm', X', Y', g', hA, hB, hab, hY, hj'⟩ := op_item (G := G) (x := x) (am := am) (m := G.2.2.2.2.2.2 (nI i + 1).toNatClampNeg) (k := G.2.2.2.2.2.2 (nI i + 2).toNatClampNeg) (a := G.2.2.2.2.2.2 (nI i + 3).toNatClampNeg) (b := G.2.2.2.2.2.2 (nI i + 4).toNatClampNeg) (c := G.2.2.2.2.2.2 (nI i + 5).toNatClampNeg) hj
  obtain ⟨w', hw', hV⟩ := hA (oS G am X Y) o w
  refine w_aload_n d_Lw_law_236 rfl (by first | rfl | exact vIsR_rf _) ?_
  refine w_aload_n d_Lw_law_237 rfl (by first | rfl | exact vIsR_rf _) ?_
  refine w_iload d_Lw_law_238 rfl ?_
  refine w_iconst (v := 1) d_Lw_law_240 (by decide) ?_
  refine w_iadd d_Lw_law_241 ?_
  refine w_sld d_Lw_law_242 (hs.1) ?_
  refine w_aload_n d_Lw_law_243 rfl (by first | rfl | exact vIsR_rf _) ?_
  refine w_iload d_Lw_law_244 rfl ?_
  refine w_at 246 rfl ?_
  refine w_iconst (v := 2) d_Lw_law_246 (by decide) ?_
  refine w_iadd d_Lw_law_247 ?_
  refine w_sld d_Lw_law_248 (hs.2.1) ?_
  refine w_aload_n d_Lw_law_249 rfl (by first | rfl | exact vIsR_rf _) ?_
  refine w_iload d_Lw_law_250 rfl ?_
  refine w_iconst (v := 3) d_Lw_law_252 (by decide) ?_
  refine w_iadd d_Lw_law_253 ?_
  refine w_sld d_Lw_law_254 (hs.2.2.1) ?_
  refine w_at 255 rfl ?_
  refine w_aload_n d_Lw_law_255 rfl (by first | rfl | exact vIsR_rf _) ?_
  refine w_iload d_Lw_law_256 rfl ?_
  refine w_iconst (v := 4) d_Lw_law_258 (by decide) ?_
  refine w_iadd d_Lw_law_259 ?_
  refine w_sld d_Lw_law_260 (hs.2.2.2.1) ?_
  refine w_aload_n d_Lw_law_261 rfl (by first | rfl | exact vIsR_rf _) ?_
  refine w_iload d_Lw_law_262 rfl ?_
  refine w_iconst (v := 5) d_Lw_law_264 (by decide) ?_
  refine w_at 265 rfl ?_
  refine w_iadd d_Lw_law_265 ?_
  refine w_sld d_Lw_law_266 (hs.2.2.2.2) ?_
  refine w_aload_n d_Lw_law_267 rfl (by first | rfl | exact vIsR_rf _) ?_
  refine w_callSk (M1 := M_Lw_item) (As := [.ref x, .int (G.2.2.2.2.2.2 (nI i + 1).toNatClampNeg), .int (G.2.2.2.2.2.2 (nI i + 2).toNatClampNeg), .int (G.2.2.2.2.2.2 (nI i + 3).toNatClampNeg), .int (G.2.2.2.2.2.2 (nI i + 4).toNatClampNeg), .int (G.2.2.2.2.2.2 (nI i + 5).toNatClampNeg), .ref o]) (st := []) (fr1 := 43) (lo1 := 1050) (mc1 := 4) (ms1 := 140) d_Lw_law_268 km_Lw_62 kS_Lw_item ⟨by decide, (by intro v hv; simp only [List.mem_cons, List.not_mem_nil, or_false] at hv; rcases hv with rfl | rfl | rfl | rfl | rfl | rfl | rfl <;> rfl), Nat.le_of_ble_eq_true rfl, kM_Lw_item, ki_Lw, by decide, by decide, Nat.le_of_ble_eq_true rfl, by decide, by decide⟩ (show _ = some 7 from by decide +kernel) rfl hV b1 b2 ?_
  refine w_istore d_Lw_law_271 (by decide) rfl ?_
  refine w_aload_n d_Lw_law_273 rfl (by first | rfl | exact vIsR_rf _) ?_
  refine w_aload_n d_Lw_law_274 rfl (by first | rfl | exact vIsR_rf _) ?_
  refine w_iload d_Lw_law_275 rfl ?_
  refine w_iconst (v := 1) d_Lw_law_277 (by decide) ?_
  refine w_iadd d_Lw_law_278 ?_
  refine w_sld d_Lw_law_279 (hs.1) ?_
  refine w_aload_n d_Lw_law_280 rfl (by first | rfl | exact vIsR_rf _) ?_
  refine w_at 281 rfl ?_
  refine w_iload d_Lw_law_281 rfl ?_
  refine w_iconst (v := 2) d_Lw_law_283 (by decide) ?_
  refine w_iadd d_Lw_law_284 ?_
  refine w_sld d_Lw_law_285 (hs.2.1) ?_
  refine w_aload_n d_Lw_law_286 rfl (by first | rfl | exact vIsR_rf _) ?_
  refine w_iload d_Lw_law_287 rfl ?_
  refine w_iconst (v := 3) d_Lw_law_289 (by decide) ?_
  refine w_iadd d_Lw_law_290 ?_
  refine w_at 291 rfl ?_
  refine w_sld d_Lw_law_291 (hs.2.2.1) ?_
  refine w_aload_n d_Lw_law_292 rfl (by first | rfl | exact vIsR_rf _) ?_
  refine w_iload d_Lw_law_293 rfl ?_
  refine w_iconst (v := 4) d_Lw_law_295 (by decide) ?_
  refine w_iadd d_Lw_law_296 ?_
  refine w_sld d_Lw_law_297 (hs.2.2.2.1) ?_
  refine w_aload_n d_Lw_law_298 rfl (by first | rfl | exact vIsR_rf _) ?_
  refine w_iload d_Lw_law_299 rfl ?_
  refine w_at 301 rfl ?_
  refine w_iconst (v := 5) d_Lw_law_301 (by decide) ?_
  refine w_iadd d_Lw_law_302 ?_
  refine w_sld d_Lw_law_303 (hs.2.2.2.2) ?_
  refine w_modK (M1 := M_Mo_item) (ci := 8) (As := [.int (G.2.2.2.2.2.2 (nI i + 1).toNatClampNeg), .int (G.2.2.2.2.2.2 (nI i + 2).toNatClampNeg), .int (G.2.2.2.2.2.2 (nI i + 3).toNatClampNeg), .int (G.2.2.2.2.2.2 (nI i + 4).toNatClampNeg), .int (G.2.2.2.2.2.2 (nI i + 5).toNatClampNeg)]) (st := []) (fr1 := 42) (lo1 := 1010) d_Lw_law_304 oS_at rfl km_Lw_65 kI_Mo_item ks_Mo_Mo_item ⟨by decide, (by intro v hv; simp only [List.mem_cons, List.not_mem_nil, or_false] at hv; rcases hv with rfl | rfl | rfl | rfl | rfl | rfl <;> rfl), Nat.le_of_ble_eq_true rfl, kM_Mo_item, ki_Mo, by decide, by decide, Nat.le_of_ble_eq_true rfl, by decide, by decide⟩ (show _ = some 5 from by decide +kernel) rfl hB ?_
  refine w_istore d_Lw_law_307 (by decide) rfl ?_
  refine w_aload_n d_Lw_law_309 rfl (by first | rfl | exact vIsR_rf _) ?_
  refine w_modK (M1 := M_Mo_thrown) (ci := 8) (As := []) (st := []) (fr1 := 42) (lo1 := 1010) d_Lw_law_310 oS'_at rfl km_Lw_54 kI_Mo_thrown ks_Mo_Mo_thrown ⟨by decide, (by intro v hv; simp only [List.mem_cons, List.not_mem_nil, or_false] at hv; rcases hv with rfl <;> rfl), Nat.le_of_ble_eq_true rfl, kM_Mo_thrown, ki_Mo, by decide, by decide, Nat.le_of_ble_eq_true rfl, by decide, by decide⟩ (show _ = some 0 from by decide +kernel) rfl oS'_thrown ?_
  refine w_iload d_Lw_law_313 rfl ?_
  refine w_icmp_eq (tgt := 320) d_Lw_law_315 (by decide) (fun _ => ?_) (fun c => absurd (hY) c)
  by_cases hk : k = 0
  · refine w_iload d_Lw_law_320 rfl ?_
    refine w_if_ne (tgt := 337) d_Lw_law_322 (by decide) (fun c => absurd (hk) c) (fun _ => ?_)
    refine w_aload_n d_Lw_law_325 rfl (by first | rfl | exact vIsR_rf _) ?_
    refine w_iconst (v := 0) d_Lw_law_326 (by decide) ?_
    refine w_lald d_Lw_law_327 ?_
    refine w_iload d_Lw_law_328 rfl ?_
    refine w_i2l d_Lw_law_330 ?_
    refine w_lcmp d_Lw_law_331 ?_
    rw [hw' hk, hab hk, lg_self]
    refine w_if_eq (tgt := 337) d_Lw_law_332 (by decide) (fun _ => ?_) (fun c => absurd (rfl) c)
    refine w_goto (tgt := 763) d_Lw_law_337 (by decide) ?_
    exact w_keep 5 rfl (VW.mono (fun h hl => lw_join hj' hl) nx)
  · refine w_iload d_Lw_law_320 rfl ?_
    refine w_if_ne (tgt := 337) d_Lw_law_322 (by decide) (fun _ => ?_) (fun c => absurd c (hk))
    refine w_goto (tgt := 763) d_Lw_law_337 (by decide) ?_
    exact w_keep 5 rfl (VW.mono (fun h hl => lw_join hj' hl) nx)

theorem lw_run {i : Nat} (hs : scI G i) (b1 : 4 ≤ mc) (b2 : 140 ≤ ms) (hj : jI X nc nm Y g) (nx : VW G M_Lw_law 45 1100 763 (lwL G x am o i) [] (lwJ G x am o) (mc - 4) (ms - 140) Q) : VW G M_Lw_law 45 1100 404 (lwL G x am o i) [] (lwQ G (kS G x nc nm X g) (oS G am X Y) o w) mc ms Q := by
  obtain ⟨k, a, b, nc', nm', X', Y', g', hA, hB, hab, hY, hj'⟩ := op_run (G := G) (x := x) (am := am) (o := G.2.2.2.2.2.2 (nI i + 1).toNatClampNeg) (n := G.2.2.2.2.2.2 (nI i + 2).toNatClampNeg) (r := G.2.2.2.2.2.2 (nI i + 3).toNatClampNeg) hj
  obtain ⟨w', hw', hV⟩ := hA (oS G am X Y) o w
  refine w_aload_n d_Lw_law_404 rfl (by first | rfl | exact vIsR_rf _) ?_
  refine w_aload_n d_Lw_law_405 rfl (by first | rfl | exact vIsR_rf _) ?_
  refine w_iload d_Lw_law_406 rfl ?_
  refine w_iconst (v := 1) d_Lw_law_408 (by decide) ?_
  refine w_iadd d_Lw_law_409 ?_
  refine w_sld d_Lw_law_410 (hs.1) ?_
  refine w_aload_n d_Lw_law_411 rfl (by first | rfl | exact vIsR_rf _) ?_
  refine w_iload d_Lw_law_412 rfl ?_
  refine w_at 414 rfl ?_
  refine w_iconst (v := 2) d_Lw_law_414 (by decide) ?_
  refine w_iadd d_Lw_law_415 ?_
  refine w_sld d_Lw_law_416 (hs.2.1) ?_
  refine w_aload_n d_Lw_law_417 rfl (by first | rfl | exact vIsR_rf _) ?_
  refine w_iload d_Lw_law_418 rfl ?_
  refine w_iconst (v := 3) d_Lw_law_420 (by decide) ?_
  refine w_iadd d_Lw_law_421 ?_
  refine w_sld d_Lw_law_422 (hs.2.2.1) ?_
  refine w_at 423 rfl ?_
  refine w_aload_n d_Lw_law_423 rfl (by first | rfl | exact vIsR_rf _) ?_
  refine w_callSk (M1 := M_Lw_run) (As := [.ref x, .int (G.2.2.2.2.2.2 (nI i + 1).toNatClampNeg), .int (G.2.2.2.2.2.2 (nI i + 2).toNatClampNeg), .int (G.2.2.2.2.2.2 (nI i + 3).toNatClampNeg), .ref o]) (st := []) (fr1 := 43) (lo1 := 1050) (mc1 := 4) (ms1 := 140) d_Lw_law_424 km_Lw_70 kS_Lw_run ⟨by decide, (by intro v hv; simp only [List.mem_cons, List.not_mem_nil, or_false] at hv; rcases hv with rfl | rfl | rfl | rfl | rfl <;> rfl), Nat.le_of_ble_eq_true rfl, kM_Lw_run, ki_Lw, by decide, by decide, Nat.le_of_ble_eq_true rfl, by decide, by decide⟩ (show _ = some 5 from by decide +kernel) rfl hV b1 b2 ?_
  refine w_istore d_Lw_law_427 (by decide) rfl ?_
  refine w_aload_n d_Lw_law_429 rfl (by first | rfl | exact vIsR_rf _) ?_
  refine w_aload_n d_Lw_law_430 rfl (by first | rfl | exact vIsR_rf _) ?_
  refine w_iload d_Lw_law_431 rfl ?_
  refine w_iconst (v := 1) d_Lw_law_433 (by decide) ?_
  refine w_iadd d_Lw_law_434 ?_
  refine w_sld d_Lw_law_435 (hs.1) ?_
  refine w_aload_n d_Lw_law_436 rfl (by first | rfl | exact vIsR_rf _) ?_
  refine w_at 437 rfl ?_
  refine w_iload d_Lw_law_437 rfl ?_
  refine w_iconst (v := 2) d_Lw_law_439 (by decide) ?_
  refine w_iadd d_Lw_law_440 ?_
  refine w_sld d_Lw_law_441 (hs.2.1) ?_
  refine w_aload_n d_Lw_law_442 rfl (by first | rfl | exact vIsR_rf _) ?_
  refine w_iload d_Lw_law_443 rfl ?_
  refine w_iconst (v := 3) d_Lw_law_445 (by decide) ?_
  refine w_iadd d_Lw_law_446 ?_
  refine w_at 447 rfl ?_
  refine w_sld d_Lw_law_447 (hs.2.2.1) ?_
  refine w_modK (M1 := M_Mo_run) (ci := 8) (As := [.int (G.2.2.2.2.2.2 (nI i + 1).toNatClampNeg), .int (G.2.2.2.2.2.2 (nI i + 2).toNatClampNeg), .int (G.2.2.2.2.2.2 (nI i + 3).toNatClampNeg)]) (st := []) (fr1 := 42) (lo1 := 1010) d_Lw_law_448 oS_at rfl km_Lw_72 kI_Mo_run ks_Mo_Mo_run ⟨by decide, (by intro v hv; simp only [List.mem_cons, List.not_mem_nil, or_false] at hv; rcases hv with rfl | rfl | rfl | rfl <;> rfl), Nat.le_of_ble_eq_true rfl, kM_Mo_run, ki_Mo, by decide, by decide, Nat.le_of_ble_eq_true rfl, by decide, by decide⟩ (show _ = some 3 from by decide +kernel) rfl hB ?_
  refine w_istore d_Lw_law_451 (by decide) rfl ?_
  refine w_aload_n d_Lw_law_453 rfl (by first | rfl | exact vIsR_rf _) ?_
  refine w_modK (M1 := M_Mo_thrown) (ci := 8) (As := []) (st := []) (fr1 := 42) (lo1 := 1010) d_Lw_law_454 oS'_at rfl km_Lw_54 kI_Mo_thrown ks_Mo_Mo_thrown ⟨by decide, (by intro v hv; simp only [List.mem_cons, List.not_mem_nil, or_false] at hv; rcases hv with rfl <;> rfl), Nat.le_of_ble_eq_true rfl, kM_Mo_thrown, ki_Mo, by decide, by decide, Nat.le_of_ble_eq_true rfl, by decide, by decide⟩ (show _ = some 0 from by decide +kernel) rfl oS'_thrown ?_
  refine w_iload d_Lw_law_457 rfl ?_
  refine w_icmp_eq (tgt := 464) d_Lw_law_459 (by decide) (fun _ => ?_) (fun c => absurd (hY) c)
  by_cases hk : k = 0
  · refine w_iload d_Lw_law_464 rfl ?_
    refine w_if_ne (tgt := 481) d_Lw_law_466 (by decide) (fun c => absurd (hk) c) (fun _ => ?_)
    refine w_aload_n d_Lw_law_469 rfl (by first | rfl | exact vIsR_rf _) ?_
    refine w_iconst (v := 0) d_Lw_law_470 (by decide) ?_
    refine w_lald d_Lw_law_471 ?_
    refine w_iload d_Lw_law_472 rfl ?_
    refine w_i2l d_Lw_law_474 ?_
    refine w_lcmp d_Lw_law_475 ?_
    rw [hw' hk, hab hk, lg_self]
    refine w_if_eq (tgt := 481) d_Lw_law_476 (by decide) (fun _ => ?_) (fun c => absurd (rfl) c)
    refine w_goto (tgt := 763) d_Lw_law_481 (by decide) ?_
    exact w_keep 5 rfl (VW.mono (fun h hl => lw_join hj' hl) nx)
  · refine w_iload d_Lw_law_464 rfl ?_
    refine w_if_ne (tgt := 481) d_Lw_law_466 (by decide) (fun _ => ?_) (fun c => absurd c (hk))
    refine w_goto (tgt := 763) d_Lw_law_481 (by decide) ?_
    exact w_keep 5 rfl (VW.mono (fun h hl => lw_join hj' hl) nx)

theorem lw_told {i : Nat} (hs : scI G i) (b1 : 4 ≤ mc) (b2 : 140 ≤ ms) (hj : jI X nc nm Y g) (nx : VW G M_Lw_law 45 1100 763 (lwL G x am o i) [] (lwJ G x am o) (mc - 4) (ms - 140) Q) : VW G M_Lw_law 45 1100 510 (lwL G x am o i) [] (lwQ G (kS G x nc nm X g) (oS G am X Y) o w) mc ms Q := by
  obtain ⟨k, a, b, nc', nm', X', Y', g', hA, hB, hab, hY, hj'⟩ := op_told (G := G) (x := x) (am := am) (m := G.2.2.2.2.2.2 (nI i + 1).toNatClampNeg) (w := G.2.2.2.2.2.2 (nI i + 2).toNatClampNeg) hj
  obtain ⟨w', hw', hV⟩ := hA (oS G am X Y) o w
  refine w_aload_n d_Lw_law_510 rfl (by first | rfl | exact vIsR_rf _) ?_
  refine w_aload_n d_Lw_law_511 rfl (by first | rfl | exact vIsR_rf _) ?_
  refine w_iload d_Lw_law_512 rfl ?_
  refine w_iconst (v := 1) d_Lw_law_514 (by decide) ?_
  refine w_iadd d_Lw_law_515 ?_
  refine w_sld d_Lw_law_516 (hs.1) ?_
  refine w_aload_n d_Lw_law_517 rfl (by first | rfl | exact vIsR_rf _) ?_
  refine w_iload d_Lw_law_518 rfl ?_
  refine w_at 520 rfl ?_
  refine w_iconst (v := 2) d_Lw_law_520 (by decide) ?_
  refine w_iadd d_Lw_law_521 ?_
  refine w_sld d_Lw_law_522 (hs.2.1) ?_
  refine w_aload_n d_Lw_law_523 rfl (by first | rfl | exact vIsR_rf _) ?_
  refine w_callSk (M1 := M_Lw_told) (As := [.ref x, .int (G.2.2.2.2.2.2 (nI i + 1).toNatClampNeg), .int (G.2.2.2.2.2.2 (nI i + 2).toNatClampNeg), .ref o]) (st := []) (fr1 := 43) (lo1 := 1050) (mc1 := 4) (ms1 := 140) d_Lw_law_524 km_Lw_81 kS_Lw_told ⟨by decide, (by intro v hv; simp only [List.mem_cons, List.not_mem_nil, or_false] at hv; rcases hv with rfl | rfl | rfl | rfl <;> rfl), Nat.le_of_ble_eq_true rfl, kM_Lw_told, ki_Lw, by decide, by decide, Nat.le_of_ble_eq_true rfl, by decide, by decide⟩ (show _ = some 4 from by decide +kernel) rfl hV b1 b2 ?_
  refine w_istore d_Lw_law_527 (by decide) rfl ?_
  refine w_aload_n d_Lw_law_529 rfl (by first | rfl | exact vIsR_rf _) ?_
  refine w_aload_n d_Lw_law_530 rfl (by first | rfl | exact vIsR_rf _) ?_
  refine w_iload d_Lw_law_531 rfl ?_
  refine w_iconst (v := 1) d_Lw_law_533 (by decide) ?_
  refine w_iadd d_Lw_law_534 ?_
  refine w_sld d_Lw_law_535 (hs.1) ?_
  refine w_aload_n d_Lw_law_536 rfl (by first | rfl | exact vIsR_rf _) ?_
  refine w_at 537 rfl ?_
  refine w_iload d_Lw_law_537 rfl ?_
  refine w_iconst (v := 2) d_Lw_law_539 (by decide) ?_
  refine w_iadd d_Lw_law_540 ?_
  refine w_sld d_Lw_law_541 (hs.2.1) ?_
  refine w_modK (M1 := M_Mo_told) (ci := 8) (As := [.int (G.2.2.2.2.2.2 (nI i + 1).toNatClampNeg), .int (G.2.2.2.2.2.2 (nI i + 2).toNatClampNeg)]) (st := []) (fr1 := 42) (lo1 := 1010) d_Lw_law_542 oS_at rfl km_Lw_84 kI_Mo_told ks_Mo_Mo_told ⟨by decide, (by intro v hv; simp only [List.mem_cons, List.not_mem_nil, or_false] at hv; rcases hv with rfl | rfl | rfl <;> rfl), Nat.le_of_ble_eq_true rfl, kM_Mo_told, ki_Mo, by decide, by decide, Nat.le_of_ble_eq_true rfl, by decide, by decide⟩ (show _ = some 2 from by decide +kernel) rfl hB ?_
  refine w_istore d_Lw_law_545 (by decide) rfl ?_
  refine w_aload_n d_Lw_law_547 rfl (by first | rfl | exact vIsR_rf _) ?_
  refine w_modK (M1 := M_Mo_thrown) (ci := 8) (As := []) (st := []) (fr1 := 42) (lo1 := 1010) d_Lw_law_548 oS'_at rfl km_Lw_54 kI_Mo_thrown ks_Mo_Mo_thrown ⟨by decide, (by intro v hv; simp only [List.mem_cons, List.not_mem_nil, or_false] at hv; rcases hv with rfl <;> rfl), Nat.le_of_ble_eq_true rfl, kM_Mo_thrown, ki_Mo, by decide, by decide, Nat.le_of_ble_eq_true rfl, by decide, by decide⟩ (show _ = some 0 from by decide +kernel) rfl oS'_thrown ?_
  refine w_iload d_Lw_law_551 rfl ?_
  refine w_icmp_eq (tgt := 558) d_Lw_law_553 (by decide) (fun _ => ?_) (fun c => absurd (hY) c)
  by_cases hk : k = 0
  · refine w_iload d_Lw_law_558 rfl ?_
    refine w_if_ne (tgt := 575) d_Lw_law_560 (by decide) (fun c => absurd (hk) c) (fun _ => ?_)
    refine w_aload_n d_Lw_law_563 rfl (by first | rfl | exact vIsR_rf _) ?_
    refine w_iconst (v := 0) d_Lw_law_564 (by decide) ?_
    refine w_lald d_Lw_law_565 ?_
    refine w_iload d_Lw_law_566 rfl ?_
    refine w_i2l d_Lw_law_568 ?_
    refine w_lcmp d_Lw_law_569 ?_
    rw [hw' hk, hab hk, lg_self]
    refine w_if_eq (tgt := 575) d_Lw_law_570 (by decide) (fun _ => ?_) (fun c => absurd (rfl) c)
    refine w_goto (tgt := 763) d_Lw_law_575 (by decide) ?_
    exact w_keep 5 rfl (VW.mono (fun h hl => lw_join hj' hl) nx)
  · refine w_iload d_Lw_law_558 rfl ?_
    refine w_if_ne (tgt := 575) d_Lw_law_560 (by decide) (fun _ => ?_) (fun c => absurd c (hk))
    refine w_goto (tgt := 763) d_Lw_law_575 (by decide) ?_
    exact w_keep 5 rfl (VW.mono (fun h hl => lw_join hj' hl) nx)

theorem lw_inside {i : Nat} (hs : scI G i) (b1 : 4 ≤ mc) (b2 : 140 ≤ ms) (hj : jI X nc nm Y g) (nx : VW G M_Lw_law 45 1100 763 (lwL G x am o i) [] (lwJ G x am o) (mc - 4) (ms - 140) Q) : VW G M_Lw_law 45 1100 578 (lwL G x am o i) [] (lwQ G (kS G x nc nm X g) (oS G am X Y) o w) mc ms Q := by
  obtain ⟨k, a, b, nc', nm', X', Y', g', hA, hB, hab, hY, hj'⟩ := op_inside (G := G) (x := x) (am := am) (m := G.2.2.2.2.2.2 (nI i + 1).toNatClampNeg) (i := G.2.2.2.2.2.2 (nI i + 2).toNatClampNeg) (w := G.2.2.2.2.2.2 (nI i + 3).toNatClampNeg) hj
  obtain ⟨w', hw', hV⟩ := hA (oS G am X Y) o w
  refine w_aload_n d_Lw_law_578 rfl (by first | rfl | exact vIsR_rf _) ?_
  refine w_aload_n d_Lw_law_579 rfl (by first | rfl | exact vIsR_rf _) ?_
  refine w_iload d_Lw_law_580 rfl ?_
  refine w_iconst (v := 1) d_Lw_law_582 (by decide) ?_
  refine w_iadd d_Lw_law_583 ?_
  refine w_sld d_Lw_law_584 (hs.1) ?_
  refine w_aload_n d_Lw_law_585 rfl (by first | rfl | exact vIsR_rf _) ?_
  refine w_iload d_Lw_law_586 rfl ?_
  refine w_at 588 rfl ?_
  refine w_iconst (v := 2) d_Lw_law_588 (by decide) ?_
  refine w_iadd d_Lw_law_589 ?_
  refine w_sld d_Lw_law_590 (hs.2.1) ?_
  refine w_aload_n d_Lw_law_591 rfl (by first | rfl | exact vIsR_rf _) ?_
  refine w_iload d_Lw_law_592 rfl ?_
  refine w_iconst (v := 3) d_Lw_law_594 (by decide) ?_
  refine w_iadd d_Lw_law_595 ?_
  refine w_sld d_Lw_law_596 (hs.2.2.1) ?_
  refine w_at 597 rfl ?_
  refine w_aload_n d_Lw_law_597 rfl (by first | rfl | exact vIsR_rf _) ?_
  refine w_callSk (M1 := M_Lw_inside) (As := [.ref x, .int (G.2.2.2.2.2.2 (nI i + 1).toNatClampNeg), .int (G.2.2.2.2.2.2 (nI i + 2).toNatClampNeg), .int (G.2.2.2.2.2.2 (nI i + 3).toNatClampNeg), .ref o]) (st := []) (fr1 := 43) (lo1 := 1050) (mc1 := 4) (ms1 := 140) d_Lw_law_598 km_Lw_85 kS_Lw_inside ⟨by decide, (by intro v hv; simp only [List.mem_cons, List.not_mem_nil, or_false] at hv; rcases hv with rfl | rfl | rfl | rfl | rfl <;> rfl), Nat.le_of_ble_eq_true rfl, kM_Lw_inside, ki_Lw, by decide, by decide, Nat.le_of_ble_eq_true rfl, by decide, by decide⟩ (show _ = some 5 from by decide +kernel) rfl hV b1 b2 ?_
  refine w_istore d_Lw_law_601 (by decide) rfl ?_
  refine w_aload_n d_Lw_law_603 rfl (by first | rfl | exact vIsR_rf _) ?_
  refine w_aload_n d_Lw_law_604 rfl (by first | rfl | exact vIsR_rf _) ?_
  refine w_iload d_Lw_law_605 rfl ?_
  refine w_iconst (v := 1) d_Lw_law_607 (by decide) ?_
  refine w_iadd d_Lw_law_608 ?_
  refine w_sld d_Lw_law_609 (hs.1) ?_
  refine w_aload_n d_Lw_law_610 rfl (by first | rfl | exact vIsR_rf _) ?_
  refine w_at 611 rfl ?_
  refine w_iload d_Lw_law_611 rfl ?_
  refine w_iconst (v := 2) d_Lw_law_613 (by decide) ?_
  refine w_iadd d_Lw_law_614 ?_
  refine w_sld d_Lw_law_615 (hs.2.1) ?_
  refine w_aload_n d_Lw_law_616 rfl (by first | rfl | exact vIsR_rf _) ?_
  refine w_iload d_Lw_law_617 rfl ?_
  refine w_iconst (v := 3) d_Lw_law_619 (by decide) ?_
  refine w_iadd d_Lw_law_620 ?_
  refine w_at 621 rfl ?_
  refine w_sld d_Lw_law_621 (hs.2.2.1) ?_
  refine w_modK (M1 := M_Mo_inside) (ci := 8) (As := [.int (G.2.2.2.2.2.2 (nI i + 1).toNatClampNeg), .int (G.2.2.2.2.2.2 (nI i + 2).toNatClampNeg), .int (G.2.2.2.2.2.2 (nI i + 3).toNatClampNeg)]) (st := []) (fr1 := 42) (lo1 := 1010) d_Lw_law_622 oS_at rfl km_Lw_87 kI_Mo_inside ks_Mo_Mo_inside ⟨by decide, (by intro v hv; simp only [List.mem_cons, List.not_mem_nil, or_false] at hv; rcases hv with rfl | rfl | rfl | rfl <;> rfl), Nat.le_of_ble_eq_true rfl, kM_Mo_inside, ki_Mo, by decide, by decide, Nat.le_of_ble_eq_true rfl, by decide, by decide⟩ (show _ = some 3 from by decide +kernel) rfl hB ?_
  refine w_istore d_Lw_law_625 (by decide) rfl ?_
  refine w_aload_n d_Lw_law_627 rfl (by first | rfl | exact vIsR_rf _) ?_
  refine w_modK (M1 := M_Mo_thrown) (ci := 8) (As := []) (st := []) (fr1 := 42) (lo1 := 1010) d_Lw_law_628 oS'_at rfl km_Lw_54 kI_Mo_thrown ks_Mo_Mo_thrown ⟨by decide, (by intro v hv; simp only [List.mem_cons, List.not_mem_nil, or_false] at hv; rcases hv with rfl <;> rfl), Nat.le_of_ble_eq_true rfl, kM_Mo_thrown, ki_Mo, by decide, by decide, Nat.le_of_ble_eq_true rfl, by decide, by decide⟩ (show _ = some 0 from by decide +kernel) rfl oS'_thrown ?_
  refine w_iload d_Lw_law_631 rfl ?_
  refine w_icmp_eq (tgt := 638) d_Lw_law_633 (by decide) (fun _ => ?_) (fun c => absurd (hY) c)
  by_cases hk : k = 0
  · refine w_iload d_Lw_law_638 rfl ?_
    refine w_if_ne (tgt := 655) d_Lw_law_640 (by decide) (fun c => absurd (hk) c) (fun _ => ?_)
    refine w_aload_n d_Lw_law_643 rfl (by first | rfl | exact vIsR_rf _) ?_
    refine w_iconst (v := 0) d_Lw_law_644 (by decide) ?_
    refine w_lald d_Lw_law_645 ?_
    refine w_iload d_Lw_law_646 rfl ?_
    refine w_i2l d_Lw_law_648 ?_
    refine w_lcmp d_Lw_law_649 ?_
    rw [hw' hk, hab hk, lg_self]
    refine w_if_eq (tgt := 655) d_Lw_law_650 (by decide) (fun _ => ?_) (fun c => absurd (rfl) c)
    refine w_goto (tgt := 763) d_Lw_law_655 (by decide) ?_
    exact w_keep 5 rfl (VW.mono (fun h hl => lw_join hj' hl) nx)
  · refine w_iload d_Lw_law_638 rfl ?_
    refine w_if_ne (tgt := 655) d_Lw_law_640 (by decide) (fun _ => ?_) (fun c => absurd c (hk))
    refine w_goto (tgt := 763) d_Lw_law_655 (by decide) ?_
    exact w_keep 5 rfl (VW.mono (fun h hl => lw_join hj' hl) nx)

theorem lw_trace {i : Nat} (hs : scI G i) (b1 : 4 ≤ mc) (b2 : 140 ≤ ms) (hj : jI X nc nm Y g) (nx : VW G M_Lw_law 45 1100 763 (lwL G x am o i) [] (lwJ G x am o) (mc - 4) (ms - 140) Q) : VW G M_Lw_law 45 1100 658 (lwL G x am o i) [] (lwQ G (kS G x nc nm X g) (oS G am X Y) o w) mc ms Q := by
  obtain ⟨k, a, b, nc', nm', X', Y', g', hA, hB, hab, hY, hj'⟩ := op_trace (G := G) (x := x) (am := am) (o := G.2.2.2.2.2.2 (nI i + 1).toNatClampNeg) (n := G.2.2.2.2.2.2 (nI i + 2).toNatClampNeg) (r := G.2.2.2.2.2.2 (nI i + 3).toNatClampNeg) hj
  obtain ⟨w', hw', hV⟩ := hA (oS G am X Y) o w
  refine w_aload_n d_Lw_law_658 rfl (by first | rfl | exact vIsR_rf _) ?_
  refine w_aload_n d_Lw_law_659 rfl (by first | rfl | exact vIsR_rf _) ?_
  refine w_iload d_Lw_law_660 rfl ?_
  refine w_iconst (v := 1) d_Lw_law_662 (by decide) ?_
  refine w_iadd d_Lw_law_663 ?_
  refine w_sld d_Lw_law_664 (hs.1) ?_
  refine w_aload_n d_Lw_law_665 rfl (by first | rfl | exact vIsR_rf _) ?_
  refine w_iload d_Lw_law_666 rfl ?_
  refine w_at 668 rfl ?_
  refine w_iconst (v := 2) d_Lw_law_668 (by decide) ?_
  refine w_iadd d_Lw_law_669 ?_
  refine w_sld d_Lw_law_670 (hs.2.1) ?_
  refine w_aload_n d_Lw_law_671 rfl (by first | rfl | exact vIsR_rf _) ?_
  refine w_iload d_Lw_law_672 rfl ?_
  refine w_iconst (v := 3) d_Lw_law_674 (by decide) ?_
  refine w_iadd d_Lw_law_675 ?_
  refine w_sld d_Lw_law_676 (hs.2.2.1) ?_
  refine w_at 677 rfl ?_
  refine w_aload_n d_Lw_law_677 rfl (by first | rfl | exact vIsR_rf _) ?_
  refine w_callSk (M1 := M_Lw_trace) (As := [.ref x, .int (G.2.2.2.2.2.2 (nI i + 1).toNatClampNeg), .int (G.2.2.2.2.2.2 (nI i + 2).toNatClampNeg), .int (G.2.2.2.2.2.2 (nI i + 3).toNatClampNeg), .ref o]) (st := []) (fr1 := 43) (lo1 := 1050) (mc1 := 4) (ms1 := 140) d_Lw_law_678 km_Lw_88 kS_Lw_trace ⟨by decide, (by intro v hv; simp only [List.mem_cons, List.not_mem_nil, or_false] at hv; rcases hv with rfl | rfl | rfl | rfl | rfl <;> rfl), Nat.le_of_ble_eq_true rfl, kM_Lw_trace, ki_Lw, by decide, by decide, Nat.le_of_ble_eq_true rfl, by decide, by decide⟩ (show _ = some 5 from by decide +kernel) rfl hV b1 b2 ?_
  refine w_istore d_Lw_law_681 (by decide) rfl ?_
  refine w_aload_n d_Lw_law_683 rfl (by first | rfl | exact vIsR_rf _) ?_
  refine w_aload_n d_Lw_law_684 rfl (by first | rfl | exact vIsR_rf _) ?_
  refine w_iload d_Lw_law_685 rfl ?_
  refine w_iconst (v := 1) d_Lw_law_687 (by decide) ?_
  refine w_iadd d_Lw_law_688 ?_
  refine w_sld d_Lw_law_689 (hs.1) ?_
  refine w_aload_n d_Lw_law_690 rfl (by first | rfl | exact vIsR_rf _) ?_
  refine w_at 691 rfl ?_
  refine w_iload d_Lw_law_691 rfl ?_
  refine w_iconst (v := 2) d_Lw_law_693 (by decide) ?_
  refine w_iadd d_Lw_law_694 ?_
  refine w_sld d_Lw_law_695 (hs.2.1) ?_
  refine w_aload_n d_Lw_law_696 rfl (by first | rfl | exact vIsR_rf _) ?_
  refine w_iload d_Lw_law_697 rfl ?_
  refine w_iconst (v := 3) d_Lw_law_699 (by decide) ?_
  refine w_iadd d_Lw_law_700 ?_
  refine w_at 701 rfl ?_
  refine w_sld d_Lw_law_701 (hs.2.2.1) ?_
  refine w_modK (M1 := M_Mo_trace) (ci := 8) (As := [.int (G.2.2.2.2.2.2 (nI i + 1).toNatClampNeg), .int (G.2.2.2.2.2.2 (nI i + 2).toNatClampNeg), .int (G.2.2.2.2.2.2 (nI i + 3).toNatClampNeg)]) (st := []) (fr1 := 42) (lo1 := 1010) d_Lw_law_702 oS_at rfl km_Lw_90 kI_Mo_trace ks_Mo_Mo_trace ⟨by decide, (by intro v hv; simp only [List.mem_cons, List.not_mem_nil, or_false] at hv; rcases hv with rfl | rfl | rfl | rfl <;> rfl), Nat.le_of_ble_eq_true rfl, kM_Mo_trace, ki_Mo, by decide, by decide, Nat.le_of_ble_eq_true rfl, by decide, by decide⟩ (show _ = some 3 from by decide +kernel) rfl hB ?_
  refine w_istore d_Lw_law_705 (by decide) rfl ?_
  refine w_aload_n d_Lw_law_707 rfl (by first | rfl | exact vIsR_rf _) ?_
  refine w_modK (M1 := M_Mo_thrown) (ci := 8) (As := []) (st := []) (fr1 := 42) (lo1 := 1010) d_Lw_law_708 oS'_at rfl km_Lw_54 kI_Mo_thrown ks_Mo_Mo_thrown ⟨by decide, (by intro v hv; simp only [List.mem_cons, List.not_mem_nil, or_false] at hv; rcases hv with rfl <;> rfl), Nat.le_of_ble_eq_true rfl, kM_Mo_thrown, ki_Mo, by decide, by decide, Nat.le_of_ble_eq_true rfl, by decide, by decide⟩ (show _ = some 0 from by decide +kernel) rfl oS'_thrown ?_
  refine w_iload d_Lw_law_711 rfl ?_
  refine w_icmp_eq (tgt := 718) d_Lw_law_713 (by decide) (fun _ => ?_) (fun c => absurd (hY) c)
  by_cases hk : k = 0
  · refine w_iload d_Lw_law_718 rfl ?_
    refine w_if_ne (tgt := 735) d_Lw_law_720 (by decide) (fun c => absurd (hk) c) (fun _ => ?_)
    refine w_aload_n d_Lw_law_723 rfl (by first | rfl | exact vIsR_rf _) ?_
    refine w_iconst (v := 0) d_Lw_law_724 (by decide) ?_
    refine w_lald d_Lw_law_725 ?_
    refine w_iload d_Lw_law_726 rfl ?_
    refine w_i2l d_Lw_law_728 ?_
    refine w_lcmp d_Lw_law_729 ?_
    rw [hw' hk, hab hk, lg_self]
    refine w_if_eq (tgt := 735) d_Lw_law_730 (by decide) (fun _ => ?_) (fun c => absurd (rfl) c)
    refine w_goto (tgt := 763) d_Lw_law_735 (by decide) ?_
    exact w_keep 5 rfl (VW.mono (fun h hl => lw_join hj' hl) nx)
  · refine w_iload d_Lw_law_718 rfl ?_
    refine w_if_ne (tgt := 735) d_Lw_law_720 (by decide) (fun _ => ?_) (fun c => absurd c (hk))
    refine w_goto (tgt := 763) d_Lw_law_735 (by decide) ?_
    exact w_keep 5 rfl (VW.mono (fun h hl => lw_join hj' hl) nx)

theorem lw_shrink {i : Nat} (hs : scI G i) (b1 : 4 ≤ mc) (b2 : 140 ≤ ms) (hj : jI X nc nm Y g) (nx : VW G M_Lw_law 45 1100 763 (lwL G x am o i) [] (lwJ G x am o) (mc - 4) (ms - 140) Q) : VW G M_Lw_law 45 1100 484 (lwL G x am o i) [] (lwQ G (kS G x nc nm X g) (oS G am X Y) o w) mc ms Q := by
  obtain ⟨a, C', Mo', hA, hB, hend⟩ := op_shrink (G := G) (x := x) (am := am)  hj
  refine w_aload_n d_Lw_law_484 rfl (by first | rfl | exact vIsR_rf _) ?_
  refine w_clsK (M1 := M_Cs_shrink) (ci := 7) (As := []) (st := []) (fr1 := 42) (lo1 := 1010) (mc1 := 4) (ms1 := 140) d_Lw_law_485 kS_at rfl km_Lw_73 kI_Cs_shrink ks_Cs_Cs_shrink ⟨by decide, (by intro v hv; simp only [List.mem_cons, List.not_mem_nil, or_false] at hv; rcases hv with rfl <;> rfl), Nat.le_of_ble_eq_true rfl, kM_Cs_shrink, ki_Cs, by decide, by decide, Nat.le_of_ble_eq_true rfl, by decide, by decide⟩ (show _ = some 0 from by decide +kernel) rfl hA b1 b2 ?_
  refine w_aload_n d_Lw_law_488 rfl (by first | rfl | exact vIsR_rf _) ?_
  refine w_modK (M1 := M_Mo_shrink) (ci := 8) (As := []) (st := [.int a]) (fr1 := 42) (lo1 := 1010) d_Lw_law_489 oS_at rfl km_Lw_76 kI_Mo_shrink ks_Mo_Mo_shrink ⟨by decide, (by intro v hv; simp only [List.mem_cons, List.not_mem_nil, or_false] at hv; rcases hv with rfl <;> rfl), Nat.le_of_ble_eq_true rfl, kM_Mo_shrink, ki_Mo, by decide, by decide, Nat.le_of_ble_eq_true rfl, by decide, by decide⟩ (show _ = some 0 from by decide +kernel) rfl hB ?_
  refine w_icmp_eq (tgt := 763) d_Lw_law_492 (by decide) (fun _ => ?_) (fun c => absurd (rfl) c)
  exact VW.mono (fun h hl => hend o w h hl) nx

theorem lw_rename {i : Nat} (hs : scI G i) (b1 : 4 ≤ mc) (b2 : 140 ≤ ms) (hj : jI X nc nm Y g) (nx : VW G M_Lw_law 45 1100 763 (lwL G x am o i) [] (lwJ G x am o) (mc - 4) (ms - 140) Q) : VW G M_Lw_law 45 1100 497 (lwL G x am o i) [] (lwQ G (kS G x nc nm X g) (oS G am X Y) o w) mc ms Q := by
  obtain ⟨a, C', Mo', hA, hB, hend⟩ := op_rename (G := G) (x := x) (am := am)  hj
  refine w_aload_n d_Lw_law_497 rfl (by first | rfl | exact vIsR_rf _) ?_
  refine w_clsK (M1 := M_Cs_rename) (ci := 7) (As := []) (st := []) (fr1 := 42) (lo1 := 1010) (mc1 := 4) (ms1 := 140) d_Lw_law_498 kS_at rfl km_Lw_77 kI_Cs_rename ks_Cs_Cs_rename ⟨by decide, (by intro v hv; simp only [List.mem_cons, List.not_mem_nil, or_false] at hv; rcases hv with rfl <;> rfl), Nat.le_of_ble_eq_true rfl, kM_Cs_rename, ki_Cs, by decide, by decide, Nat.le_of_ble_eq_true rfl, by decide, by decide⟩ (show _ = some 0 from by decide +kernel) rfl hA b1 b2 ?_
  refine w_aload_n d_Lw_law_501 rfl (by first | rfl | exact vIsR_rf _) ?_
  refine w_modK (M1 := M_Mo_rename) (ci := 8) (As := []) (st := [.int a]) (fr1 := 42) (lo1 := 1010) d_Lw_law_502 oS_at rfl km_Lw_80 kI_Mo_rename ks_Mo_Mo_rename ⟨by decide, (by intro v hv; simp only [List.mem_cons, List.not_mem_nil, or_false] at hv; rcases hv with rfl <;> rfl), Nat.le_of_ble_eq_true rfl, kM_Mo_rename, ki_Mo, by decide, by decide, Nat.le_of_ble_eq_true rfl, by decide, by decide⟩ (show _ = some 0 from by decide +kernel) rfl hB ?_
  refine w_icmp_eq (tgt := 763) d_Lw_law_505 (by decide) (fun _ => ?_) (fun c => absurd (rfl) c)
  exact VW.mono (fun h hl => hend o w h hl) nx

theorem lw_count {i : Nat} (hs : scI G i) (b1 : 4 ≤ mc) (b2 : 140 ≤ ms) (hj : jI X nc nm Y g) (nx : VW G M_Lw_law 45 1100 763 (lwL G x am o i) [] (lwJ G x am o) (mc - 4) (ms - 140) Q) : VW G M_Lw_law 45 1100 738 (lwL G x am o i) [] (lwQ G (kS G x nc nm X g) (oS G am X Y) o w) mc ms Q := by
  obtain ⟨a, C', Mo', hA, hB, hend⟩ := op_count (G := G) (x := x) (am := am) (v := G.2.2.2.2.2.2 (nI i + 1).toNatClampNeg) hj
  refine w_aload_n d_Lw_law_738 rfl (by first | rfl | exact vIsR_rf _) ?_
  refine w_aload_n d_Lw_law_739 rfl (by first | rfl | exact vIsR_rf _) ?_
  refine w_iload d_Lw_law_740 rfl ?_
  refine w_iconst (v := 1) d_Lw_law_742 (by decide) ?_
  refine w_iadd d_Lw_law_743 ?_
  refine w_sld d_Lw_law_744 (hs.1) ?_
  refine w_clsK (M1 := M_Cs_count) (ci := 7) (As := [.int (G.2.2.2.2.2.2 (nI i + 1).toNatClampNeg)]) (st := []) (fr1 := 42) (lo1 := 1010) (mc1 := 4) (ms1 := 140) d_Lw_law_745 kS_at rfl km_Lw_91 kI_Cs_count ks_Cs_Cs_count ⟨by decide, (by intro v hv; simp only [List.mem_cons, List.not_mem_nil, or_false] at hv; rcases hv with rfl | rfl <;> rfl), Nat.le_of_ble_eq_true rfl, kM_Cs_count, ki_Cs, by decide, by decide, Nat.le_of_ble_eq_true rfl, by decide, by decide⟩ (show _ = some 1 from by decide +kernel) rfl hA b1 b2 ?_
  refine w_aload_n d_Lw_law_748 rfl (by first | rfl | exact vIsR_rf _) ?_
  refine w_aload_n d_Lw_law_749 rfl (by first | rfl | exact vIsR_rf _) ?_
  refine w_iload d_Lw_law_750 rfl ?_
  refine w_iconst (v := 1) d_Lw_law_752 (by decide) ?_
  refine w_iadd d_Lw_law_753 ?_
  refine w_sld d_Lw_law_754 (hs.1) ?_
  refine w_modK (M1 := M_Mo_count) (ci := 8) (As := [.int (G.2.2.2.2.2.2 (nI i + 1).toNatClampNeg)]) (st := [.int a]) (fr1 := 42) (lo1 := 1010) d_Lw_law_755 oS_at rfl km_Lw_94 kI_Mo_count ks_Mo_Mo_count ⟨by decide, (by intro v hv; simp only [List.mem_cons, List.not_mem_nil, or_false] at hv; rcases hv with rfl | rfl <;> rfl), Nat.le_of_ble_eq_true rfl, kM_Mo_count, ki_Mo, by decide, by decide, Nat.le_of_ble_eq_true rfl, by decide, by decide⟩ (show _ = some 1 from by decide +kernel) rfl hB ?_
  refine w_icmp_eq (tgt := 763) d_Lw_law_758 (by decide) (fun _ => ?_) (fun c => absurd (rfl) c)
  exact VW.mono (fun h hl => hend o w h hl) nx

theorem lw_keep_go {i : Nat} {b : Bool} (hb : b = decide (G.2.2.2.2.2.2 (nI i + 2).toNatClampNeg ≠ 0)) (hs : scI G i) (b1 : 4 ≤ mc) (b2 : 140 ≤ ms) (hj : jI X nc nm Y g) (nx : VW G M_Lw_law 45 1100 763 (lwL G x am o i) [] (lwJ G x am o) (mc - 4) (ms - 140) Q) : VW G M_Lw_law 45 1100 340 (lwL G x am o i) [] (lwQ G (kS G x nc nm X g) (oS G am X Y) o w) mc ms Q := by
  obtain ⟨k, X', Y', hA, hB, hY, hj'⟩ := op_keep (G := G) (x := x) (am := am) (m := G.2.2.2.2.2.2 (nI i + 1).toNatClampNeg) (b := b) hj
  have hV := hA (oS G am X Y) o w
  have t1 : VW G M_Lw_law 45 1100 387 (lwL G x am o i ++ [(5, .int k)]) [.int (bI b), .int (G.2.2.2.2.2.2 (nI i + 1).toNatClampNeg), .ref am] (lwQ G (kS G x nc nm X' g) (oS G am X Y) o w) (mc - 4) (ms - 140) Q := by
    refine w_modU (M1 := M_Mo_keep) (ci := 8) (As := [.int (G.2.2.2.2.2.2 (nI i + 1).toNatClampNeg), .int (bI b)]) (st := []) (fr1 := 42) (lo1 := 1010) d_Lw_law_387 oS_at rfl km_Lw_69 kI_Mo_keep ks_Mo_Mo_keep ⟨by decide, (by intro v hv; simp only [List.mem_cons, List.not_mem_nil, or_false] at hv; rcases hv with rfl | rfl | rfl <;> rfl), Nat.le_of_ble_eq_true rfl, kM_Mo_keep, ki_Mo, by decide, by decide, Nat.le_of_ble_eq_true rfl, by decide, by decide⟩ (show _ = some 2 from by decide +kernel) rfl hB ?_
    refine w_aload_n d_Lw_law_390 rfl (by first | rfl | exact vIsR_rf _) ?_
    refine w_modK (M1 := M_Mo_thrown) (ci := 8) (As := []) (st := []) (fr1 := 42) (lo1 := 1010) d_Lw_law_391 oS'_at rfl km_Lw_54 kI_Mo_thrown ks_Mo_Mo_thrown ⟨by decide, (by intro v hv; simp only [List.mem_cons, List.not_mem_nil, or_false] at hv; rcases hv with rfl <;> rfl), Nat.le_of_ble_eq_true rfl, kM_Mo_thrown, ki_Mo, by decide, by decide, Nat.le_of_ble_eq_true rfl, by decide, by decide⟩ (show _ = some 0 from by decide +kernel) rfl oS'_thrown ?_
    refine w_iload d_Lw_law_394 rfl ?_
    refine w_icmp_eq (tgt := 401) d_Lw_law_396 (by decide) (fun _ => ?_) (fun c => absurd (hY) c)
    refine w_goto (tgt := 763) d_Lw_law_401 (by decide) ?_
    exact w_keep 5 rfl (VW.mono (fun h hl => lw_join hj' hl) nx)
  have t2 : VW G M_Lw_law 45 1100 361 (lwL G x am o i) [.int (bI b), .int (G.2.2.2.2.2.2 (nI i + 1).toNatClampNeg), .ref x] (lwQ G (kS G x nc nm X g) (oS G am X Y) o w) mc ms Q := by
    refine w_callSk (M1 := M_Lw_keep) (As := [.ref x, .int (G.2.2.2.2.2.2 (nI i + 1).toNatClampNeg), .int (bI b)]) (st := []) (fr1 := 43) (lo1 := 1050) (mc1 := 4) (ms1 := 140) d_Lw_law_361 km_Lw_66 kS_Lw_keep ⟨by decide, (by intro v hv; simp only [List.mem_cons, List.not_mem_nil, or_false] at hv; rcases hv with rfl | rfl | rfl <;> rfl), Nat.le_of_ble_eq_true rfl, kM_Lw_keep, ki_Lw, by decide, by decide, Nat.le_of_ble_eq_true rfl, by decide, by decide⟩ (show _ = some 3 from by decide +kernel) rfl hV b1 b2 ?_
    by_cases h0 : G.2.2.2.2.2.2 (nI i + 2).toNatClampNeg = 0
    · refine w_istore d_Lw_law_364 (by decide) rfl ?_
      refine w_aload_n d_Lw_law_366 rfl (by first | rfl | exact vIsR_rf _) ?_
      refine w_aload_n d_Lw_law_367 rfl (by first | rfl | exact vIsR_rf _) ?_
      refine w_iload d_Lw_law_368 rfl ?_
      refine w_iconst (v := 1) d_Lw_law_370 (by decide) ?_
      refine w_iadd d_Lw_law_371 ?_
      refine w_sld d_Lw_law_372 (hs.1) ?_
      refine w_aload_n d_Lw_law_373 rfl (by first | rfl | exact vIsR_rf _) ?_
      refine w_at 374 rfl ?_
      refine w_iload d_Lw_law_374 rfl ?_
      refine w_iconst (v := 2) d_Lw_law_376 (by decide) ?_
      refine w_iadd d_Lw_law_377 ?_
      refine w_sld d_Lw_law_378 (hs.2.1) ?_
      refine w_if_eq (tgt := 386) d_Lw_law_379 (by decide) (fun _ => ?_) (fun c => absurd (h0) c)
      refine w_iconst (v := 0) d_Lw_law_386 (by decide) ?_
      have e : b = false := by rw [hb]; exact decide_eq_false (fun z => z h0)
      rw [e] at t1
      exact t1
    · refine w_istore d_Lw_law_364 (by decide) rfl ?_
      refine w_aload_n d_Lw_law_366 rfl (by first | rfl | exact vIsR_rf _) ?_
      refine w_aload_n d_Lw_law_367 rfl (by first | rfl | exact vIsR_rf _) ?_
      refine w_iload d_Lw_law_368 rfl ?_
      refine w_iconst (v := 1) d_Lw_law_370 (by decide) ?_
      refine w_iadd d_Lw_law_371 ?_
      refine w_sld d_Lw_law_372 (hs.1) ?_
      refine w_aload_n d_Lw_law_373 rfl (by first | rfl | exact vIsR_rf _) ?_
      refine w_at 374 rfl ?_
      refine w_iload d_Lw_law_374 rfl ?_
      refine w_iconst (v := 2) d_Lw_law_376 (by decide) ?_
      refine w_iadd d_Lw_law_377 ?_
      refine w_sld d_Lw_law_378 (hs.2.1) ?_
      refine w_if_eq (tgt := 386) d_Lw_law_379 (by decide) (fun c => absurd c (h0)) (fun _ => ?_)
      refine w_iconst (v := 1) d_Lw_law_382 (by decide) ?_
      refine w_goto (tgt := 387) d_Lw_law_383 (by decide) ?_
      have e : b = true := by rw [hb]; exact decide_eq_true h0
      rw [e] at t1
      exact t1
  by_cases h0 : G.2.2.2.2.2.2 (nI i + 2).toNatClampNeg = 0
  · refine w_aload_n d_Lw_law_340 rfl (by first | rfl | exact vIsR_rf _) ?_
    refine w_aload_n d_Lw_law_341 rfl (by first | rfl | exact vIsR_rf _) ?_
    refine w_iload d_Lw_law_342 rfl ?_
    refine w_iconst (v := 1) d_Lw_law_344 (by decide) ?_
    refine w_iadd d_Lw_law_345 ?_
    refine w_sld d_Lw_law_346 (hs.1) ?_
    refine w_aload_n d_Lw_law_347 rfl (by first | rfl | exact vIsR_rf _) ?_
    refine w_iload d_Lw_law_348 rfl ?_
    refine w_at 350 rfl ?_
    refine w_iconst (v := 2) d_Lw_law_350 (by decide) ?_
    refine w_iadd d_Lw_law_351 ?_
    refine w_sld d_Lw_law_352 (hs.2.1) ?_
    refine w_if_eq (tgt := 360) d_Lw_law_353 (by decide) (fun _ => ?_) (fun c => absurd (h0) c)
    refine w_iconst (v := 0) d_Lw_law_360 (by decide) ?_
    have e : b = false := by rw [hb]; exact decide_eq_false (fun z => z h0)
    rw [e] at t2
    exact t2
  · refine w_aload_n d_Lw_law_340 rfl (by first | rfl | exact vIsR_rf _) ?_
    refine w_aload_n d_Lw_law_341 rfl (by first | rfl | exact vIsR_rf _) ?_
    refine w_iload d_Lw_law_342 rfl ?_
    refine w_iconst (v := 1) d_Lw_law_344 (by decide) ?_
    refine w_iadd d_Lw_law_345 ?_
    refine w_sld d_Lw_law_346 (hs.1) ?_
    refine w_aload_n d_Lw_law_347 rfl (by first | rfl | exact vIsR_rf _) ?_
    refine w_iload d_Lw_law_348 rfl ?_
    refine w_at 350 rfl ?_
    refine w_iconst (v := 2) d_Lw_law_350 (by decide) ?_
    refine w_iadd d_Lw_law_351 ?_
    refine w_sld d_Lw_law_352 (hs.2.1) ?_
    refine w_if_eq (tgt := 360) d_Lw_law_353 (by decide) (fun c => absurd c (h0)) (fun _ => ?_)
    refine w_iconst (v := 1) d_Lw_law_356 (by decide) ?_
    refine w_goto (tgt := 361) d_Lw_law_357 (by decide) ?_
    have e : b = true := by rw [hb]; exact decide_eq_true h0
    rw [e] at t2
    exact t2
end VLb
