-- ===== end of PART A; then your names; then what follows =====
/-! THE CLAIM OUT OF ONE WALK OF THE LAW'S BODY. Your part is whole_start (and what it stands on); all else here is the same for every law, but numbers. -/
def R_law : String := "LayoutDeskLaw"
def lw_P (b : Addr) (xs : List Int32) (args : Array Value) (s : State) : Prop := args = #[.ref b] ∧ s.IntsAt b xs ∧ xs.length ≤ 6 ∧ (Jvm.Cond.and given_1 narrow_1).before args s = true
def lw_Q (_ : Array Value) (s : State) (o : Outcome) (t : State) : Prop := o = .returned (some (.int 1)) ∧ Framed s o t [] 600000 7302250
def lw_Z (below : List Frame) (a : Array Value) (s : State) : State → Prop := fun t => ∃ o, t.status = .running ∧ Ended t below o ∧ lw_Q a s o t
/-- the law's own end, with 1 on the stack, nothing written that was there before, its room as the claim has it -/
theorem lw_ret {p : Program} {l : Launch} {e : Env} {s : State} {m : MethodId} {below : List Frame} {meth : Method} {c : Code} {b : Nat} (hx : p.tables.exec = Jvm.exec) (hb : c.code = code) (hr : meth.sig.returnType = ret) (hlocks : meth.locks = false) {pc : Nat} {H : Heap} {ls : Array Slot} (hdg : decode code pc = .ok (.ireturn, 1)) : W p l e room_1 s m #[Value.ref b] below meth c H [] 600000 7302250 (lw_Z below #[Value.ref b] s) (F0 m pc ls [.int 1]) := by
  intro T hT X
  obtain ⟨fs, hret, hrun, hended, hW, hframe⟩ := X.leave (v := some (.int 1)) (hlocks := hlocks) (fun h => by rw [hr] at h; cases h)
  have hmeth' : T.vm.method? m = some meth := X.method'
  refine ⟨T.setFrames fs, ?_, .returned (some (.int 1)), hrun, hended, rfl, ⟨_, rfl⟩, hW, hframe⟩
  jvm_step X.here [X.here.top, hx, hb, hdg, hmeth', hr, ret, narrow_b1]
  (try refine ⟨rfl, ?_⟩); (try refine ⟨rfl, ?_⟩)
  first | (intro acts; rw [hret _ acts rfl rfl rfl]) | rw [hret _ _ rfl rfl rfl]
  exact Steps.refl _
/-- what holds at the law's entry: the machine, the code, the tables' words (any of lw_tbl by 'hts w (by decide +kernel)'), the script of L ints xs at the cell b, what the Statement gives of the start (any of its parts by flat_of_before) -/
def lw_At (p : Program) (s : State) (m : MethodId) (meth : Method) (c : Code) (b L : Nat) (xs : Nat → Int32) : Prop :=
  p.tables.exec = Jvm.exec ∧ c.code = code ∧ meth.sig.returnType = ret ∧ c.maxLocals = 4 ∧ s.vm.findClass R_law = some m.cls ∧ (∀ w ∈ lw_tbl, w.before #[Value.ref b] s = true) ∧ va_X b L xs s s.heap ∧ b < s.heap.size ∧ meth.locks = false ∧ (Jvm.Cond.and given_1 narrow_1).before #[Value.ref b] s = true
theorem zlen {L : Nat} (h : L < 6) : Int32.ofNat L - 6 < 0 := by
  rcases (show L = 0 ∨ L = 1 ∨ L = 2 ∨ L = 3 ∨ L = 4 ∨ L = 5 by omega) with rfl | rfl | rfl | rfl | rfl | rfl <;> decide
set_option maxRecDepth 100000 in
set_option maxHeartbeats 4000000 in
theorem law_op_0 {p : Program} {l : Launch} {e : Env} {s : State} {m : MethodId} {below : List Frame} {meth : Method} {c : Code} {dC : Nat → ClassId} {dI : Nat → Nat → Nat} {cyI cyC : ClassId} {A : Nat → Prop} {b : Nat} {xs : Nat → Int32} (hx : p.tables.exec = Jvm.exec) (hb : c.code = cL_law) (hr : meth.sig.returnType = ret) (hlocks : meth.locks = false) (hml : c.maxLocals = 4) (hown : s.vm.findClass RL = some m.cls) (hts : ∀ w ∈ wsL_law, w.before #[Value.ref b] s = true) (hX : va_X b 6 xs s s.heap) (hbl : b < s.heap.size) (hAe : A = fun q : Nat => s.heap.size ≤ q) (hK : va_K (dC, dI) vwCl (zT cyI cyC) s) (xo q1 q4 q17 q42 q65 q22 q35 q3 mo q68 q69 q70 q71 q72 q73 q74 q75 q76 q77 q78 q79 q80 q81 q82 q83 q84 q85 q86 q87 q88 q89 q90 q91 q92 q93 q94 : Nat) (H : Heap) (locs : List Loc) (hP : va_P (dC, dI) vwCl [(xo, .inr (8, [.ref q1, .ref q4, .ref q17, .ref q42, .ref q65, .ref q22, .ref q35, .int 0, .int 0])), (q1, .inr (5, [.ref q3, .int 0])), (q3, .inl (cyC, 3000, .inl (fun _ => 0))), (mo, .inr (9, [.int 0, .ref q68, .int 0, .ref q69, .ref q70, .ref q71, .ref q72, .ref q73, .ref q74, .ref q75, .ref q76, .ref q77, .int 0, .int 0, .int 0, .ref q78, .ref q79, .ref q80, .int 0, .ref q81, .ref q82, .ref q83, .ref q84, .int 0, .int 0, .int 0, .ref q85, .int 0, .ref q86, .int 0, .int 0, .ref q87, .ref q88, .ref q89, .ref q90, .ref q91, .ref q92, .int 0, .int 0, .ref q93, .int 0, .int 0, .int 0, .int 0, .int 0, .ref q94])), (q68, .inl (cyI, 3000, .inl (fun _ => 0)))] H) (hD : va_D A [(xo, .inr (8, [.ref q1, .ref q4, .ref q17, .ref q42, .ref q65, .ref q22, .ref q35, .int 0, .int 0])), (q1, .inr (5, [.ref q3, .int 0])), (q3, .inl (cyC, 3000, .inl (fun _ => 0))), (mo, .inr (9, [.int 0, .ref q68, .int 0, .ref q69, .ref q70, .ref q71, .ref q72, .ref q73, .ref q74, .ref q75, .ref q76, .ref q77, .int 0, .int 0, .int 0, .ref q78, .ref q79, .ref q80, .int 0, .ref q81, .ref q82, .ref q83, .ref q84, .int 0, .int 0, .int 0, .ref q85, .int 0, .ref q86, .int 0, .int 0, .ref q87, .ref q88, .ref q89, .ref q90, .ref q91, .ref q92, .int 0, .int 0, .ref q93, .int 0, .int 0, .int 0, .int 0, .int 0, .ref q94])), (q68, .inl (cyI, 3000, .inl (fun _ => 0)))]) (hS : va_S A s.heap H locs) (ls : Array Slot) (hl : lv_has ls 4 [(3, .int 0), (2, .ref mo), (1, .ref xo), (0, .ref b)]) : W p l e room_1 s m #[Value.ref b] below meth c H locs 66 148846 (lw_Z below #[Value.ref b] s) (F0 m 108 ls []) := by
  have hA : ∀ q : Nat, s.heap.size ≤ q → A q := fun q h => by rw [hAe]; exact h
  have hbA : ¬ A b := by rw [hAe]; exact Nat.not_le.mpr hbl
  refine lv_aload_n hx hb dL_law_108 rfl (lv_at hl 2 rfl) ?_
  refine lv_aload_n hx hb dL_law_109 rfl (lv_at hl 3 rfl) ?_
  refine lv_iload_n hx hb dL_law_110 rfl (lv_at hl 0 rfl) ?_
  refine lv_iconst (v := 1) hx hb dL_law_111 (by decide) ?_
  refine lv_iadd hx hb dL_law_112 ?_
  refine zl_i (y := 1) (by decide) ?_
  refine va_sld hx hb hX hbl hbA hS (zin (by decide)) dL_law_113 ?_
  refine zl_i (y := xs 1) rfl ?_
  refine lv_i2l hx hb dL_law_114 rfl ?_
  refine lv_bipush (v := 32) hx hb dL_law_115 (by decide) ?_
  refine lv_lshl hx hb dL_law_117 rfl ?_
  refine lv_topl (fun x_212 ex_212 => ?_)
  refine lv_aload_n hx hb dL_law_118 rfl (lv_at hl 3 rfl) ?_
  refine lv_iload_n hx hb dL_law_119 rfl (lv_at hl 0 rfl) ?_
  refine lv_iconst (v := 2) hx hb dL_law_120 (by decide) ?_
  refine lv_iadd hx hb dL_law_121 ?_
  refine zl_i (y := 2) (by decide) ?_
  refine va_sld hx hb hX hbl hbA hS (zin (by decide)) dL_law_122 ?_
  refine zl_i (y := xs 2) rfl ?_
  refine lv_i2l hx hb dL_law_123 rfl ?_
  refine lv_ldc2 (v := 4294967295) hx hb hown (hts _ mw_6) dL_law_124 ?_
  refine lv_land hx hb dL_law_127 ?_
  refine lv_topl (fun x_213 ex_213 => ?_)
  refine lv_lor hx hb dL_law_128 ?_
  refine lv_topl (fun x_214 ex_214 => ?_)
  refine lv_aload_n hx hb dL_law_129 rfl (lv_at hl 3 rfl) ?_
  refine lv_iload_n hx hb dL_law_130 rfl (lv_at hl 0 rfl) ?_
  refine lv_iconst (v := 3) hx hb dL_law_131 (by decide) ?_
  refine lv_iadd hx hb dL_law_132 ?_
  refine zl_i (y := 3) (by decide) ?_
  refine va_sld hx hb hX hbl hbA hS (zin (by decide)) dL_law_133 ?_
  refine zl_i (y := xs 3) rfl ?_
  refine lv_i2l hx hb dL_law_134 rfl ?_
  refine lv_bipush (v := 32) hx hb dL_law_135 (by decide) ?_
  refine lv_lshl hx hb dL_law_137 rfl ?_
  refine lv_topl (fun x_215 ex_215 => ?_)
  refine lv_aload_n hx hb dL_law_138 rfl (lv_at hl 3 rfl) ?_
  refine lv_iload_n hx hb dL_law_139 rfl (lv_at hl 0 rfl) ?_
  refine lv_iconst (v := 4) hx hb dL_law_140 (by decide) ?_
  refine lv_iadd hx hb dL_law_141 ?_
  refine zl_i (y := 4) (by decide) ?_
  refine va_sld hx hb hX hbl hbA hS (zin (by decide)) dL_law_142 ?_
  refine zl_i (y := xs 4) rfl ?_
  refine lv_i2l hx hb dL_law_143 rfl ?_
  refine lv_ldc2 (v := 4294967295) hx hb hown (hts _ mw_6) dL_law_144 ?_
  refine lv_land hx hb dL_law_147 ?_
  refine lv_topl (fun x_216 ex_216 => ?_)
  refine lv_lor hx hb dL_law_148 ?_
  refine lv_topl (fun x_217 ex_217 => ?_)
  refine lv_aload_n hx hb dL_law_149 rfl (lv_at hl 3 rfl) ?_
  refine lv_iload_n hx hb dL_law_150 rfl (lv_at hl 0 rfl) ?_
  refine lv_iconst (v := 5) hx hb dL_law_151 (by decide) ?_
  refine lv_iadd hx hb dL_law_152 ?_
  refine zl_i (y := 5) (by decide) ?_
  refine va_sld hx hb hX hbl hbA hS (zin (by decide)) dL_law_153 ?_
  refine zl_i (y := xs 5) rfl ?_
  refine zcVi (wr := [(mo, .inr (9, [.int 0, .ref q68, .int 0, .ref q69, .ref q70, .ref q71, .ref q72, .ref q73, .ref q74, .ref q75, .ref q76, .ref q77, .int 0, .int 0, .int 0, .ref q78, .ref q79, .ref q80, .int 0, .ref q81, .ref q82, .ref q83, .ref q84, .int 0, .int 0, .int 0, .ref q85, .int 0, .ref q86, .int 0, .int 0, .ref q87, .ref q88, .ref q89, .ref q90, .ref q91, .ref q92, .int 0, .int 0, .ref q93, .int 0, .int 0, .int 0, .int 0, .int 0, .ref q94])), (q68, .inl (cyI, 3000, .inl (fun _ => 0)))]) (rest := []) hx hb hml hown hts (k_X11_type_0 l dC dI cyI cyC xo q1 q3 (.ref q4) (.ref q17) (.ref q42) (.ref q65) (.ref q22) (.ref q35) (.int 0) (.int 0) (fun _ => 0) x_214 x_217 (xs 5)) zo_X11_type zv_X11_type mw_140 ⟨by decide, by decide⟩ hK hP hD hS hA [0, 1, 2] [3, 4] rfl rfl rfl rfl (by decide) rfl rfl hl.1 rfl rfl (Nat.le_of_ble_eq_true rfl) dL_law_154 ⟨by decide, by decide⟩ (fun r_218 w1 H locs hw hP hD hS => ?_)
  obtain ⟨er_218, rfl⟩ := hw
  have hP : va_P (dC, dI) vwCl [(mo, .inr (9, [.int 0, .ref q68, .int 0, .ref q69, .ref q70, .ref q71, .ref q72, .ref q73, .ref q74, .ref q75, .ref q76, .ref q77, .int 0, .int 0, .int 0, .ref q78, .ref q79, .ref q80, .int 0, .ref q81, .ref q82, .ref q83, .ref q84, .int 0, .int 0, .int 0, .ref q85, .int 0, .ref q86, .int 0, .int 0, .ref q87, .ref q88, .ref q89, .ref q90, .ref q91, .ref q92, .int 0, .int 0, .ref q93, .int 0, .int 0, .int 0, .int 0, .int 0, .ref q94])), (q68, .inl (cyI, 3000, .inl (fun _ => 0)))] H := hP
  have hD : va_D A [(mo, .inr (9, [.int 0, .ref q68, .int 0, .ref q69, .ref q70, .ref q71, .ref q72, .ref q73, .ref q74, .ref q75, .ref q76, .ref q77, .int 0, .int 0, .int 0, .ref q78, .ref q79, .ref q80, .int 0, .ref q81, .ref q82, .ref q83, .ref q84, .int 0, .int 0, .int 0, .ref q85, .int 0, .ref q86, .int 0, .int 0, .ref q87, .ref q88, .ref q89, .ref q90, .ref q91, .ref q92, .int 0, .int 0, .ref q93, .int 0, .int 0, .int 0, .int 0, .int 0, .ref q94])), (q68, .inl (cyI, 3000, .inl (fun _ => 0)))] := hD
  refine lv_aload_n hx hb dL_law_157 rfl (lv_at hl 1 rfl) ?_
  refine lv_aload_n hx hb dL_law_158 rfl (lv_at hl 3 rfl) ?_
  refine lv_iload_n hx hb dL_law_159 rfl (lv_at hl 0 rfl) ?_
  refine lv_iconst (v := 1) hx hb dL_law_160 (by decide) ?_
  refine lv_iadd hx hb dL_law_161 ?_
  refine zl_i (y := 1) (by decide) ?_
  refine va_sld hx hb hX hbl hbA hS (zin (by decide)) dL_law_162 ?_
  refine zl_i (y := xs 1) rfl ?_
  refine lv_i2l hx hb dL_law_163 rfl ?_
  refine lv_bipush (v := 32) hx hb dL_law_164 (by decide) ?_
  refine lv_lshl hx hb dL_law_166 rfl ?_
  refine lv_topl (fun x_219 ex_219 => ?_)
  refine lv_aload_n hx hb dL_law_167 rfl (lv_at hl 3 rfl) ?_
  refine lv_iload_n hx hb dL_law_168 rfl (lv_at hl 0 rfl) ?_
  refine lv_iconst (v := 2) hx hb dL_law_169 (by decide) ?_
  refine lv_iadd hx hb dL_law_170 ?_
  refine zl_i (y := 2) (by decide) ?_
  refine va_sld hx hb hX hbl hbA hS (zin (by decide)) dL_law_171 ?_
  refine zl_i (y := xs 2) rfl ?_
  refine lv_i2l hx hb dL_law_172 rfl ?_
  refine lv_ldc2 (v := 4294967295) hx hb hown (hts _ mw_6) dL_law_173 ?_
  refine lv_land hx hb dL_law_176 ?_
  refine lv_topl (fun x_220 ex_220 => ?_)
  refine lv_lor hx hb dL_law_177 ?_
  refine lv_topl (fun x_221 ex_221 => ?_)
  refine lv_aload_n hx hb dL_law_178 rfl (lv_at hl 3 rfl) ?_
  refine lv_iload_n hx hb dL_law_179 rfl (lv_at hl 0 rfl) ?_
  refine lv_iconst (v := 3) hx hb dL_law_180 (by decide) ?_
  refine lv_iadd hx hb dL_law_181 ?_
  refine zl_i (y := 3) (by decide) ?_
  refine va_sld hx hb hX hbl hbA hS (zin (by decide)) dL_law_182 ?_
  refine zl_i (y := xs 3) rfl ?_
  refine lv_i2l hx hb dL_law_183 rfl ?_
  refine lv_bipush (v := 32) hx hb dL_law_184 (by decide) ?_
  refine lv_lshl hx hb dL_law_186 rfl ?_
  refine lv_topl (fun x_222 ex_222 => ?_)
  refine lv_aload_n hx hb dL_law_187 rfl (lv_at hl 3 rfl) ?_
  refine lv_iload_n hx hb dL_law_188 rfl (lv_at hl 0 rfl) ?_
  refine lv_iconst (v := 4) hx hb dL_law_189 (by decide) ?_
  refine lv_iadd hx hb dL_law_190 ?_
  refine zl_i (y := 4) (by decide) ?_
  refine va_sld hx hb hX hbl hbA hS (zin (by decide)) dL_law_191 ?_
  refine zl_i (y := xs 4) rfl ?_
  refine lv_i2l hx hb dL_law_192 rfl ?_
  refine lv_ldc2 (v := 4294967295) hx hb hown (hts _ mw_6) dL_law_193 ?_
  refine lv_land hx hb dL_law_196 ?_
  refine lv_topl (fun x_223 ex_223 => ?_)
  refine lv_lor hx hb dL_law_197 ?_
  refine lv_topl (fun x_224 ex_224 => ?_)
  refine lv_aload_n hx hb dL_law_198 rfl (lv_at hl 3 rfl) ?_
  refine lv_iload_n hx hb dL_law_199 rfl (lv_at hl 0 rfl) ?_
  refine lv_iconst (v := 5) hx hb dL_law_200 (by decide) ?_
  refine lv_iadd hx hb dL_law_201 ?_
  refine zl_i (y := 5) (by decide) ?_
  refine va_sld hx hb hX hbl hbA hS (zin (by decide)) dL_law_202 ?_
  refine zl_i (y := xs 5) rfl ?_
  refine zcVi (wr := []) (rest := [.int r_218]) hx hb hml hown hts (k_X12_type_0 l dC dI cyI cyC mo q68 (.int 0) (.ref q69) (.ref q70) (.ref q71) (.ref q72) (.ref q73) (.ref q74) (.ref q75) (.ref q76) (.ref q77) (.int 0) (.int 0) (.int 0) (.ref q78) (.ref q79) (.ref q80) (.int 0) (.ref q81) (.ref q82) (.ref q83) (.ref q84) (.int 0) (.int 0) (.int 0) (.ref q85) (.int 0) (.ref q86) (.int 0) (.int 0) (.ref q87) (.ref q88) (.ref q89) (.ref q90) (.ref q91) (.ref q92) (.int 0) (.int 0) (.ref q93) (.int 0) (.int 0) (.int 0) (.int 0) (.int 0) (.ref q94) (fun _ => 0) x_221 x_224 (xs 5)) zo_X12_type zv_X12_type mw_157 ⟨by decide, by decide⟩ hK hP hD hS hA [0, 1] [] rfl rfl rfl rfl (by decide) rfl rfl hl.1 rfl rfl (Nat.le_of_ble_eq_true rfl) dL_law_203 ⟨by decide, by decide⟩ (fun r_225 w1 H locs hw hP hD hS => ?_)
  obtain ⟨er_225, rfl⟩ := hw
  have hP : va_P (dC, dI) vwCl [] H := hP
  have hD : va_D A [] := hD
  refine lv_icmp_eq (tgt := 570) hx hb dL_law_206 (by decide) (fun _ => ?_) (fun h9 => absurd (er_218.trans er_225.symm) h9)
  refine lv_iinc (v := 6) (lv' := [(3, .int 6), (2, .ref mo), (1, .ref xo), (0, .ref b)]) hx hb dL_law_570 hl (k := 0) rfl (by decide) (by decide) rfl (fun ls hl => ?_)
  refine lv_goto (tgt := 18) hx hb dL_law_573 (by decide) ?_
  refine lv_iload_n hx hb dL_law_18 rfl (lv_at hl 0 rfl) ?_
  refine lv_aload_n hx hb dL_law_19 rfl (lv_at hl 3 rfl) ?_
  refine va_slen hx hb hX hbl hbA hS dL_law_20 ?_
  refine zl_i (y := 6) rfl ?_
  refine lv_bipush (v := 6) hx hb dL_law_21 (by decide) ?_
  refine lv_isub hx hb dL_law_23 ?_
  refine zl_i (y := 0) (by decide) ?_
  refine lv_icmp_gt (tgt := 576) hx hb dL_law_24 (by decide) (fun _ => ?_) (fun h9 => absurd (by decide) h9)
  refine lv_iconst (v := 1) hx hb dL_law_576 (by decide) ?_
  refine va_forget (fun q hq => by have h7 := hS.2.2 q hq; rw [hAe] at h7; exact h7) ?_
  refine W.widen (k := 600000) (n := 7302250) (by decide) (by decide) ?_
  exact lw_ret hx hb hr hlocks dL_law_577
set_option maxRecDepth 100000 in
set_option maxHeartbeats 4000000 in
theorem law_op_1 {p : Program} {l : Launch} {e : Env} {s : State} {m : MethodId} {below : List Frame} {meth : Method} {c : Code} {dC : Nat → ClassId} {dI : Nat → Nat → Nat} {cyI cyC : ClassId} {A : Nat → Prop} {b : Nat} {xs : Nat → Int32} (hx : p.tables.exec = Jvm.exec) (hb : c.code = cL_law) (hr : meth.sig.returnType = ret) (hlocks : meth.locks = false) (hml : c.maxLocals = 4) (hown : s.vm.findClass RL = some m.cls) (hts : ∀ w ∈ wsL_law, w.before #[Value.ref b] s = true) (hX : va_X b 6 xs s s.heap) (hbl : b < s.heap.size) (hAe : A = fun q : Nat => s.heap.size ≤ q) (hK : va_K (dC, dI) vwCl (zT cyI cyC) s) (xo q1 q4 q17 q42 q65 q22 q35 q3 mo q68 q69 q70 q71 q72 q73 q74 q75 q76 q77 q78 q79 q80 q81 q82 q83 q84 q85 q86 q87 q88 q89 q90 q91 q92 q93 q94 : Nat) (H : Heap) (locs : List Loc) (hP : va_P (dC, dI) vwCl [(xo, .inr (8, [.ref q1, .ref q4, .ref q17, .ref q42, .ref q65, .ref q22, .ref q35, .int 0, .int 0])), (q1, .inr (5, [.ref q3, .int 0])), (q3, .inl (cyC, 3000, .inl (fun _ => 0))), (mo, .inr (9, [.int 0, .ref q68, .int 0, .ref q69, .ref q70, .ref q71, .ref q72, .ref q73, .ref q74, .ref q75, .ref q76, .ref q77, .int 0, .int 0, .int 0, .ref q78, .ref q79, .ref q80, .int 0, .ref q81, .ref q82, .ref q83, .ref q84, .int 0, .int 0, .int 0, .ref q85, .int 0, .ref q86, .int 0, .int 0, .ref q87, .ref q88, .ref q89, .ref q90, .ref q91, .ref q92, .int 0, .int 0, .ref q93, .int 0, .int 0, .int 0, .int 0, .int 0, .ref q94])), (q68, .inl (cyI, 3000, .inl (fun _ => 0)))] H) (hD : va_D A [(xo, .inr (8, [.ref q1, .ref q4, .ref q17, .ref q42, .ref q65, .ref q22, .ref q35, .int 0, .int 0])), (q1, .inr (5, [.ref q3, .int 0])), (q3, .inl (cyC, 3000, .inl (fun _ => 0))), (mo, .inr (9, [.int 0, .ref q68, .int 0, .ref q69, .ref q70, .ref q71, .ref q72, .ref q73, .ref q74, .ref q75, .ref q76, .ref q77, .int 0, .int 0, .int 0, .ref q78, .ref q79, .ref q80, .int 0, .ref q81, .ref q82, .ref q83, .ref q84, .int 0, .int 0, .int 0, .ref q85, .int 0, .ref q86, .int 0, .int 0, .ref q87, .ref q88, .ref q89, .ref q90, .ref q91, .ref q92, .int 0, .int 0, .ref q93, .int 0, .int 0, .int 0, .int 0, .int 0, .ref q94])), (q68, .inl (cyI, 3000, .inl (fun _ => 0)))]) (hS : va_S A s.heap H locs) (ls : Array Slot) (hl : lv_has ls 4 [(3, .int 0), (2, .ref mo), (1, .ref xo), (0, .ref b)]) : W p l e room_1 s m #[Value.ref b] below meth c H locs 66 148846 (lw_Z below #[Value.ref b] s) (F0 m 211 ls []) := by
  have hA : ∀ q : Nat, s.heap.size ≤ q → A q := fun q h => by rw [hAe]; exact h
  have hbA : ¬ A b := by rw [hAe]; exact Nat.not_le.mpr hbl
  refine lv_aload_n hx hb dL_law_211 rfl (lv_at hl 2 rfl) ?_
  refine lv_aload_n hx hb dL_law_212 rfl (lv_at hl 3 rfl) ?_
  refine lv_iload_n hx hb dL_law_213 rfl (lv_at hl 0 rfl) ?_
  refine lv_iconst (v := 1) hx hb dL_law_214 (by decide) ?_
  refine lv_iadd hx hb dL_law_215 ?_
  refine zl_i (y := 1) (by decide) ?_
  refine va_sld hx hb hX hbl hbA hS (zin (by decide)) dL_law_216 ?_
  refine zl_i (y := xs 1) rfl ?_
  refine lv_if_eq (tgt := 224) hx hb dL_law_217 (by decide) (fun c_217 => ?_) (fun c_217 => ?_)
  · refine lv_iconst (v := 0) hx hb dL_law_224 (by decide) ?_
    refine lv_aload_n hx hb dL_law_225 rfl (lv_at hl 3 rfl) ?_
    refine lv_iload_n hx hb dL_law_226 rfl (lv_at hl 0 rfl) ?_
    refine lv_iconst (v := 2) hx hb dL_law_227 (by decide) ?_
    refine lv_iadd hx hb dL_law_228 ?_
    refine zl_i (y := 2) (by decide) ?_
    refine va_sld hx hb hX hbl hbA hS (zin (by decide)) dL_law_229 ?_
    refine zl_i (y := xs 2) rfl ?_
    refine zcVi (wr := [(mo, .inr (9, [.int 0, .ref q68, .int 0, .ref q69, .ref q70, .ref q71, .ref q72, .ref q73, .ref q74, .ref q75, .ref q76, .ref q77, .int 0, .int 0, .int 0, .ref q78, .ref q79, .ref q80, .int 0, .ref q81, .ref q82, .ref q83, .ref q84, .int 0, .int 0, .int 0, .ref q85, .int 0, .ref q86, .int 0, .int 0, .ref q87, .ref q88, .ref q89, .ref q90, .ref q91, .ref q92, .int 0, .int 0, .ref q93, .int 0, .int 0, .int 0, .int 0, .int 0, .ref q94])), (q68, .inl (cyI, 3000, .inl (fun _ => 0)))]) (rest := []) hx hb hml hown hts (k_X11_space_0 l dC dI cyI cyC xo q1 q3 (.ref q4) (.ref q17) (.ref q42) (.ref q65) (.ref q22) (.ref q35) (.int 0) (.int 0) (fun _ => 0) (xs 2)) zo_X11_space zv_X11_space mw_167 ⟨by decide, by decide⟩ hK hP hD hS hA [0, 1, 2] [3, 4] rfl rfl rfl rfl (by decide) rfl rfl hl.1 rfl rfl (Nat.le_of_ble_eq_true rfl) dL_law_230 ⟨by decide, by decide⟩ (fun r_226 w1 H locs hw hP hD hS => ?_)
    obtain ⟨er_226, rfl⟩ := hw
    have hP : va_P (dC, dI) vwCl [(mo, .inr (9, [.int 0, .ref q68, .int 0, .ref q69, .ref q70, .ref q71, .ref q72, .ref q73, .ref q74, .ref q75, .ref q76, .ref q77, .int 0, .int 0, .int 0, .ref q78, .ref q79, .ref q80, .int 0, .ref q81, .ref q82, .ref q83, .ref q84, .int 0, .int 0, .int 0, .ref q85, .int 0, .ref q86, .int 0, .int 0, .ref q87, .ref q88, .ref q89, .ref q90, .ref q91, .ref q92, .int 0, .int 0, .ref q93, .int 0, .int 0, .int 0, .int 0, .int 0, .ref q94])), (q68, .inl (cyI, 3000, .inl (fun _ => 0)))] H := hP
    have hD : va_D A [(mo, .inr (9, [.int 0, .ref q68, .int 0, .ref q69, .ref q70, .ref q71, .ref q72, .ref q73, .ref q74, .ref q75, .ref q76, .ref q77, .int 0, .int 0, .int 0, .ref q78, .ref q79, .ref q80, .int 0, .ref q81, .ref q82, .ref q83, .ref q84, .int 0, .int 0, .int 0, .ref q85, .int 0, .ref q86, .int 0, .int 0, .ref q87, .ref q88, .ref q89, .ref q90, .ref q91, .ref q92, .int 0, .int 0, .ref q93, .int 0, .int 0, .int 0, .int 0, .int 0, .ref q94])), (q68, .inl (cyI, 3000, .inl (fun _ => 0)))] := hD
    refine lv_aload_n hx hb dL_law_233 rfl (lv_at hl 1 rfl) ?_
    refine lv_aload_n hx hb dL_law_234 rfl (lv_at hl 3 rfl) ?_
    refine lv_iload_n hx hb dL_law_235 rfl (lv_at hl 0 rfl) ?_
    refine lv_iconst (v := 1) hx hb dL_law_236 (by decide) ?_
    refine lv_iadd hx hb dL_law_237 ?_
    refine zl_i (y := 1) (by decide) ?_
    refine va_sld hx hb hX hbl hbA hS (zin (by decide)) dL_law_238 ?_
    refine zl_i (y := xs 1) rfl ?_
    refine lv_if_eq (tgt := 246) hx hb dL_law_239 (by decide) (fun _ => ?_) (fun h9 => absurd c_217 h9)
    refine lv_iconst (v := 0) hx hb dL_law_246 (by decide) ?_
    refine lv_aload_n hx hb dL_law_247 rfl (lv_at hl 3 rfl) ?_
    refine lv_iload_n hx hb dL_law_248 rfl (lv_at hl 0 rfl) ?_
    refine lv_iconst (v := 2) hx hb dL_law_249 (by decide) ?_
    refine lv_iadd hx hb dL_law_250 ?_
    refine zl_i (y := 2) (by decide) ?_
    refine va_sld hx hb hX hbl hbA hS (zin (by decide)) dL_law_251 ?_
    refine zl_i (y := xs 2) rfl ?_
    refine zcVi (wr := []) (rest := [.int r_226]) hx hb hml hown hts (k_X12_space_0 l dC dI cyI cyC mo q68 (.int 0) (.ref q69) (.ref q70) (.ref q71) (.ref q72) (.ref q73) (.ref q74) (.ref q75) (.ref q76) (.ref q77) (.int 0) (.int 0) (.int 0) (.ref q78) (.ref q79) (.ref q80) (.int 0) (.ref q81) (.ref q82) (.ref q83) (.ref q84) (.int 0) (.int 0) (.int 0) (.ref q85) (.int 0) (.ref q86) (.int 0) (.int 0) (.ref q87) (.ref q88) (.ref q89) (.ref q90) (.ref q91) (.ref q92) (.int 0) (.int 0) (.ref q93) (.int 0) (.int 0) (.int 0) (.int 0) (.int 0) (.ref q94) (fun _ => 0) (xs 2)) zo_X12_space zv_X12_space mw_171 ⟨by decide, by decide⟩ hK hP hD hS hA [0, 1] [] rfl rfl rfl rfl (by decide) rfl rfl hl.1 rfl rfl (Nat.le_of_ble_eq_true rfl) dL_law_252 ⟨by decide, by decide⟩ (fun r_227 w1 H locs hw hP hD hS => ?_)
    obtain ⟨er_227, rfl⟩ := hw
    have hP : va_P (dC, dI) vwCl [] H := hP
    have hD : va_D A [] := hD
    refine lv_icmp_eq (tgt := 570) hx hb dL_law_255 (by decide) (fun _ => ?_) (fun h9 => absurd (er_226.trans er_227.symm) h9)
    refine lv_iinc (v := 6) (lv' := [(3, .int 6), (2, .ref mo), (1, .ref xo), (0, .ref b)]) hx hb dL_law_570 hl (k := 0) rfl (by decide) (by decide) rfl (fun ls hl => ?_)
    refine lv_goto (tgt := 18) hx hb dL_law_573 (by decide) ?_
    refine lv_iload_n hx hb dL_law_18 rfl (lv_at hl 0 rfl) ?_
    refine lv_aload_n hx hb dL_law_19 rfl (lv_at hl 3 rfl) ?_
    refine va_slen hx hb hX hbl hbA hS dL_law_20 ?_
    refine zl_i (y := 6) rfl ?_
    refine lv_bipush (v := 6) hx hb dL_law_21 (by decide) ?_
    refine lv_isub hx hb dL_law_23 ?_
    refine zl_i (y := 0) (by decide) ?_
    refine lv_icmp_gt (tgt := 576) hx hb dL_law_24 (by decide) (fun _ => ?_) (fun h9 => absurd (by decide) h9)
    refine lv_iconst (v := 1) hx hb dL_law_576 (by decide) ?_
    refine va_forget (fun q hq => by have h7 := hS.2.2 q hq; rw [hAe] at h7; exact h7) ?_
    refine W.widen (k := 600000) (n := 7302250) (by decide) (by decide) ?_
    exact lw_ret hx hb hr hlocks dL_law_577
  · refine lv_iconst (v := 1) hx hb dL_law_220 (by decide) ?_
    refine lv_goto (tgt := 225) hx hb dL_law_221 (by decide) ?_
    refine lv_aload_n hx hb dL_law_225 rfl (lv_at hl 3 rfl) ?_
    refine lv_iload_n hx hb dL_law_226 rfl (lv_at hl 0 rfl) ?_
    refine lv_iconst (v := 2) hx hb dL_law_227 (by decide) ?_
    refine lv_iadd hx hb dL_law_228 ?_
    refine zl_i (y := 2) (by decide) ?_
    refine va_sld hx hb hX hbl hbA hS (zin (by decide)) dL_law_229 ?_
    refine zl_i (y := xs 2) rfl ?_
    refine zcVi (wr := [(mo, .inr (9, [.int 0, .ref q68, .int 0, .ref q69, .ref q70, .ref q71, .ref q72, .ref q73, .ref q74, .ref q75, .ref q76, .ref q77, .int 0, .int 0, .int 0, .ref q78, .ref q79, .ref q80, .int 0, .ref q81, .ref q82, .ref q83, .ref q84, .int 0, .int 0, .int 0, .ref q85, .int 0, .ref q86, .int 0, .int 0, .ref q87, .ref q88, .ref q89, .ref q90, .ref q91, .ref q92, .int 0, .int 0, .ref q93, .int 0, .int 0, .int 0, .int 0, .int 0, .ref q94])), (q68, .inl (cyI, 3000, .inl (fun _ => 0)))]) (rest := []) hx hb hml hown hts (k_X11_space_1 l dC dI cyI cyC xo q1 q3 (.ref q4) (.ref q17) (.ref q42) (.ref q65) (.ref q22) (.ref q35) (.int 0) (.int 0) (fun _ => 0) (xs 2)) zo_X11_space zv_X11_space mw_167 ⟨by decide, by decide⟩ hK hP hD hS hA [0, 1, 2] [3, 4] rfl rfl rfl rfl (by decide) rfl rfl hl.1 rfl rfl (Nat.le_of_ble_eq_true rfl) dL_law_230 ⟨by decide, by decide⟩ (fun r_228 w1 H locs hw hP hD hS => ?_)
    obtain ⟨er_228, rfl⟩ := hw
    have hP : va_P (dC, dI) vwCl [(mo, .inr (9, [.int 0, .ref q68, .int 0, .ref q69, .ref q70, .ref q71, .ref q72, .ref q73, .ref q74, .ref q75, .ref q76, .ref q77, .int 0, .int 0, .int 0, .ref q78, .ref q79, .ref q80, .int 0, .ref q81, .ref q82, .ref q83, .ref q84, .int 0, .int 0, .int 0, .ref q85, .int 0, .ref q86, .int 0, .int 0, .ref q87, .ref q88, .ref q89, .ref q90, .ref q91, .ref q92, .int 0, .int 0, .ref q93, .int 0, .int 0, .int 0, .int 0, .int 0, .ref q94])), (q68, .inl (cyI, 3000, .inl (fun _ => 0)))] H := hP
    have hD : va_D A [(mo, .inr (9, [.int 0, .ref q68, .int 0, .ref q69, .ref q70, .ref q71, .ref q72, .ref q73, .ref q74, .ref q75, .ref q76, .ref q77, .int 0, .int 0, .int 0, .ref q78, .ref q79, .ref q80, .int 0, .ref q81, .ref q82, .ref q83, .ref q84, .int 0, .int 0, .int 0, .ref q85, .int 0, .ref q86, .int 0, .int 0, .ref q87, .ref q88, .ref q89, .ref q90, .ref q91, .ref q92, .int 0, .int 0, .ref q93, .int 0, .int 0, .int 0, .int 0, .int 0, .ref q94])), (q68, .inl (cyI, 3000, .inl (fun _ => 0)))] := hD
    refine lv_aload_n hx hb dL_law_233 rfl (lv_at hl 1 rfl) ?_
    refine lv_aload_n hx hb dL_law_234 rfl (lv_at hl 3 rfl) ?_
    refine lv_iload_n hx hb dL_law_235 rfl (lv_at hl 0 rfl) ?_
    refine lv_iconst (v := 1) hx hb dL_law_236 (by decide) ?_
    refine lv_iadd hx hb dL_law_237 ?_
    refine zl_i (y := 1) (by decide) ?_
    refine va_sld hx hb hX hbl hbA hS (zin (by decide)) dL_law_238 ?_
    refine zl_i (y := xs 1) rfl ?_
    refine lv_if_eq (tgt := 246) hx hb dL_law_239 (by decide) (fun h9 => absurd h9 c_217) (fun _ => ?_)
    refine lv_iconst (v := 1) hx hb dL_law_242 (by decide) ?_
    refine lv_goto (tgt := 247) hx hb dL_law_243 (by decide) ?_
    refine lv_aload_n hx hb dL_law_247 rfl (lv_at hl 3 rfl) ?_
    refine lv_iload_n hx hb dL_law_248 rfl (lv_at hl 0 rfl) ?_
    refine lv_iconst (v := 2) hx hb dL_law_249 (by decide) ?_
    refine lv_iadd hx hb dL_law_250 ?_
    refine zl_i (y := 2) (by decide) ?_
    refine va_sld hx hb hX hbl hbA hS (zin (by decide)) dL_law_251 ?_
    refine zl_i (y := xs 2) rfl ?_
    refine zcVi (wr := []) (rest := [.int r_228]) hx hb hml hown hts (k_X12_space_1 l dC dI cyI cyC mo q68 (.int 0) (.ref q69) (.ref q70) (.ref q71) (.ref q72) (.ref q73) (.ref q74) (.ref q75) (.ref q76) (.ref q77) (.int 0) (.int 0) (.int 0) (.ref q78) (.ref q79) (.ref q80) (.int 0) (.ref q81) (.ref q82) (.ref q83) (.ref q84) (.int 0) (.int 0) (.int 0) (.ref q85) (.int 0) (.ref q86) (.int 0) (.int 0) (.ref q87) (.ref q88) (.ref q89) (.ref q90) (.ref q91) (.ref q92) (.int 0) (.int 0) (.ref q93) (.int 0) (.int 0) (.int 0) (.int 0) (.int 0) (.ref q94) (fun _ => 0) (xs 2)) zo_X12_space zv_X12_space mw_171 ⟨by decide, by decide⟩ hK hP hD hS hA [0, 1] [] rfl rfl rfl rfl (by decide) rfl rfl hl.1 rfl rfl (Nat.le_of_ble_eq_true rfl) dL_law_252 ⟨by decide, by decide⟩ (fun r_229 w1 H locs hw hP hD hS => ?_)
    obtain ⟨er_229, rfl⟩ := hw
    have hP : va_P (dC, dI) vwCl [] H := hP
    have hD : va_D A [] := hD
    refine lv_icmp_eq (tgt := 570) hx hb dL_law_255 (by decide) (fun _ => ?_) (fun h9 => absurd (er_228.trans er_229.symm) h9)
    refine lv_iinc (v := 6) (lv' := [(3, .int 6), (2, .ref mo), (1, .ref xo), (0, .ref b)]) hx hb dL_law_570 hl (k := 0) rfl (by decide) (by decide) rfl (fun ls hl => ?_)
    refine lv_goto (tgt := 18) hx hb dL_law_573 (by decide) ?_
    refine lv_iload_n hx hb dL_law_18 rfl (lv_at hl 0 rfl) ?_
    refine lv_aload_n hx hb dL_law_19 rfl (lv_at hl 3 rfl) ?_
    refine va_slen hx hb hX hbl hbA hS dL_law_20 ?_
    refine zl_i (y := 6) rfl ?_
    refine lv_bipush (v := 6) hx hb dL_law_21 (by decide) ?_
    refine lv_isub hx hb dL_law_23 ?_
    refine zl_i (y := 0) (by decide) ?_
    refine lv_icmp_gt (tgt := 576) hx hb dL_law_24 (by decide) (fun _ => ?_) (fun h9 => absurd (by decide) h9)
    refine lv_iconst (v := 1) hx hb dL_law_576 (by decide) ?_
    refine va_forget (fun q hq => by have h7 := hS.2.2 q hq; rw [hAe] at h7; exact h7) ?_
    refine W.widen (k := 600000) (n := 7302250) (by decide) (by decide) ?_
    exact lw_ret hx hb hr hlocks dL_law_577
set_option maxRecDepth 100000 in
set_option maxHeartbeats 4000000 in
theorem law_op_2 {p : Program} {l : Launch} {e : Env} {s : State} {m : MethodId} {below : List Frame} {meth : Method} {c : Code} {dC : Nat → ClassId} {dI : Nat → Nat → Nat} {cyI cyC : ClassId} {A : Nat → Prop} {b : Nat} {xs : Nat → Int32} (hx : p.tables.exec = Jvm.exec) (hb : c.code = cL_law) (hr : meth.sig.returnType = ret) (hlocks : meth.locks = false) (hml : c.maxLocals = 4) (hown : s.vm.findClass RL = some m.cls) (hts : ∀ w ∈ wsL_law, w.before #[Value.ref b] s = true) (hX : va_X b 6 xs s s.heap) (hbl : b < s.heap.size) (hAe : A = fun q : Nat => s.heap.size ≤ q) (hK : va_K (dC, dI) vwCl (zT cyI cyC) s) (xo q1 q4 q17 q42 q65 q22 q35 q3 mo q68 q69 q70 q71 q72 q73 q74 q75 q76 q77 q78 q79 q80 q81 q82 q83 q84 q85 q86 q87 q88 q89 q90 q91 q92 q93 q94 : Nat) (H : Heap) (locs : List Loc) (hP : va_P (dC, dI) vwCl [(xo, .inr (8, [.ref q1, .ref q4, .ref q17, .ref q42, .ref q65, .ref q22, .ref q35, .int 0, .int 0])), (q1, .inr (5, [.ref q3, .int 0])), (mo, .inr (9, [.int 0, .ref q68, .int 0, .ref q69, .ref q70, .ref q71, .ref q72, .ref q73, .ref q74, .ref q75, .ref q76, .ref q77, .int 0, .int 0, .int 0, .ref q78, .ref q79, .ref q80, .int 0, .ref q81, .ref q82, .ref q83, .ref q84, .int 0, .int 0, .int 0, .ref q85, .int 0, .ref q86, .int 0, .int 0, .ref q87, .ref q88, .ref q89, .ref q90, .ref q91, .ref q92, .int 0, .int 0, .ref q93, .int 0, .int 0, .int 0, .int 0, .int 0, .ref q94]))] H) (hD : va_D A [(xo, .inr (8, [.ref q1, .ref q4, .ref q17, .ref q42, .ref q65, .ref q22, .ref q35, .int 0, .int 0])), (q1, .inr (5, [.ref q3, .int 0])), (mo, .inr (9, [.int 0, .ref q68, .int 0, .ref q69, .ref q70, .ref q71, .ref q72, .ref q73, .ref q74, .ref q75, .ref q76, .ref q77, .int 0, .int 0, .int 0, .ref q78, .ref q79, .ref q80, .int 0, .ref q81, .ref q82, .ref q83, .ref q84, .int 0, .int 0, .int 0, .ref q85, .int 0, .ref q86, .int 0, .int 0, .ref q87, .ref q88, .ref q89, .ref q90, .ref q91, .ref q92, .int 0, .int 0, .ref q93, .int 0, .int 0, .int 0, .int 0, .int 0, .ref q94]))]) (hS : va_S A s.heap H locs) (ls : Array Slot) (hl : lv_has ls 4 [(3, .int 0), (2, .ref mo), (1, .ref xo), (0, .ref b)]) : W p l e room_1 s m #[Value.ref b] below meth c H locs 66 148846 (lw_Z below #[Value.ref b] s) (F0 m 260 ls []) := by
  have hA : ∀ q : Nat, s.heap.size ≤ q → A q := fun q h => by rw [hAe]; exact h
  have hbA : ¬ A b := by rw [hAe]; exact Nat.not_le.mpr hbl
  refine lv_aload_n hx hb dL_law_260 rfl (lv_at hl 2 rfl) ?_
  refine zcVi (wr := [(mo, .inr (9, [.int 0, .ref q68, .int 0, .ref q69, .ref q70, .ref q71, .ref q72, .ref q73, .ref q74, .ref q75, .ref q76, .ref q77, .int 0, .int 0, .int 0, .ref q78, .ref q79, .ref q80, .int 0, .ref q81, .ref q82, .ref q83, .ref q84, .int 0, .int 0, .int 0, .ref q85, .int 0, .ref q86, .int 0, .int 0, .ref q87, .ref q88, .ref q89, .ref q90, .ref q91, .ref q92, .int 0, .int 0, .ref q93, .int 0, .int 0, .int 0, .int 0, .int 0, .ref q94]))]) (rest := []) hx hb hml hown hts (k_X11_clear_1 l dC dI cyI cyC xo q1 (.ref q4) (.ref q17) (.ref q42) (.ref q65) (.ref q22) (.ref q35) (.int 0) (.int 0) (.ref q3)) zo_X11_clear zv_X11_clear mw_176 ⟨by decide, by decide⟩ hK hP hD hS hA [0, 1] [2] rfl rfl rfl rfl (by decide) rfl rfl hl.1 rfl rfl (Nat.le_of_ble_eq_true rfl) dL_law_261 ⟨by decide, by decide⟩ (fun r_230 w1 H locs hw hP hD hS => ?_)
  obtain ⟨rfl, rfl⟩ := hw
  have hP : va_P (dC, dI) vwCl [(mo, .inr (9, [.int 0, .ref q68, .int 0, .ref q69, .ref q70, .ref q71, .ref q72, .ref q73, .ref q74, .ref q75, .ref q76, .ref q77, .int 0, .int 0, .int 0, .ref q78, .ref q79, .ref q80, .int 0, .ref q81, .ref q82, .ref q83, .ref q84, .int 0, .int 0, .int 0, .ref q85, .int 0, .ref q86, .int 0, .int 0, .ref q87, .ref q88, .ref q89, .ref q90, .ref q91, .ref q92, .int 0, .int 0, .ref q93, .int 0, .int 0, .int 0, .int 0, .int 0, .ref q94]))] H := hP
  have hD : va_D A [(mo, .inr (9, [.int 0, .ref q68, .int 0, .ref q69, .ref q70, .ref q71, .ref q72, .ref q73, .ref q74, .ref q75, .ref q76, .ref q77, .int 0, .int 0, .int 0, .ref q78, .ref q79, .ref q80, .int 0, .ref q81, .ref q82, .ref q83, .ref q84, .int 0, .int 0, .int 0, .ref q85, .int 0, .ref q86, .int 0, .int 0, .ref q87, .ref q88, .ref q89, .ref q90, .ref q91, .ref q92, .int 0, .int 0, .ref q93, .int 0, .int 0, .int 0, .int 0, .int 0, .ref q94]))] := hD
  refine lv_aload_n hx hb dL_law_264 rfl (lv_at hl 1 rfl) ?_
  refine zcVi (wr := []) (rest := [.int 0]) hx hb hml hown hts (k_X12_clear_1 l dC dI cyI cyC mo (.ref q68) (.int 0) (.ref q69) (.ref q70) (.ref q71) (.ref q72) (.ref q73) (.ref q74) (.ref q75) (.ref q76) (.ref q77) (.int 0) (.int 0) (.int 0) (.ref q78) (.ref q79) (.ref q80) (.int 0) (.ref q81) (.ref q82) (.ref q83) (.ref q84) (.int 0) (.int 0) (.int 0) (.ref q85) (.int 0) (.ref q86) (.int 0) (.int 0) (.ref q87) (.ref q88) (.ref q89) (.ref q90) (.ref q91) (.ref q92) (.int 0) (.int 0) (.ref q93) (.int 0) (.int 0) (.int 0) (.int 0) (.int 0) (.ref q94)) zo_X12_clear zv_X12_clear mw_184 ⟨by decide, by decide⟩ hK hP hD hS hA [0] [] rfl rfl rfl rfl (by decide) rfl rfl hl.1 rfl rfl (Nat.le_of_ble_eq_true rfl) dL_law_265 ⟨by decide, by decide⟩ (fun r_231 w1 H locs hw hP hD hS => ?_)
  obtain ⟨rfl, rfl⟩ := hw
  have hP : va_P (dC, dI) vwCl [] H := hP
  have hD : va_D A [] := hD
  refine lv_icmp_eq (tgt := 570) hx hb dL_law_268 (by decide) (fun _ => ?_) (fun h9 => absurd (by decide) h9)
  refine lv_iinc (v := 6) (lv' := [(3, .int 6), (2, .ref mo), (1, .ref xo), (0, .ref b)]) hx hb dL_law_570 hl (k := 0) rfl (by decide) (by decide) rfl (fun ls hl => ?_)
  refine lv_goto (tgt := 18) hx hb dL_law_573 (by decide) ?_
  refine lv_iload_n hx hb dL_law_18 rfl (lv_at hl 0 rfl) ?_
  refine lv_aload_n hx hb dL_law_19 rfl (lv_at hl 3 rfl) ?_
  refine va_slen hx hb hX hbl hbA hS dL_law_20 ?_
  refine zl_i (y := 6) rfl ?_
  refine lv_bipush (v := 6) hx hb dL_law_21 (by decide) ?_
  refine lv_isub hx hb dL_law_23 ?_
  refine zl_i (y := 0) (by decide) ?_
  refine lv_icmp_gt (tgt := 576) hx hb dL_law_24 (by decide) (fun _ => ?_) (fun h9 => absurd (by decide) h9)
  refine lv_iconst (v := 1) hx hb dL_law_576 (by decide) ?_
  refine va_forget (fun q hq => by have h7 := hS.2.2 q hq; rw [hAe] at h7; exact h7) ?_
  refine W.widen (k := 600000) (n := 7302250) (by decide) (by decide) ?_
  exact lw_ret hx hb hr hlocks dL_law_577
set_option maxRecDepth 100000 in
set_option maxHeartbeats 4000000 in
theorem law_op_3 {p : Program} {l : Launch} {e : Env} {s : State} {m : MethodId} {below : List Frame} {meth : Method} {c : Code} {dC : Nat → ClassId} {dI : Nat → Nat → Nat} {cyI cyC : ClassId} {A : Nat → Prop} {b : Nat} {xs : Nat → Int32} (hx : p.tables.exec = Jvm.exec) (hb : c.code = cL_law) (hr : meth.sig.returnType = ret) (hlocks : meth.locks = false) (hml : c.maxLocals = 4) (hown : s.vm.findClass RL = some m.cls) (hts : ∀ w ∈ wsL_law, w.before #[Value.ref b] s = true) (hX : va_X b 6 xs s s.heap) (hbl : b < s.heap.size) (hAe : A = fun q : Nat => s.heap.size ≤ q) (hK : va_K (dC, dI) vwCl (zT cyI cyC) s) (xo q1 q4 q17 q42 q65 q22 q35 q3 mo q68 q69 q70 q71 q72 q73 q74 q75 q76 q77 q78 q79 q80 q81 q82 q83 q84 q85 q86 q87 q88 q89 q90 q91 q92 q93 q94 : Nat) (H : Heap) (locs : List Loc) (hP : va_P (dC, dI) vwCl [(xo, .inr (8, [.ref q1, .ref q4, .ref q17, .ref q42, .ref q65, .ref q22, .ref q35, .int 0, .int 0])), (q1, .inr (5, [.ref q3, .int 0])), (mo, .inr (9, [.int 0, .ref q68, .int 0, .ref q69, .ref q70, .ref q71, .ref q72, .ref q73, .ref q74, .ref q75, .ref q76, .ref q77, .int 0, .int 0, .int 0, .ref q78, .ref q79, .ref q80, .int 0, .ref q81, .ref q82, .ref q83, .ref q84, .int 0, .int 0, .int 0, .ref q85, .int 0, .ref q86, .int 0, .int 0, .ref q87, .ref q88, .ref q89, .ref q90, .ref q91, .ref q92, .int 0, .int 0, .ref q93, .int 0, .int 0, .int 0, .int 0, .int 0, .ref q94]))] H) (hD : va_D A [(xo, .inr (8, [.ref q1, .ref q4, .ref q17, .ref q42, .ref q65, .ref q22, .ref q35, .int 0, .int 0])), (q1, .inr (5, [.ref q3, .int 0])), (mo, .inr (9, [.int 0, .ref q68, .int 0, .ref q69, .ref q70, .ref q71, .ref q72, .ref q73, .ref q74, .ref q75, .ref q76, .ref q77, .int 0, .int 0, .int 0, .ref q78, .ref q79, .ref q80, .int 0, .ref q81, .ref q82, .ref q83, .ref q84, .int 0, .int 0, .int 0, .ref q85, .int 0, .ref q86, .int 0, .int 0, .ref q87, .ref q88, .ref q89, .ref q90, .ref q91, .ref q92, .int 0, .int 0, .ref q93, .int 0, .int 0, .int 0, .int 0, .int 0, .ref q94]))]) (hS : va_S A s.heap H locs) (ls : Array Slot) (hl : lv_has ls 4 [(3, .int 0), (2, .ref mo), (1, .ref xo), (0, .ref b)]) : W p l e room_1 s m #[Value.ref b] below meth c H locs 66 148846 (lw_Z below #[Value.ref b] s) (F0 m 273 ls []) := by
  have hA : ∀ q : Nat, s.heap.size ≤ q → A q := fun q h => by rw [hAe]; exact h
  have hbA : ¬ A b := by rw [hAe]; exact Nat.not_le.mpr hbl
  refine lv_aload_n hx hb dL_law_273 rfl (lv_at hl 2 rfl) ?_
  refine lv_aload_n hx hb dL_law_274 rfl (lv_at hl 3 rfl) ?_
  refine lv_iload_n hx hb dL_law_275 rfl (lv_at hl 0 rfl) ?_
  refine lv_iconst (v := 1) hx hb dL_law_276 (by decide) ?_
  refine lv_iadd hx hb dL_law_277 ?_
  refine zl_i (y := 1) (by decide) ?_
  refine va_sld hx hb hX hbl hbA hS (zin (by decide)) dL_law_278 ?_
  refine zl_i (y := xs 1) rfl ?_
  refine zcVi (wr := [(mo, .inr (9, [.int 0, .ref q68, .int 0, .ref q69, .ref q70, .ref q71, .ref q72, .ref q73, .ref q74, .ref q75, .ref q76, .ref q77, .int 0, .int 0, .int 0, .ref q78, .ref q79, .ref q80, .int 0, .ref q81, .ref q82, .ref q83, .ref q84, .int 0, .int 0, .int 0, .ref q85, .int 0, .ref q86, .int 0, .int 0, .ref q87, .ref q88, .ref q89, .ref q90, .ref q91, .ref q92, .int 0, .int 0, .ref q93, .int 0, .int 0, .int 0, .int 0, .int 0, .ref q94]))]) (rest := []) hx hb hml hown hts (k_X11_at_1 l dC dI cyI cyC xo q1 (.ref q4) (.ref q17) (.ref q42) (.ref q65) (.ref q22) (.ref q35) (.int 0) (.int 0) (.ref q3) (xs 1)) zo_X11_at zv_X11_at mw_188 ⟨by decide, by decide⟩ hK hP hD hS hA [0, 1] [2] rfl rfl rfl rfl (by decide) rfl rfl hl.1 rfl rfl (Nat.le_of_ble_eq_true rfl) dL_law_279 ⟨by decide, by decide⟩ (fun r_232 w1 H locs hw hP hD hS => ?_)
  obtain ⟨rfl, rfl⟩ := hw
  have hP : va_P (dC, dI) vwCl [(mo, .inr (9, [.int 0, .ref q68, .int 0, .ref q69, .ref q70, .ref q71, .ref q72, .ref q73, .ref q74, .ref q75, .ref q76, .ref q77, .int 0, .int 0, .int 0, .ref q78, .ref q79, .ref q80, .int 0, .ref q81, .ref q82, .ref q83, .ref q84, .int 0, .int 0, .int 0, .ref q85, .int 0, .ref q86, .int 0, .int 0, .ref q87, .ref q88, .ref q89, .ref q90, .ref q91, .ref q92, .int 0, .int 0, .ref q93, .int 0, .int 0, .int 0, .int 0, .int 0, .ref q94]))] H := hP
  have hD : va_D A [(mo, .inr (9, [.int 0, .ref q68, .int 0, .ref q69, .ref q70, .ref q71, .ref q72, .ref q73, .ref q74, .ref q75, .ref q76, .ref q77, .int 0, .int 0, .int 0, .ref q78, .ref q79, .ref q80, .int 0, .ref q81, .ref q82, .ref q83, .ref q84, .int 0, .int 0, .int 0, .ref q85, .int 0, .ref q86, .int 0, .int 0, .ref q87, .ref q88, .ref q89, .ref q90, .ref q91, .ref q92, .int 0, .int 0, .ref q93, .int 0, .int 0, .int 0, .int 0, .int 0, .ref q94]))] := hD
  refine lv_aload_n hx hb dL_law_282 rfl (lv_at hl 1 rfl) ?_
  refine lv_aload_n hx hb dL_law_283 rfl (lv_at hl 3 rfl) ?_
  refine lv_iload_n hx hb dL_law_284 rfl (lv_at hl 0 rfl) ?_
  refine lv_iconst (v := 1) hx hb dL_law_285 (by decide) ?_
  refine lv_iadd hx hb dL_law_286 ?_
  refine zl_i (y := 1) (by decide) ?_
  refine va_sld hx hb hX hbl hbA hS (zin (by decide)) dL_law_287 ?_
  refine zl_i (y := xs 1) rfl ?_
  refine zcVi (wr := []) (rest := [.int (-1)]) hx hb hml hown hts (k_X12_at_1 l dC dI cyI cyC mo (.ref q68) (.int 0) (.ref q69) (.ref q70) (.ref q71) (.ref q72) (.ref q73) (.ref q74) (.ref q75) (.ref q76) (.ref q77) (.int 0) (.int 0) (.int 0) (.ref q78) (.ref q79) (.ref q80) (.int 0) (.ref q81) (.ref q82) (.ref q83) (.ref q84) (.int 0) (.int 0) (.int 0) (.ref q85) (.int 0) (.ref q86) (.int 0) (.int 0) (.ref q87) (.ref q88) (.ref q89) (.ref q90) (.ref q91) (.ref q92) (.int 0) (.int 0) (.ref q93) (.int 0) (.int 0) (.int 0) (.int 0) (.int 0) (.ref q94) (xs 1)) zo_X12_at zv_X12_at mw_196 ⟨by decide, by decide⟩ hK hP hD hS hA [0] [] rfl rfl rfl rfl (by decide) rfl rfl hl.1 rfl rfl (Nat.le_of_ble_eq_true rfl) dL_law_288 ⟨by decide, by decide⟩ (fun r_233 w1 H locs hw hP hD hS => ?_)
  obtain ⟨rfl, rfl⟩ := hw
  have hP : va_P (dC, dI) vwCl [] H := hP
  have hD : va_D A [] := hD
  refine lv_icmp_eq (tgt := 570) hx hb dL_law_291 (by decide) (fun _ => ?_) (fun h9 => absurd (by decide) h9)
  refine lv_iinc (v := 6) (lv' := [(3, .int 6), (2, .ref mo), (1, .ref xo), (0, .ref b)]) hx hb dL_law_570 hl (k := 0) rfl (by decide) (by decide) rfl (fun ls hl => ?_)
  refine lv_goto (tgt := 18) hx hb dL_law_573 (by decide) ?_
  refine lv_iload_n hx hb dL_law_18 rfl (lv_at hl 0 rfl) ?_
  refine lv_aload_n hx hb dL_law_19 rfl (lv_at hl 3 rfl) ?_
  refine va_slen hx hb hX hbl hbA hS dL_law_20 ?_
  refine zl_i (y := 6) rfl ?_
  refine lv_bipush (v := 6) hx hb dL_law_21 (by decide) ?_
  refine lv_isub hx hb dL_law_23 ?_
  refine zl_i (y := 0) (by decide) ?_
  refine lv_icmp_gt (tgt := 576) hx hb dL_law_24 (by decide) (fun _ => ?_) (fun h9 => absurd (by decide) h9)
  refine lv_iconst (v := 1) hx hb dL_law_576 (by decide) ?_
  refine va_forget (fun q hq => by have h7 := hS.2.2 q hq; rw [hAe] at h7; exact h7) ?_
  refine W.widen (k := 600000) (n := 7302250) (by decide) (by decide) ?_
  exact lw_ret hx hb hr hlocks dL_law_577
set_option maxRecDepth 100000 in
set_option maxHeartbeats 4000000 in
theorem law_op_4 {p : Program} {l : Launch} {e : Env} {s : State} {m : MethodId} {below : List Frame} {meth : Method} {c : Code} {dC : Nat → ClassId} {dI : Nat → Nat → Nat} {cyI cyC : ClassId} {A : Nat → Prop} {b : Nat} {xs : Nat → Int32} (hx : p.tables.exec = Jvm.exec) (hb : c.code = cL_law) (hr : meth.sig.returnType = ret) (hlocks : meth.locks = false) (hml : c.maxLocals = 4) (hown : s.vm.findClass RL = some m.cls) (hts : ∀ w ∈ wsL_law, w.before #[Value.ref b] s = true) (hX : va_X b 6 xs s s.heap) (hbl : b < s.heap.size) (hAe : A = fun q : Nat => s.heap.size ≤ q) (hK : va_K (dC, dI) vwCl (zT cyI cyC) s) (xo q1 q4 q17 q42 q65 q22 q35 q3 mo q68 q69 q70 q71 q72 q73 q74 q75 q76 q77 q78 q79 q80 q81 q82 q83 q84 q85 q86 q87 q88 q89 q90 q91 q92 q93 q94 : Nat) (H : Heap) (locs : List Loc) (hP : va_P (dC, dI) vwCl [(xo, .inr (8, [.ref q1, .ref q4, .ref q17, .ref q42, .ref q65, .ref q22, .ref q35, .int 0, .int 0])), (q1, .inr (5, [.ref q3, .int 0])), (mo, .inr (9, [.int 0, .ref q68, .int 0, .ref q69, .ref q70, .ref q71, .ref q72, .ref q73, .ref q74, .ref q75, .ref q76, .ref q77, .int 0, .int 0, .int 0, .ref q78, .ref q79, .ref q80, .int 0, .ref q81, .ref q82, .ref q83, .ref q84, .int 0, .int 0, .int 0, .ref q85, .int 0, .ref q86, .int 0, .int 0, .ref q87, .ref q88, .ref q89, .ref q90, .ref q91, .ref q92, .int 0, .int 0, .ref q93, .int 0, .int 0, .int 0, .int 0, .int 0, .ref q94]))] H) (hD : va_D A [(xo, .inr (8, [.ref q1, .ref q4, .ref q17, .ref q42, .ref q65, .ref q22, .ref q35, .int 0, .int 0])), (q1, .inr (5, [.ref q3, .int 0])), (mo, .inr (9, [.int 0, .ref q68, .int 0, .ref q69, .ref q70, .ref q71, .ref q72, .ref q73, .ref q74, .ref q75, .ref q76, .ref q77, .int 0, .int 0, .int 0, .ref q78, .ref q79, .ref q80, .int 0, .ref q81, .ref q82, .ref q83, .ref q84, .int 0, .int 0, .int 0, .ref q85, .int 0, .ref q86, .int 0, .int 0, .ref q87, .ref q88, .ref q89, .ref q90, .ref q91, .ref q92, .int 0, .int 0, .ref q93, .int 0, .int 0, .int 0, .int 0, .int 0, .ref q94]))]) (hS : va_S A s.heap H locs) (ls : Array Slot) (hl : lv_has ls 4 [(3, .int 0), (2, .ref mo), (1, .ref xo), (0, .ref b)]) : W p l e room_1 s m #[Value.ref b] below meth c H locs 66 148846 (lw_Z below #[Value.ref b] s) (F0 m 296 ls []) := by
  have hA : ∀ q : Nat, s.heap.size ≤ q → A q := fun q h => by rw [hAe]; exact h
  have hbA : ¬ A b := by rw [hAe]; exact Nat.not_le.mpr hbl
  refine lv_aload_n hx hb dL_law_296 rfl (lv_at hl 2 rfl) ?_
  refine lv_aload_n hx hb dL_law_297 rfl (lv_at hl 3 rfl) ?_
  refine lv_iload_n hx hb dL_law_298 rfl (lv_at hl 0 rfl) ?_
  refine lv_iconst (v := 1) hx hb dL_law_299 (by decide) ?_
  refine lv_iadd hx hb dL_law_300 ?_
  refine zl_i (y := 1) (by decide) ?_
  refine va_sld hx hb hX hbl hbA hS (zin (by decide)) dL_law_301 ?_
  refine zl_i (y := xs 1) rfl ?_
  refine lv_aload_n hx hb dL_law_302 rfl (lv_at hl 3 rfl) ?_
  refine lv_iload_n hx hb dL_law_303 rfl (lv_at hl 0 rfl) ?_
  refine lv_iconst (v := 2) hx hb dL_law_304 (by decide) ?_
  refine lv_iadd hx hb dL_law_305 ?_
  refine zl_i (y := 2) (by decide) ?_
  refine va_sld hx hb hX hbl hbA hS (zin (by decide)) dL_law_306 ?_
  refine zl_i (y := xs 2) rfl ?_
  refine zcVi (wr := [(mo, .inr (9, [.int 0, .ref q68, .int 0, .ref q69, .ref q70, .ref q71, .ref q72, .ref q73, .ref q74, .ref q75, .ref q76, .ref q77, .int 0, .int 0, .int 0, .ref q78, .ref q79, .ref q80, .int 0, .ref q81, .ref q82, .ref q83, .ref q84, .int 0, .int 0, .int 0, .ref q85, .int 0, .ref q86, .int 0, .int 0, .ref q87, .ref q88, .ref q89, .ref q90, .ref q91, .ref q92, .int 0, .int 0, .ref q93, .int 0, .int 0, .int 0, .int 0, .int 0, .ref q94]))]) (rest := []) hx hb hml hown hts (k_X11_alter_1 l dC dI cyI cyC xo q1 (.ref q4) (.ref q17) (.ref q42) (.ref q65) (.ref q22) (.ref q35) (.int 0) (.int 0) (.ref q3) (xs 1) (xs 2)) zo_X11_alter zv_X11_alter mw_200 ⟨by decide, by decide⟩ hK hP hD hS hA [0, 1] [2] rfl rfl rfl rfl (by decide) rfl rfl hl.1 rfl rfl (Nat.le_of_ble_eq_true rfl) dL_law_307 ⟨by decide, by decide⟩ (fun r_234 w1 H locs hw hP hD hS => ?_)
  obtain ⟨rfl, rfl⟩ := hw
  have hP : va_P (dC, dI) vwCl [(mo, .inr (9, [.int 0, .ref q68, .int 0, .ref q69, .ref q70, .ref q71, .ref q72, .ref q73, .ref q74, .ref q75, .ref q76, .ref q77, .int 0, .int 0, .int 0, .ref q78, .ref q79, .ref q80, .int 0, .ref q81, .ref q82, .ref q83, .ref q84, .int 0, .int 0, .int 0, .ref q85, .int 0, .ref q86, .int 0, .int 0, .ref q87, .ref q88, .ref q89, .ref q90, .ref q91, .ref q92, .int 0, .int 0, .ref q93, .int 0, .int 0, .int 0, .int 0, .int 0, .ref q94]))] H := hP
  have hD : va_D A [(mo, .inr (9, [.int 0, .ref q68, .int 0, .ref q69, .ref q70, .ref q71, .ref q72, .ref q73, .ref q74, .ref q75, .ref q76, .ref q77, .int 0, .int 0, .int 0, .ref q78, .ref q79, .ref q80, .int 0, .ref q81, .ref q82, .ref q83, .ref q84, .int 0, .int 0, .int 0, .ref q85, .int 0, .ref q86, .int 0, .int 0, .ref q87, .ref q88, .ref q89, .ref q90, .ref q91, .ref q92, .int 0, .int 0, .ref q93, .int 0, .int 0, .int 0, .int 0, .int 0, .ref q94]))] := hD
  refine lv_aload_n hx hb dL_law_310 rfl (lv_at hl 1 rfl) ?_
  refine lv_aload_n hx hb dL_law_311 rfl (lv_at hl 3 rfl) ?_
  refine lv_iload_n hx hb dL_law_312 rfl (lv_at hl 0 rfl) ?_
  refine lv_iconst (v := 1) hx hb dL_law_313 (by decide) ?_
  refine lv_iadd hx hb dL_law_314 ?_
  refine zl_i (y := 1) (by decide) ?_
  refine va_sld hx hb hX hbl hbA hS (zin (by decide)) dL_law_315 ?_
  refine zl_i (y := xs 1) rfl ?_
  refine lv_aload_n hx hb dL_law_316 rfl (lv_at hl 3 rfl) ?_
  refine lv_iload_n hx hb dL_law_317 rfl (lv_at hl 0 rfl) ?_
  refine lv_iconst (v := 2) hx hb dL_law_318 (by decide) ?_
  refine lv_iadd hx hb dL_law_319 ?_
  refine zl_i (y := 2) (by decide) ?_
  refine va_sld hx hb hX hbl hbA hS (zin (by decide)) dL_law_320 ?_
  refine zl_i (y := xs 2) rfl ?_
  refine zcVi (wr := []) (rest := [.int (-2)]) hx hb hml hown hts (k_X12_alter_1 l dC dI cyI cyC mo (.ref q68) (.int 0) (.ref q69) (.ref q70) (.ref q71) (.ref q72) (.ref q73) (.ref q74) (.ref q75) (.ref q76) (.ref q77) (.int 0) (.int 0) (.int 0) (.ref q78) (.ref q79) (.ref q80) (.int 0) (.ref q81) (.ref q82) (.ref q83) (.ref q84) (.int 0) (.int 0) (.int 0) (.ref q85) (.int 0) (.ref q86) (.int 0) (.int 0) (.ref q87) (.ref q88) (.ref q89) (.ref q90) (.ref q91) (.ref q92) (.int 0) (.int 0) (.ref q93) (.int 0) (.int 0) (.int 0) (.int 0) (.int 0) (.ref q94) (xs 1) (xs 2)) zo_X12_alter zv_X12_alter mw_208 ⟨by decide, by decide⟩ hK hP hD hS hA [0] [] rfl rfl rfl rfl (by decide) rfl rfl hl.1 rfl rfl (Nat.le_of_ble_eq_true rfl) dL_law_321 ⟨by decide, by decide⟩ (fun r_235 w1 H locs hw hP hD hS => ?_)
  obtain ⟨rfl, rfl⟩ := hw
  have hP : va_P (dC, dI) vwCl [] H := hP
  have hD : va_D A [] := hD
  refine lv_icmp_eq (tgt := 570) hx hb dL_law_324 (by decide) (fun _ => ?_) (fun h9 => absurd (by decide) h9)
  refine lv_iinc (v := 6) (lv' := [(3, .int 6), (2, .ref mo), (1, .ref xo), (0, .ref b)]) hx hb dL_law_570 hl (k := 0) rfl (by decide) (by decide) rfl (fun ls hl => ?_)
  refine lv_goto (tgt := 18) hx hb dL_law_573 (by decide) ?_
  refine lv_iload_n hx hb dL_law_18 rfl (lv_at hl 0 rfl) ?_
  refine lv_aload_n hx hb dL_law_19 rfl (lv_at hl 3 rfl) ?_
  refine va_slen hx hb hX hbl hbA hS dL_law_20 ?_
  refine zl_i (y := 6) rfl ?_
  refine lv_bipush (v := 6) hx hb dL_law_21 (by decide) ?_
  refine lv_isub hx hb dL_law_23 ?_
  refine zl_i (y := 0) (by decide) ?_
  refine lv_icmp_gt (tgt := 576) hx hb dL_law_24 (by decide) (fun _ => ?_) (fun h9 => absurd (by decide) h9)
  refine lv_iconst (v := 1) hx hb dL_law_576 (by decide) ?_
  refine va_forget (fun q hq => by have h7 := hS.2.2 q hq; rw [hAe] at h7; exact h7) ?_
  refine W.widen (k := 600000) (n := 7302250) (by decide) (by decide) ?_
  exact lw_ret hx hb hr hlocks dL_law_577
set_option maxRecDepth 100000 in
set_option maxHeartbeats 4000000 in
theorem law_op_5 {p : Program} {l : Launch} {e : Env} {s : State} {m : MethodId} {below : List Frame} {meth : Method} {c : Code} {dC : Nat → ClassId} {dI : Nat → Nat → Nat} {cyI cyC : ClassId} {A : Nat → Prop} {b : Nat} {xs : Nat → Int32} (hx : p.tables.exec = Jvm.exec) (hb : c.code = cL_law) (hr : meth.sig.returnType = ret) (hlocks : meth.locks = false) (hml : c.maxLocals = 4) (hown : s.vm.findClass RL = some m.cls) (hts : ∀ w ∈ wsL_law, w.before #[Value.ref b] s = true) (hX : va_X b 6 xs s s.heap) (hbl : b < s.heap.size) (hAe : A = fun q : Nat => s.heap.size ≤ q) (hK : va_K (dC, dI) vwCl (zT cyI cyC) s) (xo q1 q4 q17 q42 q65 q22 q35 q20 q21 q11 q12 q13 q14 q15 q16 q3 q57 q62 q36 q37 q38 q39 q40 q41 q58 q59 q60 q61 q63 q64 mo q68 q69 q70 q71 q72 q73 q74 q75 q76 q77 q78 q79 q80 q81 q82 q83 q84 q85 q86 q87 q88 q89 q90 q91 q92 q93 q94 : Nat) (H : Heap) (locs : List Loc) (hP : va_P (dC, dI) vwCl [(xo, .inr (8, [.ref q1, .ref q4, .ref q17, .ref q42, .ref q65, .ref q22, .ref q35, .int 0, .int 0])), (q17, .inr (0, [.ref q4, .ref q20, .ref q21, .int 0, .int 0, .int 0, .int 0, .int 0, .int 0])), (q4, .inr (1, [.ref q1, .ref q11, .ref q12, .ref q13, .ref q14, .ref q15, .ref q16, .int 0, .int 0, .int 0, .int 0, .int 0, .int 0, .int 0])), (q1, .inr (5, [.ref q3, .int 0])), (q42, .inr (3, [.ref q4, .ref q17, .ref q57, .ref q62, .ref q35, .int 0, .int 0])), (q35, .inr (6, [.ref q36, .ref q37, .ref q38, .ref q39, .ref q40, .ref q41, .int 0])), (q57, .inr (2, [.ref q58, .ref q59, .ref q60, .ref q61, .int 0, .int 0, .int 0])), (q62, .inr (4, [.ref q63, .ref q64, .int 0])), (q36, .inl (cyI, 1601, .inl (fun _ => 0))), (q37, .inl (cyI, 1601, .inl (fun _ => 0))), (q39, .inl (cyI, 1601, .inl (fun _ => 0))), (q40, .inl (cyI, 1601, .inl (fun _ => 0))), (q58, .inl (cyI, 1602, .inl (fun _ => 0))), (q59, .inl (cyI, 1602, .inl (fun _ => 0))), (q60, .inl (cyI, 1602, .inl (fun _ => 0))), (q20, .inl (cyI, 3204, .inl (fun _ => 0))), (q63, .inl (cyI, 4812, .inl (fun _ => 0))), (q64, .inl (cyI, 4812, .inl (fun _ => 0))), (q41, .inl (cyC, 3000, .inl (fun _ => 0))), (q3, .inl (cyC, 3000, .inl (fun _ => 0))), (q38, .inl (cyI, 1601, .inl (fun _ => 0))), (mo, .inr (9, [.int 0, .ref q68, .int 0, .ref q69, .ref q70, .ref q71, .ref q72, .ref q73, .ref q74, .ref q75, .ref q76, .ref q77, .int 0, .int 0, .int 0, .ref q78, .ref q79, .ref q80, .int 0, .ref q81, .ref q82, .ref q83, .ref q84, .int 0, .int 0, .int 0, .ref q85, .int 0, .ref q86, .int 0, .int 0, .ref q87, .ref q88, .ref q89, .ref q90, .ref q91, .ref q92, .int 0, .int 0, .ref q93, .int 0, .int 0, .int 0, .int 0, .int 0, .ref q94])), (q74, .inl (cyI, 801, .inl (fun _ => 0))), (q75, .inl (cyI, 801, .inl (fun _ => 0))), (q69, .inl (cyI, 801, .inl (fun _ => 0))), (q72, .inl (cyI, 801, .inl (fun _ => 0))), (q78, .inl (cyI, 3000, .inl (fun _ => 0))), (q79, .inl (cyI, 3000, .inl (fun _ => 0))), (q80, .inl (cyI, 3000, .inl (fun _ => 0))), (q81, .inl (cyI, 400, .inl (fun _ => 0))), (q82, .inl (cyI, 400, .inl (fun _ => 0))), (q83, .inl (cyI, 400, .inl (fun _ => 0))), (q84, .inl (cyI, 400, .inl (fun _ => 0))), (q85, .inl (cyI, 5000, .inl (fun _ => 0))), (q87, .inl (cyI, 3000, .inl (fun _ => 0))), (q88, .inl (cyI, 3000, .inl (fun _ => 0))), (q90, .inl (cyI, 3000, .inl (fun _ => 0))), (q91, .inl (cyI, 3000, .inl (fun _ => 0))), (q89, .inl (cyI, 3000, .inl (fun _ => 0)))] H) (hD : va_D A [(xo, .inr (8, [.ref q1, .ref q4, .ref q17, .ref q42, .ref q65, .ref q22, .ref q35, .int 0, .int 0])), (q17, .inr (0, [.ref q4, .ref q20, .ref q21, .int 0, .int 0, .int 0, .int 0, .int 0, .int 0])), (q4, .inr (1, [.ref q1, .ref q11, .ref q12, .ref q13, .ref q14, .ref q15, .ref q16, .int 0, .int 0, .int 0, .int 0, .int 0, .int 0, .int 0])), (q1, .inr (5, [.ref q3, .int 0])), (q42, .inr (3, [.ref q4, .ref q17, .ref q57, .ref q62, .ref q35, .int 0, .int 0])), (q35, .inr (6, [.ref q36, .ref q37, .ref q38, .ref q39, .ref q40, .ref q41, .int 0])), (q57, .inr (2, [.ref q58, .ref q59, .ref q60, .ref q61, .int 0, .int 0, .int 0])), (q62, .inr (4, [.ref q63, .ref q64, .int 0])), (q36, .inl (cyI, 1601, .inl (fun _ => 0))), (q37, .inl (cyI, 1601, .inl (fun _ => 0))), (q39, .inl (cyI, 1601, .inl (fun _ => 0))), (q40, .inl (cyI, 1601, .inl (fun _ => 0))), (q58, .inl (cyI, 1602, .inl (fun _ => 0))), (q59, .inl (cyI, 1602, .inl (fun _ => 0))), (q60, .inl (cyI, 1602, .inl (fun _ => 0))), (q20, .inl (cyI, 3204, .inl (fun _ => 0))), (q63, .inl (cyI, 4812, .inl (fun _ => 0))), (q64, .inl (cyI, 4812, .inl (fun _ => 0))), (q41, .inl (cyC, 3000, .inl (fun _ => 0))), (q3, .inl (cyC, 3000, .inl (fun _ => 0))), (q38, .inl (cyI, 1601, .inl (fun _ => 0))), (mo, .inr (9, [.int 0, .ref q68, .int 0, .ref q69, .ref q70, .ref q71, .ref q72, .ref q73, .ref q74, .ref q75, .ref q76, .ref q77, .int 0, .int 0, .int 0, .ref q78, .ref q79, .ref q80, .int 0, .ref q81, .ref q82, .ref q83, .ref q84, .int 0, .int 0, .int 0, .ref q85, .int 0, .ref q86, .int 0, .int 0, .ref q87, .ref q88, .ref q89, .ref q90, .ref q91, .ref q92, .int 0, .int 0, .ref q93, .int 0, .int 0, .int 0, .int 0, .int 0, .ref q94])), (q74, .inl (cyI, 801, .inl (fun _ => 0))), (q75, .inl (cyI, 801, .inl (fun _ => 0))), (q69, .inl (cyI, 801, .inl (fun _ => 0))), (q72, .inl (cyI, 801, .inl (fun _ => 0))), (q78, .inl (cyI, 3000, .inl (fun _ => 0))), (q79, .inl (cyI, 3000, .inl (fun _ => 0))), (q80, .inl (cyI, 3000, .inl (fun _ => 0))), (q81, .inl (cyI, 400, .inl (fun _ => 0))), (q82, .inl (cyI, 400, .inl (fun _ => 0))), (q83, .inl (cyI, 400, .inl (fun _ => 0))), (q84, .inl (cyI, 400, .inl (fun _ => 0))), (q85, .inl (cyI, 5000, .inl (fun _ => 0))), (q87, .inl (cyI, 3000, .inl (fun _ => 0))), (q88, .inl (cyI, 3000, .inl (fun _ => 0))), (q90, .inl (cyI, 3000, .inl (fun _ => 0))), (q91, .inl (cyI, 3000, .inl (fun _ => 0))), (q89, .inl (cyI, 3000, .inl (fun _ => 0)))]) (hS : va_S A s.heap H locs) (ls : Array Slot) (hl : lv_has ls 4 [(3, .int 0), (2, .ref mo), (1, .ref xo), (0, .ref b)]) : W p l e room_1 s m #[Value.ref b] below meth c H locs 66 148846 (lw_Z below #[Value.ref b] s) (F0 m 329 ls []) := by
  have hA : ∀ q : Nat, s.heap.size ≤ q → A q := fun q h => by rw [hAe]; exact h
  have hbA : ¬ A b := by rw [hAe]; exact Nat.not_le.mpr hbl
  refine lv_aload_n hx hb dL_law_329 rfl (lv_at hl 2 rfl) ?_
  refine zcVi (wr := [(mo, .inr (9, [.int 0, .ref q68, .int 0, .ref q69, .ref q70, .ref q71, .ref q72, .ref q73, .ref q74, .ref q75, .ref q76, .ref q77, .int 0, .int 0, .int 0, .ref q78, .ref q79, .ref q80, .int 0, .ref q81, .ref q82, .ref q83, .ref q84, .int 0, .int 0, .int 0, .ref q85, .int 0, .ref q86, .int 0, .int 0, .ref q87, .ref q88, .ref q89, .ref q90, .ref q91, .ref q92, .int 0, .int 0, .ref q93, .int 0, .int 0, .int 0, .int 0, .int 0, .ref q94])), (q74, .inl (cyI, 801, .inl (fun _ => 0))), (q75, .inl (cyI, 801, .inl (fun _ => 0))), (q69, .inl (cyI, 801, .inl (fun _ => 0))), (q72, .inl (cyI, 801, .inl (fun _ => 0))), (q78, .inl (cyI, 3000, .inl (fun _ => 0))), (q79, .inl (cyI, 3000, .inl (fun _ => 0))), (q80, .inl (cyI, 3000, .inl (fun _ => 0))), (q81, .inl (cyI, 400, .inl (fun _ => 0))), (q82, .inl (cyI, 400, .inl (fun _ => 0))), (q83, .inl (cyI, 400, .inl (fun _ => 0))), (q84, .inl (cyI, 400, .inl (fun _ => 0))), (q85, .inl (cyI, 5000, .inl (fun _ => 0))), (q87, .inl (cyI, 3000, .inl (fun _ => 0))), (q88, .inl (cyI, 3000, .inl (fun _ => 0))), (q90, .inl (cyI, 3000, .inl (fun _ => 0))), (q91, .inl (cyI, 3000, .inl (fun _ => 0))), (q89, .inl (cyI, 3000, .inl (fun _ => 0)))]) (rest := []) hx hb hml hown hts (k_X11_read_1 l dC dI cyI cyC xo q17 q4 q1 q42 q35 q57 q62 q36 q37 q39 q40 q58 q59 q60 q20 q63 q64 q41 q3 q38 (.ref q65) q22 (.int 0) (.ref q21) (.int 0) (.int 0) (.int 0) (.int 0) (.int 0) (.int 0) (.ref q11) (.ref q12) (.ref q13) (.ref q14) (.ref q15) (.ref q16) (.int 0) (.int 0) (.int 0) (.int 0) (.int 0) (.int 0) (.int 0) (.ref q4) (.ref q35) (.int 0) (.int 0) (.int 0) (.ref q61) (.int 0) (.int 0) (.int 0) (.int 0) (fun _ => 0) (fun _ => 0) (fun _ => 0) (fun _ => 0) (fun _ => 0) (fun _ => 0) (fun _ => 0) (fun _ => 0) (fun _ => 0) (fun _ => 0) (fun _ => 0) (fun _ => 0) (fun _ => 0)) zo_X11_read zv_X11_read mw_212 ⟨by decide, by decide⟩ hK hP hD hS hA [0, 1, 2, 3, 4, 5, 6, 7, 8, 9, 10, 11, 12, 13, 14, 15, 16, 17, 18, 19, 20] [21, 22, 23, 24, 25, 26, 27, 28, 29, 30, 31, 32, 33, 34, 35, 36, 37, 38] rfl rfl rfl rfl (by decide) rfl rfl hl.1 rfl rfl (Nat.le_of_ble_eq_true rfl) dL_law_330 ⟨by decide, by decide⟩ (fun r_236 w1 H locs hw hP hD hS => ?_)
  obtain ⟨rfl, rfl⟩ := hw
  have hP : va_P (dC, dI) vwCl [(mo, .inr (9, [.int 0, .ref q68, .int 0, .ref q69, .ref q70, .ref q71, .ref q72, .ref q73, .ref q74, .ref q75, .ref q76, .ref q77, .int 0, .int 0, .int 0, .ref q78, .ref q79, .ref q80, .int 0, .ref q81, .ref q82, .ref q83, .ref q84, .int 0, .int 0, .int 0, .ref q85, .int 0, .ref q86, .int 0, .int 0, .ref q87, .ref q88, .ref q89, .ref q90, .ref q91, .ref q92, .int 0, .int 0, .ref q93, .int 0, .int 0, .int 0, .int 0, .int 0, .ref q94])), (q74, .inl (cyI, 801, .inl (fun _ => 0))), (q75, .inl (cyI, 801, .inl (fun _ => 0))), (q69, .inl (cyI, 801, .inl (fun _ => 0))), (q72, .inl (cyI, 801, .inl (fun _ => 0))), (q78, .inl (cyI, 3000, .inl (fun _ => 0))), (q79, .inl (cyI, 3000, .inl (fun _ => 0))), (q80, .inl (cyI, 3000, .inl (fun _ => 0))), (q81, .inl (cyI, 400, .inl (fun _ => 0))), (q82, .inl (cyI, 400, .inl (fun _ => 0))), (q83, .inl (cyI, 400, .inl (fun _ => 0))), (q84, .inl (cyI, 400, .inl (fun _ => 0))), (q85, .inl (cyI, 5000, .inl (fun _ => 0))), (q87, .inl (cyI, 3000, .inl (fun _ => 0))), (q88, .inl (cyI, 3000, .inl (fun _ => 0))), (q90, .inl (cyI, 3000, .inl (fun _ => 0))), (q91, .inl (cyI, 3000, .inl (fun _ => 0))), (q89, .inl (cyI, 3000, .inl (fun _ => 0)))] H := hP
  have hD : va_D A [(mo, .inr (9, [.int 0, .ref q68, .int 0, .ref q69, .ref q70, .ref q71, .ref q72, .ref q73, .ref q74, .ref q75, .ref q76, .ref q77, .int 0, .int 0, .int 0, .ref q78, .ref q79, .ref q80, .int 0, .ref q81, .ref q82, .ref q83, .ref q84, .int 0, .int 0, .int 0, .ref q85, .int 0, .ref q86, .int 0, .int 0, .ref q87, .ref q88, .ref q89, .ref q90, .ref q91, .ref q92, .int 0, .int 0, .ref q93, .int 0, .int 0, .int 0, .int 0, .int 0, .ref q94])), (q74, .inl (cyI, 801, .inl (fun _ => 0))), (q75, .inl (cyI, 801, .inl (fun _ => 0))), (q69, .inl (cyI, 801, .inl (fun _ => 0))), (q72, .inl (cyI, 801, .inl (fun _ => 0))), (q78, .inl (cyI, 3000, .inl (fun _ => 0))), (q79, .inl (cyI, 3000, .inl (fun _ => 0))), (q80, .inl (cyI, 3000, .inl (fun _ => 0))), (q81, .inl (cyI, 400, .inl (fun _ => 0))), (q82, .inl (cyI, 400, .inl (fun _ => 0))), (q83, .inl (cyI, 400, .inl (fun _ => 0))), (q84, .inl (cyI, 400, .inl (fun _ => 0))), (q85, .inl (cyI, 5000, .inl (fun _ => 0))), (q87, .inl (cyI, 3000, .inl (fun _ => 0))), (q88, .inl (cyI, 3000, .inl (fun _ => 0))), (q90, .inl (cyI, 3000, .inl (fun _ => 0))), (q91, .inl (cyI, 3000, .inl (fun _ => 0))), (q89, .inl (cyI, 3000, .inl (fun _ => 0)))] := hD
  refine lv_aload_n hx hb dL_law_333 rfl (lv_at hl 1 rfl) ?_
  refine zcVi (wr := []) (rest := [.int 1]) hx hb hml hown hts (k_X12_read_1 l dC dI cyI cyC mo q74 q75 q69 q72 q78 q79 q80 q81 q82 q83 q84 q85 q87 q88 q90 q91 q89 (.ref q68) (.int 0) (.ref q70) (.ref q71) (.ref q73) (.ref q76) (.ref q77) (.int 0) (.int 0) (.int 0) (.int 0) (.int 0) (.int 0) (.int 0) (.int 0) (.ref q86) (.int 0) (.int 0) (.ref q92) (.int 0) (.ref q93) (.int 0) (.int 0) (.int 0) (.int 0) (.int 0) (.ref q94) (fun _ => 0) (fun _ => 0) (fun _ => 0) (fun _ => 0) (fun _ => 0) (fun _ => 0) (fun _ => 0) (fun _ => 0) (fun _ => 0) (fun _ => 0) (fun _ => 0) (fun _ => 0) (fun _ => 0) (fun _ => 0) (fun _ => 0) (fun _ => 0) (fun _ => 0)) zo_X12_read zv_X12_read mw_832 ⟨by decide, by decide⟩ hK hP hD hS hA [0, 1, 2, 3, 4, 5, 6, 7, 8, 9, 10, 11, 12, 13, 14, 15, 16, 17] [] rfl rfl rfl rfl (by decide) rfl rfl hl.1 rfl rfl (Nat.le_of_ble_eq_true rfl) dL_law_334 ⟨by decide, by decide⟩ (fun r_237 w1 H locs hw hP hD hS => ?_)
  obtain ⟨rfl, rfl⟩ := hw
  have hP : va_P (dC, dI) vwCl [] H := hP
  have hD : va_D A [] := hD
  refine lv_icmp_eq (tgt := 570) hx hb dL_law_337 (by decide) (fun _ => ?_) (fun h9 => absurd (by decide) h9)
  refine lv_iinc (v := 6) (lv' := [(3, .int 6), (2, .ref mo), (1, .ref xo), (0, .ref b)]) hx hb dL_law_570 hl (k := 0) rfl (by decide) (by decide) rfl (fun ls hl => ?_)
  refine lv_goto (tgt := 18) hx hb dL_law_573 (by decide) ?_
  refine lv_iload_n hx hb dL_law_18 rfl (lv_at hl 0 rfl) ?_
  refine lv_aload_n hx hb dL_law_19 rfl (lv_at hl 3 rfl) ?_
  refine va_slen hx hb hX hbl hbA hS dL_law_20 ?_
  refine zl_i (y := 6) rfl ?_
  refine lv_bipush (v := 6) hx hb dL_law_21 (by decide) ?_
  refine lv_isub hx hb dL_law_23 ?_
  refine zl_i (y := 0) (by decide) ?_
  refine lv_icmp_gt (tgt := 576) hx hb dL_law_24 (by decide) (fun _ => ?_) (fun h9 => absurd (by decide) h9)
  refine lv_iconst (v := 1) hx hb dL_law_576 (by decide) ?_
  refine va_forget (fun q hq => by have h7 := hS.2.2 q hq; rw [hAe] at h7; exact h7) ?_
  refine W.widen (k := 600000) (n := 7302250) (by decide) (by decide) ?_
  exact lw_ret hx hb hr hlocks dL_law_577
set_option maxRecDepth 100000 in
set_option maxHeartbeats 4000000 in
theorem law_op_6 {p : Program} {l : Launch} {e : Env} {s : State} {m : MethodId} {below : List Frame} {meth : Method} {c : Code} {dC : Nat → ClassId} {dI : Nat → Nat → Nat} {cyI cyC : ClassId} {A : Nat → Prop} {b : Nat} {xs : Nat → Int32} (hx : p.tables.exec = Jvm.exec) (hb : c.code = cL_law) (hr : meth.sig.returnType = ret) (hlocks : meth.locks = false) (hml : c.maxLocals = 4) (hown : s.vm.findClass RL = some m.cls) (hts : ∀ w ∈ wsL_law, w.before #[Value.ref b] s = true) (hX : va_X b 6 xs s s.heap) (hbl : b < s.heap.size) (hAe : A = fun q : Nat => s.heap.size ≤ q) (hK : va_K (dC, dI) vwCl (zT cyI cyC) s) (xo q1 q4 q17 q42 q65 q22 q35 mo q68 q69 q70 q71 q72 q73 q74 q75 q76 q77 q78 q79 q80 q81 q82 q83 q84 q85 q86 q87 q88 q89 q90 q91 q92 q93 q94 : Nat) (H : Heap) (locs : List Loc) (hP : va_P (dC, dI) vwCl [(xo, .inr (8, [.ref q1, .ref q4, .ref q17, .ref q42, .ref q65, .ref q22, .ref q35, .int 0, .int 0])), (mo, .inr (9, [.int 0, .ref q68, .int 0, .ref q69, .ref q70, .ref q71, .ref q72, .ref q73, .ref q74, .ref q75, .ref q76, .ref q77, .int 0, .int 0, .int 0, .ref q78, .ref q79, .ref q80, .int 0, .ref q81, .ref q82, .ref q83, .ref q84, .int 0, .int 0, .int 0, .ref q85, .int 0, .ref q86, .int 0, .int 0, .ref q87, .ref q88, .ref q89, .ref q90, .ref q91, .ref q92, .int 0, .int 0, .ref q93, .int 0, .int 0, .int 0, .int 0, .int 0, .ref q94]))] H) (hD : va_D A [(xo, .inr (8, [.ref q1, .ref q4, .ref q17, .ref q42, .ref q65, .ref q22, .ref q35, .int 0, .int 0])), (mo, .inr (9, [.int 0, .ref q68, .int 0, .ref q69, .ref q70, .ref q71, .ref q72, .ref q73, .ref q74, .ref q75, .ref q76, .ref q77, .int 0, .int 0, .int 0, .ref q78, .ref q79, .ref q80, .int 0, .ref q81, .ref q82, .ref q83, .ref q84, .int 0, .int 0, .int 0, .ref q85, .int 0, .ref q86, .int 0, .int 0, .ref q87, .ref q88, .ref q89, .ref q90, .ref q91, .ref q92, .int 0, .int 0, .ref q93, .int 0, .int 0, .int 0, .int 0, .int 0, .ref q94]))]) (hS : va_S A s.heap H locs) (ls : Array Slot) (hl : lv_has ls 4 [(3, .int 0), (2, .ref mo), (1, .ref xo), (0, .ref b)]) : W p l e room_1 s m #[Value.ref b] below meth c H locs 66 148846 (lw_Z below #[Value.ref b] s) (F0 m 342 ls []) := by
  have hA : ∀ q : Nat, s.heap.size ≤ q → A q := fun q h => by rw [hAe]; exact h
  have hbA : ¬ A b := by rw [hAe]; exact Nat.not_le.mpr hbl
  refine lv_aload_n hx hb dL_law_342 rfl (lv_at hl 2 rfl) ?_
  refine zcVi (wr := [(mo, .inr (9, [.int 0, .ref q68, .int 0, .ref q69, .ref q70, .ref q71, .ref q72, .ref q73, .ref q74, .ref q75, .ref q76, .ref q77, .int 0, .int 0, .int 0, .ref q78, .ref q79, .ref q80, .int 0, .ref q81, .ref q82, .ref q83, .ref q84, .int 0, .int 0, .int 0, .ref q85, .int 0, .ref q86, .int 0, .int 0, .ref q87, .ref q88, .ref q89, .ref q90, .ref q91, .ref q92, .int 0, .int 0, .ref q93, .int 0, .int 0, .int 0, .int 0, .int 0, .ref q94]))]) (rest := []) hx hb hml hown hts (k_X11_fault_1 l dC dI cyI cyC xo (.ref q1) (.ref q4) (.ref q17) (.ref q42) (.ref q65) (.ref q22) (.ref q35) (.int 0)) zo_X11_fault zv_X11_fault mw_1022 ⟨by decide, by decide⟩ hK hP hD hS hA [0] [1] rfl rfl rfl rfl (by decide) rfl rfl hl.1 rfl rfl (Nat.le_of_ble_eq_true rfl) dL_law_343 ⟨by decide, by decide⟩ (fun r_238 w1 H locs hw hP hD hS => ?_)
  obtain ⟨rfl, rfl⟩ := hw
  have hP : va_P (dC, dI) vwCl [(mo, .inr (9, [.int 0, .ref q68, .int 0, .ref q69, .ref q70, .ref q71, .ref q72, .ref q73, .ref q74, .ref q75, .ref q76, .ref q77, .int 0, .int 0, .int 0, .ref q78, .ref q79, .ref q80, .int 0, .ref q81, .ref q82, .ref q83, .ref q84, .int 0, .int 0, .int 0, .ref q85, .int 0, .ref q86, .int 0, .int 0, .ref q87, .ref q88, .ref q89, .ref q90, .ref q91, .ref q92, .int 0, .int 0, .ref q93, .int 0, .int 0, .int 0, .int 0, .int 0, .ref q94]))] H := hP
  have hD : va_D A [(mo, .inr (9, [.int 0, .ref q68, .int 0, .ref q69, .ref q70, .ref q71, .ref q72, .ref q73, .ref q74, .ref q75, .ref q76, .ref q77, .int 0, .int 0, .int 0, .ref q78, .ref q79, .ref q80, .int 0, .ref q81, .ref q82, .ref q83, .ref q84, .int 0, .int 0, .int 0, .ref q85, .int 0, .ref q86, .int 0, .int 0, .ref q87, .ref q88, .ref q89, .ref q90, .ref q91, .ref q92, .int 0, .int 0, .ref q93, .int 0, .int 0, .int 0, .int 0, .int 0, .ref q94]))] := hD
  refine lv_aload_n hx hb dL_law_346 rfl (lv_at hl 1 rfl) ?_
  refine zcVi (wr := []) (rest := [.int 0]) hx hb hml hown hts (k_X12_fault_1 l dC dI cyI cyC mo (.int 0) (.ref q68) (.int 0) (.ref q69) (.ref q70) (.ref q71) (.ref q72) (.ref q73) (.ref q74) (.ref q75) (.ref q76) (.ref q77) (.int 0) (.int 0) (.ref q78) (.ref q79) (.ref q80) (.int 0) (.ref q81) (.ref q82) (.ref q83) (.ref q84) (.int 0) (.int 0) (.int 0) (.ref q85) (.int 0) (.ref q86) (.int 0) (.int 0) (.ref q87) (.ref q88) (.ref q89) (.ref q90) (.ref q91) (.ref q92) (.int 0) (.int 0) (.ref q93) (.int 0) (.int 0) (.int 0) (.int 0) (.int 0) (.ref q94)) zo_X12_fault zv_X12_fault mw_1026 ⟨by decide, by decide⟩ hK hP hD hS hA [0] [] rfl rfl rfl rfl (by decide) rfl rfl hl.1 rfl rfl (Nat.le_of_ble_eq_true rfl) dL_law_347 ⟨by decide, by decide⟩ (fun r_239 w1 H locs hw hP hD hS => ?_)
  obtain ⟨rfl, rfl⟩ := hw
  have hP : va_P (dC, dI) vwCl [] H := hP
  have hD : va_D A [] := hD
  refine lv_icmp_eq (tgt := 570) hx hb dL_law_350 (by decide) (fun _ => ?_) (fun h9 => absurd (by decide) h9)
  refine lv_iinc (v := 6) (lv' := [(3, .int 6), (2, .ref mo), (1, .ref xo), (0, .ref b)]) hx hb dL_law_570 hl (k := 0) rfl (by decide) (by decide) rfl (fun ls hl => ?_)
  refine lv_goto (tgt := 18) hx hb dL_law_573 (by decide) ?_
  refine lv_iload_n hx hb dL_law_18 rfl (lv_at hl 0 rfl) ?_
  refine lv_aload_n hx hb dL_law_19 rfl (lv_at hl 3 rfl) ?_
  refine va_slen hx hb hX hbl hbA hS dL_law_20 ?_
  refine zl_i (y := 6) rfl ?_
  refine lv_bipush (v := 6) hx hb dL_law_21 (by decide) ?_
  refine lv_isub hx hb dL_law_23 ?_
  refine zl_i (y := 0) (by decide) ?_
  refine lv_icmp_gt (tgt := 576) hx hb dL_law_24 (by decide) (fun _ => ?_) (fun h9 => absurd (by decide) h9)
  refine lv_iconst (v := 1) hx hb dL_law_576 (by decide) ?_
  refine va_forget (fun q hq => by have h7 := hS.2.2 q hq; rw [hAe] at h7; exact h7) ?_
  refine W.widen (k := 600000) (n := 7302250) (by decide) (by decide) ?_
  exact lw_ret hx hb hr hlocks dL_law_577
set_option maxRecDepth 100000 in
set_option maxHeartbeats 4000000 in
theorem law_op_7 {p : Program} {l : Launch} {e : Env} {s : State} {m : MethodId} {below : List Frame} {meth : Method} {c : Code} {dC : Nat → ClassId} {dI : Nat → Nat → Nat} {cyI cyC : ClassId} {A : Nat → Prop} {b : Nat} {xs : Nat → Int32} (hx : p.tables.exec = Jvm.exec) (hb : c.code = cL_law) (hr : meth.sig.returnType = ret) (hlocks : meth.locks = false) (hml : c.maxLocals = 4) (hown : s.vm.findClass RL = some m.cls) (hts : ∀ w ∈ wsL_law, w.before #[Value.ref b] s = true) (hX : va_X b 6 xs s s.heap) (hbl : b < s.heap.size) (hAe : A = fun q : Nat => s.heap.size ≤ q) (hK : va_K (dC, dI) vwCl (zT cyI cyC) s) (xo q1 q4 q17 q42 q65 q22 q35 q11 q12 q13 q14 q15 q16 mo q68 q69 q70 q71 q72 q73 q74 q75 q76 q77 q78 q79 q80 q81 q82 q83 q84 q85 q86 q87 q88 q89 q90 q91 q92 q93 q94 : Nat) (H : Heap) (locs : List Loc) (hP : va_P (dC, dI) vwCl [(xo, .inr (8, [.ref q1, .ref q4, .ref q17, .ref q42, .ref q65, .ref q22, .ref q35, .int 0, .int 0])), (q4, .inr (1, [.ref q1, .ref q11, .ref q12, .ref q13, .ref q14, .ref q15, .ref q16, .int 0, .int 0, .int 0, .int 0, .int 0, .int 0, .int 0])), (mo, .inr (9, [.int 0, .ref q68, .int 0, .ref q69, .ref q70, .ref q71, .ref q72, .ref q73, .ref q74, .ref q75, .ref q76, .ref q77, .int 0, .int 0, .int 0, .ref q78, .ref q79, .ref q80, .int 0, .ref q81, .ref q82, .ref q83, .ref q84, .int 0, .int 0, .int 0, .ref q85, .int 0, .ref q86, .int 0, .int 0, .ref q87, .ref q88, .ref q89, .ref q90, .ref q91, .ref q92, .int 0, .int 0, .ref q93, .int 0, .int 0, .int 0, .int 0, .int 0, .ref q94]))] H) (hD : va_D A [(xo, .inr (8, [.ref q1, .ref q4, .ref q17, .ref q42, .ref q65, .ref q22, .ref q35, .int 0, .int 0])), (q4, .inr (1, [.ref q1, .ref q11, .ref q12, .ref q13, .ref q14, .ref q15, .ref q16, .int 0, .int 0, .int 0, .int 0, .int 0, .int 0, .int 0])), (mo, .inr (9, [.int 0, .ref q68, .int 0, .ref q69, .ref q70, .ref q71, .ref q72, .ref q73, .ref q74, .ref q75, .ref q76, .ref q77, .int 0, .int 0, .int 0, .ref q78, .ref q79, .ref q80, .int 0, .ref q81, .ref q82, .ref q83, .ref q84, .int 0, .int 0, .int 0, .ref q85, .int 0, .ref q86, .int 0, .int 0, .ref q87, .ref q88, .ref q89, .ref q90, .ref q91, .ref q92, .int 0, .int 0, .ref q93, .int 0, .int 0, .int 0, .int 0, .int 0, .ref q94]))]) (hS : va_S A s.heap H locs) (ls : Array Slot) (hl : lv_has ls 4 [(3, .int 0), (2, .ref mo), (1, .ref xo), (0, .ref b)]) : W p l e room_1 s m #[Value.ref b] below meth c H locs 66 148846 (lw_Z below #[Value.ref b] s) (F0 m 355 ls []) := by
  have hA : ∀ q : Nat, s.heap.size ≤ q → A q := fun q h => by rw [hAe]; exact h
  have hbA : ¬ A b := by rw [hAe]; exact Nat.not_le.mpr hbl
  refine lv_aload_n hx hb dL_law_355 rfl (lv_at hl 2 rfl) ?_
  refine lv_aload_n hx hb dL_law_356 rfl (lv_at hl 3 rfl) ?_
  refine lv_iload_n hx hb dL_law_357 rfl (lv_at hl 0 rfl) ?_
  refine lv_iconst (v := 1) hx hb dL_law_358 (by decide) ?_
  refine lv_iadd hx hb dL_law_359 ?_
  refine zl_i (y := 1) (by decide) ?_
  refine va_sld hx hb hX hbl hbA hS (zin (by decide)) dL_law_360 ?_
  refine zl_i (y := xs 1) rfl ?_
  refine lv_aload_n hx hb dL_law_361 rfl (lv_at hl 3 rfl) ?_
  refine lv_iload_n hx hb dL_law_362 rfl (lv_at hl 0 rfl) ?_
  refine lv_iconst (v := 2) hx hb dL_law_363 (by decide) ?_
  refine lv_iadd hx hb dL_law_364 ?_
  refine zl_i (y := 2) (by decide) ?_
  refine va_sld hx hb hX hbl hbA hS (zin (by decide)) dL_law_365 ?_
  refine zl_i (y := xs 2) rfl ?_
  refine zcVi (wr := [(mo, .inr (9, [.int 0, .ref q68, .int 0, .ref q69, .ref q70, .ref q71, .ref q72, .ref q73, .ref q74, .ref q75, .ref q76, .ref q77, .int 0, .int 0, .int 0, .ref q78, .ref q79, .ref q80, .int 0, .ref q81, .ref q82, .ref q83, .ref q84, .int 0, .int 0, .int 0, .ref q85, .int 0, .ref q86, .int 0, .int 0, .ref q87, .ref q88, .ref q89, .ref q90, .ref q91, .ref q92, .int 0, .int 0, .ref q93, .int 0, .int 0, .int 0, .int 0, .int 0, .ref q94]))]) (rest := []) hx hb hml hown hts (k_X11_lexeme_1 l dC dI cyI cyC xo q4 (.ref q1) (.ref q17) (.ref q42) (.ref q65) (.ref q22) (.ref q35) (.int 0) (.int 0) (.ref q1) (.ref q11) (.ref q12) (.ref q13) (.ref q14) (.ref q15) (.ref q16) (.int 0) (.int 0) (.int 0) (.int 0) (.int 0) (.int 0) (xs 1) (xs 2)) zo_X11_lexeme zv_X11_lexeme mw_1030 ⟨by decide, by decide⟩ hK hP hD hS hA [0, 1] [2] rfl rfl rfl rfl (by decide) rfl rfl hl.1 rfl rfl (Nat.le_of_ble_eq_true rfl) dL_law_366 ⟨by decide, by decide⟩ (fun r_240 w1 H locs hw hP hD hS => ?_)
  obtain ⟨er_240, rfl⟩ := hw
  have hP : va_P (dC, dI) vwCl [(mo, .inr (9, [.int 0, .ref q68, .int 0, .ref q69, .ref q70, .ref q71, .ref q72, .ref q73, .ref q74, .ref q75, .ref q76, .ref q77, .int 0, .int 0, .int 0, .ref q78, .ref q79, .ref q80, .int 0, .ref q81, .ref q82, .ref q83, .ref q84, .int 0, .int 0, .int 0, .ref q85, .int 0, .ref q86, .int 0, .int 0, .ref q87, .ref q88, .ref q89, .ref q90, .ref q91, .ref q92, .int 0, .int 0, .ref q93, .int 0, .int 0, .int 0, .int 0, .int 0, .ref q94]))] H := hP
  have hD : va_D A [(mo, .inr (9, [.int 0, .ref q68, .int 0, .ref q69, .ref q70, .ref q71, .ref q72, .ref q73, .ref q74, .ref q75, .ref q76, .ref q77, .int 0, .int 0, .int 0, .ref q78, .ref q79, .ref q80, .int 0, .ref q81, .ref q82, .ref q83, .ref q84, .int 0, .int 0, .int 0, .ref q85, .int 0, .ref q86, .int 0, .int 0, .ref q87, .ref q88, .ref q89, .ref q90, .ref q91, .ref q92, .int 0, .int 0, .ref q93, .int 0, .int 0, .int 0, .int 0, .int 0, .ref q94]))] := hD
  refine lv_aload_n hx hb dL_law_369 rfl (lv_at hl 1 rfl) ?_
  refine lv_aload_n hx hb dL_law_370 rfl (lv_at hl 3 rfl) ?_
  refine lv_iload_n hx hb dL_law_371 rfl (lv_at hl 0 rfl) ?_
  refine lv_iconst (v := 1) hx hb dL_law_372 (by decide) ?_
  refine lv_iadd hx hb dL_law_373 ?_
  refine zl_i (y := 1) (by decide) ?_
  refine va_sld hx hb hX hbl hbA hS (zin (by decide)) dL_law_374 ?_
  refine zl_i (y := xs 1) rfl ?_
  refine lv_aload_n hx hb dL_law_375 rfl (lv_at hl 3 rfl) ?_
  refine lv_iload_n hx hb dL_law_376 rfl (lv_at hl 0 rfl) ?_
  refine lv_iconst (v := 2) hx hb dL_law_377 (by decide) ?_
  refine lv_iadd hx hb dL_law_378 ?_
  refine zl_i (y := 2) (by decide) ?_
  refine va_sld hx hb hX hbl hbA hS (zin (by decide)) dL_law_379 ?_
  refine zl_i (y := xs 2) rfl ?_
  refine zcVi (wr := []) (rest := [.int r_240]) hx hb hml hown hts (k_X12_lexeme_1 l dC dI cyI cyC mo (.int 0) (.ref q68) (.ref q69) (.ref q70) (.ref q71) (.ref q72) (.ref q73) (.ref q74) (.ref q75) (.ref q76) (.ref q77) (.int 0) (.int 0) (.int 0) (.ref q78) (.ref q79) (.ref q80) (.int 0) (.ref q81) (.ref q82) (.ref q83) (.ref q84) (.int 0) (.int 0) (.int 0) (.ref q85) (.int 0) (.ref q86) (.int 0) (.int 0) (.ref q87) (.ref q88) (.ref q89) (.ref q90) (.ref q91) (.ref q92) (.int 0) (.int 0) (.ref q93) (.int 0) (.int 0) (.int 0) (.int 0) (.int 0) (.ref q94) (xs 1) (xs 2)) zo_X12_lexeme zv_X12_lexeme mw_1050 ⟨by decide, by decide⟩ hK hP hD hS hA [0] [] rfl rfl rfl rfl (by decide) rfl rfl hl.1 rfl rfl (Nat.le_of_ble_eq_true rfl) dL_law_380 ⟨by decide, by decide⟩ (fun r_241 w1 H locs hw hP hD hS => ?_)
  obtain ⟨er_241, rfl⟩ := hw
  have hP : va_P (dC, dI) vwCl [] H := hP
  have hD : va_D A [] := hD
  refine lv_icmp_eq (tgt := 570) hx hb dL_law_383 (by decide) (fun _ => ?_) (fun h9 => absurd (er_240.trans er_241.symm) h9)
  refine lv_iinc (v := 6) (lv' := [(3, .int 6), (2, .ref mo), (1, .ref xo), (0, .ref b)]) hx hb dL_law_570 hl (k := 0) rfl (by decide) (by decide) rfl (fun ls hl => ?_)
  refine lv_goto (tgt := 18) hx hb dL_law_573 (by decide) ?_
  refine lv_iload_n hx hb dL_law_18 rfl (lv_at hl 0 rfl) ?_
  refine lv_aload_n hx hb dL_law_19 rfl (lv_at hl 3 rfl) ?_
  refine va_slen hx hb hX hbl hbA hS dL_law_20 ?_
  refine zl_i (y := 6) rfl ?_
  refine lv_bipush (v := 6) hx hb dL_law_21 (by decide) ?_
  refine lv_isub hx hb dL_law_23 ?_
  refine zl_i (y := 0) (by decide) ?_
  refine lv_icmp_gt (tgt := 576) hx hb dL_law_24 (by decide) (fun _ => ?_) (fun h9 => absurd (by decide) h9)
  refine lv_iconst (v := 1) hx hb dL_law_576 (by decide) ?_
  refine va_forget (fun q hq => by have h7 := hS.2.2 q hq; rw [hAe] at h7; exact h7) ?_
  refine W.widen (k := 600000) (n := 7302250) (by decide) (by decide) ?_
  exact lw_ret hx hb hr hlocks dL_law_577
set_option maxRecDepth 100000 in
set_option maxHeartbeats 4000000 in
theorem law_op_8 {p : Program} {l : Launch} {e : Env} {s : State} {m : MethodId} {below : List Frame} {meth : Method} {c : Code} {dC : Nat → ClassId} {dI : Nat → Nat → Nat} {cyI cyC : ClassId} {A : Nat → Prop} {b : Nat} {xs : Nat → Int32} (hx : p.tables.exec = Jvm.exec) (hb : c.code = cL_law) (hr : meth.sig.returnType = ret) (hlocks : meth.locks = false) (hml : c.maxLocals = 4) (hown : s.vm.findClass RL = some m.cls) (hts : ∀ w ∈ wsL_law, w.before #[Value.ref b] s = true) (hX : va_X b 6 xs s s.heap) (hbl : b < s.heap.size) (hAe : A = fun q : Nat => s.heap.size ≤ q) (hK : va_K (dC, dI) vwCl (zT cyI cyC) s) (xo q1 q4 q17 q42 q65 q22 q35 q20 q21 mo q68 q69 q70 q71 q72 q73 q74 q75 q76 q77 q78 q79 q80 q81 q82 q83 q84 q85 q86 q87 q88 q89 q90 q91 q92 q93 q94 : Nat) (H : Heap) (locs : List Loc) (hP : va_P (dC, dI) vwCl [(xo, .inr (8, [.ref q1, .ref q4, .ref q17, .ref q42, .ref q65, .ref q22, .ref q35, .int 0, .int 0])), (q17, .inr (0, [.ref q4, .ref q20, .ref q21, .int 0, .int 0, .int 0, .int 0, .int 0, .int 0])), (mo, .inr (9, [.int 0, .ref q68, .int 0, .ref q69, .ref q70, .ref q71, .ref q72, .ref q73, .ref q74, .ref q75, .ref q76, .ref q77, .int 0, .int 0, .int 0, .ref q78, .ref q79, .ref q80, .int 0, .ref q81, .ref q82, .ref q83, .ref q84, .int 0, .int 0, .int 0, .ref q85, .int 0, .ref q86, .int 0, .int 0, .ref q87, .ref q88, .ref q89, .ref q90, .ref q91, .ref q92, .int 0, .int 0, .ref q93, .int 0, .int 0, .int 0, .int 0, .int 0, .ref q94]))] H) (hD : va_D A [(xo, .inr (8, [.ref q1, .ref q4, .ref q17, .ref q42, .ref q65, .ref q22, .ref q35, .int 0, .int 0])), (q17, .inr (0, [.ref q4, .ref q20, .ref q21, .int 0, .int 0, .int 0, .int 0, .int 0, .int 0])), (mo, .inr (9, [.int 0, .ref q68, .int 0, .ref q69, .ref q70, .ref q71, .ref q72, .ref q73, .ref q74, .ref q75, .ref q76, .ref q77, .int 0, .int 0, .int 0, .ref q78, .ref q79, .ref q80, .int 0, .ref q81, .ref q82, .ref q83, .ref q84, .int 0, .int 0, .int 0, .ref q85, .int 0, .ref q86, .int 0, .int 0, .ref q87, .ref q88, .ref q89, .ref q90, .ref q91, .ref q92, .int 0, .int 0, .ref q93, .int 0, .int 0, .int 0, .int 0, .int 0, .ref q94]))]) (hS : va_S A s.heap H locs) (ls : Array Slot) (hl : lv_has ls 4 [(3, .int 0), (2, .ref mo), (1, .ref xo), (0, .ref b)]) : W p l e room_1 s m #[Value.ref b] below meth c H locs 66 148846 (lw_Z below #[Value.ref b] s) (F0 m 388 ls []) := by
  have hA : ∀ q : Nat, s.heap.size ≤ q → A q := fun q h => by rw [hAe]; exact h
  have hbA : ¬ A b := by rw [hAe]; exact Nat.not_le.mpr hbl
  refine lv_aload_n hx hb dL_law_388 rfl (lv_at hl 2 rfl) ?_
  refine lv_aload_n hx hb dL_law_389 rfl (lv_at hl 3 rfl) ?_
  refine lv_iload_n hx hb dL_law_390 rfl (lv_at hl 0 rfl) ?_
  refine lv_iconst (v := 1) hx hb dL_law_391 (by decide) ?_
  refine lv_iadd hx hb dL_law_392 ?_
  refine zl_i (y := 1) (by decide) ?_
  refine va_sld hx hb hX hbl hbA hS (zin (by decide)) dL_law_393 ?_
  refine zl_i (y := xs 1) rfl ?_
  refine zcVi (wr := [(mo, .inr (9, [.int 0, .ref q68, .int 0, .ref q69, .ref q70, .ref q71, .ref q72, .ref q73, .ref q74, .ref q75, .ref q76, .ref q77, .int 0, .int 0, .int 0, .ref q78, .ref q79, .ref q80, .int 0, .ref q81, .ref q82, .ref q83, .ref q84, .int 0, .int 0, .int 0, .ref q85, .int 0, .ref q86, .int 0, .int 0, .ref q87, .ref q88, .ref q89, .ref q90, .ref q91, .ref q92, .int 0, .int 0, .ref q93, .int 0, .int 0, .int 0, .int 0, .int 0, .ref q94]))]) (rest := []) hx hb hml hown hts (k_X11_token_1 l dC dI cyI cyC xo q17 (.ref q1) (.ref q4) (.ref q42) (.ref q65) (.ref q22) (.ref q35) (.int 0) (.int 0) (.ref q4) (.ref q20) (.ref q21) (.int 0) (.int 0) (.int 0) (.int 0) (.int 0) (xs 1)) zo_X11_token zv_X11_token mw_1055 ⟨by decide, by decide⟩ hK hP hD hS hA [0, 1] [2] rfl rfl rfl rfl (by decide) rfl rfl hl.1 rfl rfl (Nat.le_of_ble_eq_true rfl) dL_law_394 ⟨by decide, by decide⟩ (fun r_242 w1 H locs hw hP hD hS => ?_)
  obtain ⟨rfl, rfl⟩ := hw
  have hP : va_P (dC, dI) vwCl [(mo, .inr (9, [.int 0, .ref q68, .int 0, .ref q69, .ref q70, .ref q71, .ref q72, .ref q73, .ref q74, .ref q75, .ref q76, .ref q77, .int 0, .int 0, .int 0, .ref q78, .ref q79, .ref q80, .int 0, .ref q81, .ref q82, .ref q83, .ref q84, .int 0, .int 0, .int 0, .ref q85, .int 0, .ref q86, .int 0, .int 0, .ref q87, .ref q88, .ref q89, .ref q90, .ref q91, .ref q92, .int 0, .int 0, .ref q93, .int 0, .int 0, .int 0, .int 0, .int 0, .ref q94]))] H := hP
  have hD : va_D A [(mo, .inr (9, [.int 0, .ref q68, .int 0, .ref q69, .ref q70, .ref q71, .ref q72, .ref q73, .ref q74, .ref q75, .ref q76, .ref q77, .int 0, .int 0, .int 0, .ref q78, .ref q79, .ref q80, .int 0, .ref q81, .ref q82, .ref q83, .ref q84, .int 0, .int 0, .int 0, .ref q85, .int 0, .ref q86, .int 0, .int 0, .ref q87, .ref q88, .ref q89, .ref q90, .ref q91, .ref q92, .int 0, .int 0, .ref q93, .int 0, .int 0, .int 0, .int 0, .int 0, .ref q94]))] := hD
  refine lv_aload_n hx hb dL_law_397 rfl (lv_at hl 1 rfl) ?_
  refine lv_aload_n hx hb dL_law_398 rfl (lv_at hl 3 rfl) ?_
  refine lv_iload_n hx hb dL_law_399 rfl (lv_at hl 0 rfl) ?_
  refine lv_iconst (v := 1) hx hb dL_law_400 (by decide) ?_
  refine lv_iadd hx hb dL_law_401 ?_
  refine zl_i (y := 1) (by decide) ?_
  refine va_sld hx hb hX hbl hbA hS (zin (by decide)) dL_law_402 ?_
  refine zl_i (y := xs 1) rfl ?_
  refine zcVi (wr := []) (rest := [.int (-1)]) hx hb hml hown hts (k_X12_token_1 l dC dI cyI cyC mo (.int 0) (.ref q68) (.int 0) (.ref q69) (.ref q70) (.ref q71) (.ref q72) (.ref q73) (.ref q74) (.ref q75) (.ref q76) (.ref q77) (.int 0) (.int 0) (.int 0) (.ref q78) (.ref q79) (.ref q80) (.int 0) (.ref q81) (.ref q82) (.ref q83) (.ref q84) (.int 0) (.int 0) (.ref q85) (.int 0) (.ref q86) (.int 0) (.int 0) (.ref q87) (.ref q88) (.ref q89) (.ref q90) (.ref q91) (.ref q92) (.int 0) (.int 0) (.ref q93) (.int 0) (.int 0) (.int 0) (.int 0) (.int 0) (.ref q94) (xs 1)) zo_X12_token zv_X12_token mw_1063 ⟨by decide, by decide⟩ hK hP hD hS hA [0] [] rfl rfl rfl rfl (by decide) rfl rfl hl.1 rfl rfl (Nat.le_of_ble_eq_true rfl) dL_law_403 ⟨by decide, by decide⟩ (fun r_243 w1 H locs hw hP hD hS => ?_)
  obtain ⟨rfl, rfl⟩ := hw
  have hP : va_P (dC, dI) vwCl [] H := hP
  have hD : va_D A [] := hD
  refine lv_icmp_eq (tgt := 570) hx hb dL_law_406 (by decide) (fun _ => ?_) (fun h9 => absurd (by decide) h9)
  refine lv_iinc (v := 6) (lv' := [(3, .int 6), (2, .ref mo), (1, .ref xo), (0, .ref b)]) hx hb dL_law_570 hl (k := 0) rfl (by decide) (by decide) rfl (fun ls hl => ?_)
  refine lv_goto (tgt := 18) hx hb dL_law_573 (by decide) ?_
  refine lv_iload_n hx hb dL_law_18 rfl (lv_at hl 0 rfl) ?_
  refine lv_aload_n hx hb dL_law_19 rfl (lv_at hl 3 rfl) ?_
  refine va_slen hx hb hX hbl hbA hS dL_law_20 ?_
  refine zl_i (y := 6) rfl ?_
  refine lv_bipush (v := 6) hx hb dL_law_21 (by decide) ?_
  refine lv_isub hx hb dL_law_23 ?_
  refine zl_i (y := 0) (by decide) ?_
  refine lv_icmp_gt (tgt := 576) hx hb dL_law_24 (by decide) (fun _ => ?_) (fun h9 => absurd (by decide) h9)
  refine lv_iconst (v := 1) hx hb dL_law_576 (by decide) ?_
  refine va_forget (fun q hq => by have h7 := hS.2.2 q hq; rw [hAe] at h7; exact h7) ?_
  refine W.widen (k := 600000) (n := 7302250) (by decide) (by decide) ?_
  exact lw_ret hx hb hr hlocks dL_law_577
set_option maxRecDepth 100000 in
set_option maxHeartbeats 4000000 in
theorem law_op_9 {p : Program} {l : Launch} {e : Env} {s : State} {m : MethodId} {below : List Frame} {meth : Method} {c : Code} {dC : Nat → ClassId} {dI : Nat → Nat → Nat} {cyI cyC : ClassId} {A : Nat → Prop} {b : Nat} {xs : Nat → Int32} (hx : p.tables.exec = Jvm.exec) (hb : c.code = cL_law) (hr : meth.sig.returnType = ret) (hlocks : meth.locks = false) (hml : c.maxLocals = 4) (hown : s.vm.findClass RL = some m.cls) (hts : ∀ w ∈ wsL_law, w.before #[Value.ref b] s = true) (hX : va_X b 6 xs s s.heap) (hbl : b < s.heap.size) (hAe : A = fun q : Nat => s.heap.size ≤ q) (hK : va_K (dC, dI) vwCl (zT cyI cyC) s) (xo q1 q4 q17 q42 q65 q22 q35 q3 q11 q12 q13 q14 q15 q16 q20 q21 q29 q30 q31 q32 q33 q34 mo q68 q69 q70 q71 q72 q73 q74 q75 q76 q77 q78 q79 q80 q81 q82 q83 q84 q85 q86 q87 q88 q89 q90 q91 q92 q93 q94 : Nat) (H : Heap) (locs : List Loc) (hP : va_P (dC, dI) vwCl [(xo, .inr (8, [.ref q1, .ref q4, .ref q17, .ref q42, .ref q65, .ref q22, .ref q35, .int 0, .int 0])), (q1, .inr (5, [.ref q3, .int 0])), (q4, .inr (1, [.ref q1, .ref q11, .ref q12, .ref q13, .ref q14, .ref q15, .ref q16, .int 0, .int 0, .int 0, .int 0, .int 0, .int 0, .int 0])), (q17, .inr (0, [.ref q4, .ref q20, .ref q21, .int 0, .int 0, .int 0, .int 0, .int 0, .int 0])), (q22, .inr (6, [.ref q29, .ref q30, .ref q31, .ref q32, .ref q33, .ref q34, .int 0])), (mo, .inr (9, [.int 0, .ref q68, .int 0, .ref q69, .ref q70, .ref q71, .ref q72, .ref q73, .ref q74, .ref q75, .ref q76, .ref q77, .int 0, .int 0, .int 0, .ref q78, .ref q79, .ref q80, .int 0, .ref q81, .ref q82, .ref q83, .ref q84, .int 0, .int 0, .int 0, .ref q85, .int 0, .ref q86, .int 0, .int 0, .ref q87, .ref q88, .ref q89, .ref q90, .ref q91, .ref q92, .int 0, .int 0, .ref q93, .int 0, .int 0, .int 0, .int 0, .int 0, .ref q94]))] H) (hD : va_D A [(xo, .inr (8, [.ref q1, .ref q4, .ref q17, .ref q42, .ref q65, .ref q22, .ref q35, .int 0, .int 0])), (q1, .inr (5, [.ref q3, .int 0])), (q4, .inr (1, [.ref q1, .ref q11, .ref q12, .ref q13, .ref q14, .ref q15, .ref q16, .int 0, .int 0, .int 0, .int 0, .int 0, .int 0, .int 0])), (q17, .inr (0, [.ref q4, .ref q20, .ref q21, .int 0, .int 0, .int 0, .int 0, .int 0, .int 0])), (q22, .inr (6, [.ref q29, .ref q30, .ref q31, .ref q32, .ref q33, .ref q34, .int 0])), (mo, .inr (9, [.int 0, .ref q68, .int 0, .ref q69, .ref q70, .ref q71, .ref q72, .ref q73, .ref q74, .ref q75, .ref q76, .ref q77, .int 0, .int 0, .int 0, .ref q78, .ref q79, .ref q80, .int 0, .ref q81, .ref q82, .ref q83, .ref q84, .int 0, .int 0, .int 0, .ref q85, .int 0, .ref q86, .int 0, .int 0, .ref q87, .ref q88, .ref q89, .ref q90, .ref q91, .ref q92, .int 0, .int 0, .ref q93, .int 0, .int 0, .int 0, .int 0, .int 0, .ref q94]))]) (hS : va_S A s.heap H locs) (ls : Array Slot) (hl : lv_has ls 4 [(3, .int 0), (2, .ref mo), (1, .ref xo), (0, .ref b)]) : W p l e room_1 s m #[Value.ref b] below meth c H locs 66 148846 (lw_Z below #[Value.ref b] s) (F0 m 411 ls []) := by
  have hA : ∀ q : Nat, s.heap.size ≤ q → A q := fun q h => by rw [hAe]; exact h
  have hbA : ¬ A b := by rw [hAe]; exact Nat.not_le.mpr hbl
  refine lv_aload_n hx hb dL_law_411 rfl (lv_at hl 2 rfl) ?_
  refine lv_aload_n hx hb dL_law_412 rfl (lv_at hl 3 rfl) ?_
  refine lv_iload_n hx hb dL_law_413 rfl (lv_at hl 0 rfl) ?_
  refine lv_iconst (v := 1) hx hb dL_law_414 (by decide) ?_
  refine lv_iadd hx hb dL_law_415 ?_
  refine zl_i (y := 1) (by decide) ?_
  refine va_sld hx hb hX hbl hbA hS (zin (by decide)) dL_law_416 ?_
  refine zl_i (y := xs 1) rfl ?_
  refine zcVi (wr := [(mo, .inr (9, [.int 0, .ref q68, .int 0, .ref q69, .ref q70, .ref q71, .ref q72, .ref q73, .ref q74, .ref q75, .ref q76, .ref q77, .int 0, .int 0, .int 0, .ref q78, .ref q79, .ref q80, .int 0, .ref q81, .ref q82, .ref q83, .ref q84, .int 0, .int 0, .int 0, .ref q85, .int 0, .ref q86, .int 0, .int 0, .ref q87, .ref q88, .ref q89, .ref q90, .ref q91, .ref q92, .int 0, .int 0, .ref q93, .int 0, .int 0, .int 0, .int 0, .int 0, .ref q94]))]) (rest := []) hx hb hml hown hts (k_X11_count_1 l dC dI cyI cyC xo q1 q4 q17 q22 (.ref q42) (.ref q65) (.ref q35) (.int 0) (.ref q3) (.ref q1) (.ref q11) (.ref q12) (.ref q13) (.ref q14) (.ref q15) (.ref q16) (.int 0) (.int 0) (.int 0) (.int 0) (.int 0) (.int 0) (.ref q4) (.ref q20) (.ref q21) (.int 0) (.int 0) (.int 0) (.int 0) (.int 0) (.ref q29) (.ref q30) (.ref q31) (.ref q32) (.ref q33) (.ref q34) (xs 1)) zo_X11_count zv_X11_count mw_1067 ⟨by decide, by decide⟩ hK hP hD hS hA [0, 1, 2, 3, 4] [5] rfl rfl rfl rfl (by decide) rfl rfl hl.1 rfl rfl (Nat.le_of_ble_eq_true rfl) dL_law_417 ⟨by decide, by decide⟩ (fun r_244 w1 H locs hw hP hD hS => ?_)
  obtain ⟨er_244, rfl⟩ := hw
  have hP : va_P (dC, dI) vwCl [(mo, .inr (9, [.int 0, .ref q68, .int 0, .ref q69, .ref q70, .ref q71, .ref q72, .ref q73, .ref q74, .ref q75, .ref q76, .ref q77, .int 0, .int 0, .int 0, .ref q78, .ref q79, .ref q80, .int 0, .ref q81, .ref q82, .ref q83, .ref q84, .int 0, .int 0, .int 0, .ref q85, .int 0, .ref q86, .int 0, .int 0, .ref q87, .ref q88, .ref q89, .ref q90, .ref q91, .ref q92, .int 0, .int 0, .ref q93, .int 0, .int 0, .int 0, .int 0, .int 0, .ref q94]))] H := hP
  have hD : va_D A [(mo, .inr (9, [.int 0, .ref q68, .int 0, .ref q69, .ref q70, .ref q71, .ref q72, .ref q73, .ref q74, .ref q75, .ref q76, .ref q77, .int 0, .int 0, .int 0, .ref q78, .ref q79, .ref q80, .int 0, .ref q81, .ref q82, .ref q83, .ref q84, .int 0, .int 0, .int 0, .ref q85, .int 0, .ref q86, .int 0, .int 0, .ref q87, .ref q88, .ref q89, .ref q90, .ref q91, .ref q92, .int 0, .int 0, .ref q93, .int 0, .int 0, .int 0, .int 0, .int 0, .ref q94]))] := hD
  refine lv_aload_n hx hb dL_law_420 rfl (lv_at hl 1 rfl) ?_
  refine lv_aload_n hx hb dL_law_421 rfl (lv_at hl 3 rfl) ?_
  refine lv_iload_n hx hb dL_law_422 rfl (lv_at hl 0 rfl) ?_
  refine lv_iconst (v := 1) hx hb dL_law_423 (by decide) ?_
  refine lv_iadd hx hb dL_law_424 ?_
  refine zl_i (y := 1) (by decide) ?_
  refine va_sld hx hb hX hbl hbA hS (zin (by decide)) dL_law_425 ?_
  refine zl_i (y := xs 1) rfl ?_
  refine zcVi (wr := []) (rest := [.int r_244]) hx hb hml hown hts (k_X12_count_1 l dC dI cyI cyC mo (.ref q68) (.ref q69) (.ref q70) (.ref q71) (.ref q72) (.ref q73) (.ref q74) (.ref q75) (.ref q76) (.ref q77) (.int 0) (.int 0) (.int 0) (.ref q78) (.ref q79) (.ref q80) (.int 0) (.ref q81) (.ref q82) (.ref q83) (.ref q84) (.int 0) (.int 0) (.ref q85) (.int 0) (.ref q86) (.int 0) (.ref q87) (.ref q88) (.ref q89) (.ref q90) (.ref q91) (.ref q92) (.int 0) (.ref q93) (.int 0) (.int 0) (.int 0) (.int 0) (.int 0) (.ref q94) (xs 1)) zo_X12_count zv_X12_count mw_1072 ⟨by decide, by decide⟩ hK hP hD hS hA [0] [] rfl rfl rfl rfl (by decide) rfl rfl hl.1 rfl rfl (Nat.le_of_ble_eq_true rfl) dL_law_426 ⟨by decide, by decide⟩ (fun r_245 w1 H locs hw hP hD hS => ?_)
  obtain ⟨er_245, rfl⟩ := hw
  have hP : va_P (dC, dI) vwCl [] H := hP
  have hD : va_D A [] := hD
  refine lv_icmp_eq (tgt := 570) hx hb dL_law_429 (by decide) (fun _ => ?_) (fun h9 => absurd (er_244.trans er_245.symm) h9)
  refine lv_iinc (v := 6) (lv' := [(3, .int 6), (2, .ref mo), (1, .ref xo), (0, .ref b)]) hx hb dL_law_570 hl (k := 0) rfl (by decide) (by decide) rfl (fun ls hl => ?_)
  refine lv_goto (tgt := 18) hx hb dL_law_573 (by decide) ?_
  refine lv_iload_n hx hb dL_law_18 rfl (lv_at hl 0 rfl) ?_
  refine lv_aload_n hx hb dL_law_19 rfl (lv_at hl 3 rfl) ?_
  refine va_slen hx hb hX hbl hbA hS dL_law_20 ?_
  refine zl_i (y := 6) rfl ?_
  refine lv_bipush (v := 6) hx hb dL_law_21 (by decide) ?_
  refine lv_isub hx hb dL_law_23 ?_
  refine zl_i (y := 0) (by decide) ?_
  refine lv_icmp_gt (tgt := 576) hx hb dL_law_24 (by decide) (fun _ => ?_) (fun h9 => absurd (by decide) h9)
  refine lv_iconst (v := 1) hx hb dL_law_576 (by decide) ?_
  refine va_forget (fun q hq => by have h7 := hS.2.2 q hq; rw [hAe] at h7; exact h7) ?_
  refine W.widen (k := 600000) (n := 7302250) (by decide) (by decide) ?_
  exact lw_ret hx hb hr hlocks dL_law_577
set_option maxRecDepth 100000 in
set_option maxHeartbeats 4000000 in
theorem law_op_10 {p : Program} {l : Launch} {e : Env} {s : State} {m : MethodId} {below : List Frame} {meth : Method} {c : Code} {dC : Nat → ClassId} {dI : Nat → Nat → Nat} {cyI cyC : ClassId} {A : Nat → Prop} {b : Nat} {xs : Nat → Int32} (hx : p.tables.exec = Jvm.exec) (hb : c.code = cL_law) (hr : meth.sig.returnType = ret) (hlocks : meth.locks = false) (hml : c.maxLocals = 4) (hown : s.vm.findClass RL = some m.cls) (hts : ∀ w ∈ wsL_law, w.before #[Value.ref b] s = true) (hX : va_X b 6 xs s s.heap) (hbl : b < s.heap.size) (hAe : A = fun q : Nat => s.heap.size ≤ q) (hK : va_K (dC, dI) vwCl (zT cyI cyC) s) (xo q1 q4 q17 q42 q65 q22 q35 q29 q30 q31 q32 q33 q34 mo q68 q69 q70 q71 q72 q73 q74 q75 q76 q77 q78 q79 q80 q81 q82 q83 q84 q85 q86 q87 q88 q89 q90 q91 q92 q93 q94 : Nat) (H : Heap) (locs : List Loc) (hP : va_P (dC, dI) vwCl [(xo, .inr (8, [.ref q1, .ref q4, .ref q17, .ref q42, .ref q65, .ref q22, .ref q35, .int 0, .int 0])), (q22, .inr (6, [.ref q29, .ref q30, .ref q31, .ref q32, .ref q33, .ref q34, .int 0])), (mo, .inr (9, [.int 0, .ref q68, .int 0, .ref q69, .ref q70, .ref q71, .ref q72, .ref q73, .ref q74, .ref q75, .ref q76, .ref q77, .int 0, .int 0, .int 0, .ref q78, .ref q79, .ref q80, .int 0, .ref q81, .ref q82, .ref q83, .ref q84, .int 0, .int 0, .int 0, .ref q85, .int 0, .ref q86, .int 0, .int 0, .ref q87, .ref q88, .ref q89, .ref q90, .ref q91, .ref q92, .int 0, .int 0, .ref q93, .int 0, .int 0, .int 0, .int 0, .int 0, .ref q94]))] H) (hD : va_D A [(xo, .inr (8, [.ref q1, .ref q4, .ref q17, .ref q42, .ref q65, .ref q22, .ref q35, .int 0, .int 0])), (q22, .inr (6, [.ref q29, .ref q30, .ref q31, .ref q32, .ref q33, .ref q34, .int 0])), (mo, .inr (9, [.int 0, .ref q68, .int 0, .ref q69, .ref q70, .ref q71, .ref q72, .ref q73, .ref q74, .ref q75, .ref q76, .ref q77, .int 0, .int 0, .int 0, .ref q78, .ref q79, .ref q80, .int 0, .ref q81, .ref q82, .ref q83, .ref q84, .int 0, .int 0, .int 0, .ref q85, .int 0, .ref q86, .int 0, .int 0, .ref q87, .ref q88, .ref q89, .ref q90, .ref q91, .ref q92, .int 0, .int 0, .ref q93, .int 0, .int 0, .int 0, .int 0, .int 0, .ref q94]))]) (hS : va_S A s.heap H locs) (ls : Array Slot) (hl : lv_has ls 4 [(3, .int 0), (2, .ref mo), (1, .ref xo), (0, .ref b)]) : W p l e room_1 s m #[Value.ref b] below meth c H locs 66 148846 (lw_Z below #[Value.ref b] s) (F0 m 434 ls []) := by
  have hA : ∀ q : Nat, s.heap.size ≤ q → A q := fun q h => by rw [hAe]; exact h
  have hbA : ¬ A b := by rw [hAe]; exact Nat.not_le.mpr hbl
  refine lv_aload_n hx hb dL_law_434 rfl (lv_at hl 2 rfl) ?_
  refine lv_aload_n hx hb dL_law_435 rfl (lv_at hl 3 rfl) ?_
  refine lv_iload_n hx hb dL_law_436 rfl (lv_at hl 0 rfl) ?_
  refine lv_iconst (v := 1) hx hb dL_law_437 (by decide) ?_
  refine lv_iadd hx hb dL_law_438 ?_
  refine zl_i (y := 1) (by decide) ?_
  refine va_sld hx hb hX hbl hbA hS (zin (by decide)) dL_law_439 ?_
  refine zl_i (y := xs 1) rfl ?_
  refine lv_aload_n hx hb dL_law_440 rfl (lv_at hl 3 rfl) ?_
  refine lv_iload_n hx hb dL_law_441 rfl (lv_at hl 0 rfl) ?_
  refine lv_iconst (v := 2) hx hb dL_law_442 (by decide) ?_
  refine lv_iadd hx hb dL_law_443 ?_
  refine zl_i (y := 2) (by decide) ?_
  refine va_sld hx hb hX hbl hbA hS (zin (by decide)) dL_law_444 ?_
  refine zl_i (y := xs 2) rfl ?_
  refine zcVi (wr := [(mo, .inr (9, [.int 0, .ref q68, .int 0, .ref q69, .ref q70, .ref q71, .ref q72, .ref q73, .ref q74, .ref q75, .ref q76, .ref q77, .int 0, .int 0, .int 0, .ref q78, .ref q79, .ref q80, .int 0, .ref q81, .ref q82, .ref q83, .ref q84, .int 0, .int 0, .int 0, .ref q85, .int 0, .ref q86, .int 0, .int 0, .ref q87, .ref q88, .ref q89, .ref q90, .ref q91, .ref q92, .int 0, .int 0, .ref q93, .int 0, .int 0, .int 0, .int 0, .int 0, .ref q94]))]) (rest := []) hx hb hml hown hts (k_X11_node_1 l dC dI cyI cyC xo q22 (.ref q1) (.ref q4) (.ref q17) (.ref q42) (.ref q65) (.ref q35) (.int 0) (.int 0) (.ref q29) (.ref q30) (.ref q31) (.ref q32) (.ref q33) (.ref q34) (xs 1) (xs 2)) zo_X11_node zv_X11_node mw_1076 ⟨by decide, by decide⟩ hK hP hD hS hA [0, 1] [2] rfl rfl rfl rfl (by decide) rfl rfl hl.1 rfl rfl (Nat.le_of_ble_eq_true rfl) dL_law_445 ⟨by decide, by decide⟩ (fun r_246 w1 H locs hw hP hD hS => ?_)
  obtain ⟨rfl, rfl⟩ := hw
  have hP : va_P (dC, dI) vwCl [(mo, .inr (9, [.int 0, .ref q68, .int 0, .ref q69, .ref q70, .ref q71, .ref q72, .ref q73, .ref q74, .ref q75, .ref q76, .ref q77, .int 0, .int 0, .int 0, .ref q78, .ref q79, .ref q80, .int 0, .ref q81, .ref q82, .ref q83, .ref q84, .int 0, .int 0, .int 0, .ref q85, .int 0, .ref q86, .int 0, .int 0, .ref q87, .ref q88, .ref q89, .ref q90, .ref q91, .ref q92, .int 0, .int 0, .ref q93, .int 0, .int 0, .int 0, .int 0, .int 0, .ref q94]))] H := hP
  have hD : va_D A [(mo, .inr (9, [.int 0, .ref q68, .int 0, .ref q69, .ref q70, .ref q71, .ref q72, .ref q73, .ref q74, .ref q75, .ref q76, .ref q77, .int 0, .int 0, .int 0, .ref q78, .ref q79, .ref q80, .int 0, .ref q81, .ref q82, .ref q83, .ref q84, .int 0, .int 0, .int 0, .ref q85, .int 0, .ref q86, .int 0, .int 0, .ref q87, .ref q88, .ref q89, .ref q90, .ref q91, .ref q92, .int 0, .int 0, .ref q93, .int 0, .int 0, .int 0, .int 0, .int 0, .ref q94]))] := hD
  refine lv_aload_n hx hb dL_law_448 rfl (lv_at hl 1 rfl) ?_
  refine lv_aload_n hx hb dL_law_449 rfl (lv_at hl 3 rfl) ?_
  refine lv_iload_n hx hb dL_law_450 rfl (lv_at hl 0 rfl) ?_
  refine lv_iconst (v := 1) hx hb dL_law_451 (by decide) ?_
  refine lv_iadd hx hb dL_law_452 ?_
  refine zl_i (y := 1) (by decide) ?_
  refine va_sld hx hb hX hbl hbA hS (zin (by decide)) dL_law_453 ?_
  refine zl_i (y := xs 1) rfl ?_
  refine lv_aload_n hx hb dL_law_454 rfl (lv_at hl 3 rfl) ?_
  refine lv_iload_n hx hb dL_law_455 rfl (lv_at hl 0 rfl) ?_
  refine lv_iconst (v := 2) hx hb dL_law_456 (by decide) ?_
  refine lv_iadd hx hb dL_law_457 ?_
  refine zl_i (y := 2) (by decide) ?_
  refine va_sld hx hb hX hbl hbA hS (zin (by decide)) dL_law_458 ?_
  refine zl_i (y := xs 2) rfl ?_
  refine zcVi (wr := []) (rest := [.int (-2147483648)]) hx hb hml hown hts (k_X12_node__1 l dC dI cyI cyC mo (.int 0) (.ref q68) (.int 0) (.ref q69) (.ref q70) (.ref q71) (.ref q72) (.ref q73) (.ref q74) (.ref q75) (.ref q76) (.ref q77) (.int 0) (.int 0) (.int 0) (.ref q78) (.ref q79) (.ref q80) (.int 0) (.ref q81) (.ref q82) (.ref q83) (.ref q84) (.int 0) (.int 0) (.int 0) (.ref q85) (.int 0) (.ref q86) (.int 0) (.ref q87) (.ref q88) (.ref q89) (.ref q90) (.ref q91) (.ref q92) (.int 0) (.int 0) (.ref q93) (.int 0) (.int 0) (.int 0) (.int 0) (.int 0) (.ref q94) (xs 1) (xs 2)) zo_X12_node_ zv_X12_node_ mw_1103 ⟨by decide, by decide⟩ hK hP hD hS hA [0] [] rfl rfl rfl rfl (by decide) rfl rfl hl.1 rfl rfl (Nat.le_of_ble_eq_true rfl) dL_law_459 ⟨by decide, by decide⟩ (fun r_247 w1 H locs hw hP hD hS => ?_)
  obtain ⟨rfl, rfl⟩ := hw
  have hP : va_P (dC, dI) vwCl [] H := hP
  have hD : va_D A [] := hD
  refine lv_icmp_eq (tgt := 570) hx hb dL_law_462 (by decide) (fun _ => ?_) (fun h9 => absurd (by decide) h9)
  refine lv_iinc (v := 6) (lv' := [(3, .int 6), (2, .ref mo), (1, .ref xo), (0, .ref b)]) hx hb dL_law_570 hl (k := 0) rfl (by decide) (by decide) rfl (fun ls hl => ?_)
  refine lv_goto (tgt := 18) hx hb dL_law_573 (by decide) ?_
  refine lv_iload_n hx hb dL_law_18 rfl (lv_at hl 0 rfl) ?_
  refine lv_aload_n hx hb dL_law_19 rfl (lv_at hl 3 rfl) ?_
  refine va_slen hx hb hX hbl hbA hS dL_law_20 ?_
  refine zl_i (y := 6) rfl ?_
  refine lv_bipush (v := 6) hx hb dL_law_21 (by decide) ?_
  refine lv_isub hx hb dL_law_23 ?_
  refine zl_i (y := 0) (by decide) ?_
  refine lv_icmp_gt (tgt := 576) hx hb dL_law_24 (by decide) (fun _ => ?_) (fun h9 => absurd (by decide) h9)
  refine lv_iconst (v := 1) hx hb dL_law_576 (by decide) ?_
  refine va_forget (fun q hq => by have h7 := hS.2.2 q hq; rw [hAe] at h7; exact h7) ?_
  refine W.widen (k := 600000) (n := 7302250) (by decide) (by decide) ?_
  exact lw_ret hx hb hr hlocks dL_law_577
set_option maxRecDepth 100000 in
set_option maxHeartbeats 4000000 in
theorem law_op_11 {p : Program} {l : Launch} {e : Env} {s : State} {m : MethodId} {below : List Frame} {meth : Method} {c : Code} {dC : Nat → ClassId} {dI : Nat → Nat → Nat} {cyI cyC : ClassId} {A : Nat → Prop} {b : Nat} {xs : Nat → Int32} (hx : p.tables.exec = Jvm.exec) (hb : c.code = cL_law) (hr : meth.sig.returnType = ret) (hlocks : meth.locks = false) (hml : c.maxLocals = 4) (hown : s.vm.findClass RL = some m.cls) (hts : ∀ w ∈ wsL_law, w.before #[Value.ref b] s = true) (hX : va_X b 6 xs s s.heap) (hbl : b < s.heap.size) (hAe : A = fun q : Nat => s.heap.size ≤ q) (hK : va_K (dC, dI) vwCl (zT cyI cyC) s) (xo q1 q4 q17 q42 q65 q22 q35 q29 q30 q31 q32 q33 q34 mo q68 q69 q70 q71 q72 q73 q74 q75 q76 q77 q78 q79 q80 q81 q82 q83 q84 q85 q86 q87 q88 q89 q90 q91 q92 q93 q94 : Nat) (H : Heap) (locs : List Loc) (hP : va_P (dC, dI) vwCl [(xo, .inr (8, [.ref q1, .ref q4, .ref q17, .ref q42, .ref q65, .ref q22, .ref q35, .int 0, .int 0])), (q22, .inr (6, [.ref q29, .ref q30, .ref q31, .ref q32, .ref q33, .ref q34, .int 0])), (mo, .inr (9, [.int 0, .ref q68, .int 0, .ref q69, .ref q70, .ref q71, .ref q72, .ref q73, .ref q74, .ref q75, .ref q76, .ref q77, .int 0, .int 0, .int 0, .ref q78, .ref q79, .ref q80, .int 0, .ref q81, .ref q82, .ref q83, .ref q84, .int 0, .int 0, .int 0, .ref q85, .int 0, .ref q86, .int 0, .int 0, .ref q87, .ref q88, .ref q89, .ref q90, .ref q91, .ref q92, .int 0, .int 0, .ref q93, .int 0, .int 0, .int 0, .int 0, .int 0, .ref q94]))] H) (hD : va_D A [(xo, .inr (8, [.ref q1, .ref q4, .ref q17, .ref q42, .ref q65, .ref q22, .ref q35, .int 0, .int 0])), (q22, .inr (6, [.ref q29, .ref q30, .ref q31, .ref q32, .ref q33, .ref q34, .int 0])), (mo, .inr (9, [.int 0, .ref q68, .int 0, .ref q69, .ref q70, .ref q71, .ref q72, .ref q73, .ref q74, .ref q75, .ref q76, .ref q77, .int 0, .int 0, .int 0, .ref q78, .ref q79, .ref q80, .int 0, .ref q81, .ref q82, .ref q83, .ref q84, .int 0, .int 0, .int 0, .ref q85, .int 0, .ref q86, .int 0, .int 0, .ref q87, .ref q88, .ref q89, .ref q90, .ref q91, .ref q92, .int 0, .int 0, .ref q93, .int 0, .int 0, .int 0, .int 0, .int 0, .ref q94]))]) (hS : va_S A s.heap H locs) (ls : Array Slot) (hl : lv_has ls 4 [(3, .int 0), (2, .ref mo), (1, .ref xo), (0, .ref b)]) : W p l e room_1 s m #[Value.ref b] below meth c H locs 66 148846 (lw_Z below #[Value.ref b] s) (F0 m 467 ls []) := by
  have hA : ∀ q : Nat, s.heap.size ≤ q → A q := fun q h => by rw [hAe]; exact h
  have hbA : ¬ A b := by rw [hAe]; exact Nat.not_le.mpr hbl
  refine lv_aload_n hx hb dL_law_467 rfl (lv_at hl 2 rfl) ?_
  refine lv_aload_n hx hb dL_law_468 rfl (lv_at hl 3 rfl) ?_
  refine lv_iload_n hx hb dL_law_469 rfl (lv_at hl 0 rfl) ?_
  refine lv_iconst (v := 1) hx hb dL_law_470 (by decide) ?_
  refine lv_iadd hx hb dL_law_471 ?_
  refine zl_i (y := 1) (by decide) ?_
  refine va_sld hx hb hX hbl hbA hS (zin (by decide)) dL_law_472 ?_
  refine zl_i (y := xs 1) rfl ?_
  refine lv_aload_n hx hb dL_law_473 rfl (lv_at hl 3 rfl) ?_
  refine lv_iload_n hx hb dL_law_474 rfl (lv_at hl 0 rfl) ?_
  refine lv_iconst (v := 2) hx hb dL_law_475 (by decide) ?_
  refine lv_iadd hx hb dL_law_476 ?_
  refine zl_i (y := 2) (by decide) ?_
  refine va_sld hx hb hX hbl hbA hS (zin (by decide)) dL_law_477 ?_
  refine zl_i (y := xs 2) rfl ?_
  refine zcVi (wr := [(mo, .inr (9, [.int 0, .ref q68, .int 0, .ref q69, .ref q70, .ref q71, .ref q72, .ref q73, .ref q74, .ref q75, .ref q76, .ref q77, .int 0, .int 0, .int 0, .ref q78, .ref q79, .ref q80, .int 0, .ref q81, .ref q82, .ref q83, .ref q84, .int 0, .int 0, .int 0, .ref q85, .int 0, .ref q86, .int 0, .int 0, .ref q87, .ref q88, .ref q89, .ref q90, .ref q91, .ref q92, .int 0, .int 0, .ref q93, .int 0, .int 0, .int 0, .int 0, .int 0, .ref q94]))]) (rest := []) hx hb hml hown hts (k_X11_letter_1 l dC dI cyI cyC xo q22 (.ref q1) (.ref q4) (.ref q17) (.ref q42) (.ref q65) (.ref q35) (.int 0) (.int 0) (.ref q29) (.ref q30) (.ref q31) (.ref q32) (.ref q33) (.ref q34) (xs 1) (xs 2)) zo_X11_letter zv_X11_letter mw_1112 ⟨by decide, by decide⟩ hK hP hD hS hA [0, 1] [2] rfl rfl rfl rfl (by decide) rfl rfl hl.1 rfl rfl (Nat.le_of_ble_eq_true rfl) dL_law_478 ⟨by decide, by decide⟩ (fun r_248 w1 H locs hw hP hD hS => ?_)
  obtain ⟨rfl, rfl⟩ := hw
  have hP : va_P (dC, dI) vwCl [(mo, .inr (9, [.int 0, .ref q68, .int 0, .ref q69, .ref q70, .ref q71, .ref q72, .ref q73, .ref q74, .ref q75, .ref q76, .ref q77, .int 0, .int 0, .int 0, .ref q78, .ref q79, .ref q80, .int 0, .ref q81, .ref q82, .ref q83, .ref q84, .int 0, .int 0, .int 0, .ref q85, .int 0, .ref q86, .int 0, .int 0, .ref q87, .ref q88, .ref q89, .ref q90, .ref q91, .ref q92, .int 0, .int 0, .ref q93, .int 0, .int 0, .int 0, .int 0, .int 0, .ref q94]))] H := hP
  have hD : va_D A [(mo, .inr (9, [.int 0, .ref q68, .int 0, .ref q69, .ref q70, .ref q71, .ref q72, .ref q73, .ref q74, .ref q75, .ref q76, .ref q77, .int 0, .int 0, .int 0, .ref q78, .ref q79, .ref q80, .int 0, .ref q81, .ref q82, .ref q83, .ref q84, .int 0, .int 0, .int 0, .ref q85, .int 0, .ref q86, .int 0, .int 0, .ref q87, .ref q88, .ref q89, .ref q90, .ref q91, .ref q92, .int 0, .int 0, .ref q93, .int 0, .int 0, .int 0, .int 0, .int 0, .ref q94]))] := hD
  refine lv_aload_n hx hb dL_law_481 rfl (lv_at hl 1 rfl) ?_
  refine lv_aload_n hx hb dL_law_482 rfl (lv_at hl 3 rfl) ?_
  refine lv_iload_n hx hb dL_law_483 rfl (lv_at hl 0 rfl) ?_
  refine lv_iconst (v := 1) hx hb dL_law_484 (by decide) ?_
  refine lv_iadd hx hb dL_law_485 ?_
  refine zl_i (y := 1) (by decide) ?_
  refine va_sld hx hb hX hbl hbA hS (zin (by decide)) dL_law_486 ?_
  refine zl_i (y := xs 1) rfl ?_
  refine lv_aload_n hx hb dL_law_487 rfl (lv_at hl 3 rfl) ?_
  refine lv_iload_n hx hb dL_law_488 rfl (lv_at hl 0 rfl) ?_
  refine lv_iconst (v := 2) hx hb dL_law_489 (by decide) ?_
  refine lv_iadd hx hb dL_law_490 ?_
  refine zl_i (y := 2) (by decide) ?_
  refine va_sld hx hb hX hbl hbA hS (zin (by decide)) dL_law_491 ?_
  refine zl_i (y := xs 2) rfl ?_
  refine zcVi (wr := []) (rest := [.int (-2)]) hx hb hml hown hts (k_X12_letter_1 l dC dI cyI cyC mo (.int 0) (.ref q68) (.int 0) (.ref q69) (.ref q70) (.ref q71) (.ref q72) (.ref q73) (.ref q74) (.ref q75) (.ref q76) (.ref q77) (.int 0) (.int 0) (.int 0) (.ref q78) (.ref q79) (.ref q80) (.int 0) (.ref q81) (.ref q82) (.ref q83) (.ref q84) (.int 0) (.int 0) (.int 0) (.ref q85) (.int 0) (.ref q86) (.int 0) (.ref q87) (.ref q88) (.ref q89) (.ref q90) (.ref q91) (.ref q92) (.int 0) (.int 0) (.ref q93) (.int 0) (.int 0) (.int 0) (.int 0) (.int 0) (.ref q94) (xs 1) (xs 2)) zo_X12_letter zv_X12_letter mw_1121 ⟨by decide, by decide⟩ hK hP hD hS hA [0] [] rfl rfl rfl rfl (by decide) rfl rfl hl.1 rfl rfl (Nat.le_of_ble_eq_true rfl) dL_law_492 ⟨by decide, by decide⟩ (fun r_249 w1 H locs hw hP hD hS => ?_)
  obtain ⟨rfl, rfl⟩ := hw
  have hP : va_P (dC, dI) vwCl [] H := hP
  have hD : va_D A [] := hD
  refine lv_icmp_eq (tgt := 570) hx hb dL_law_495 (by decide) (fun _ => ?_) (fun h9 => absurd (by decide) h9)
  refine lv_iinc (v := 6) (lv' := [(3, .int 6), (2, .ref mo), (1, .ref xo), (0, .ref b)]) hx hb dL_law_570 hl (k := 0) rfl (by decide) (by decide) rfl (fun ls hl => ?_)
  refine lv_goto (tgt := 18) hx hb dL_law_573 (by decide) ?_
  refine lv_iload_n hx hb dL_law_18 rfl (lv_at hl 0 rfl) ?_
  refine lv_aload_n hx hb dL_law_19 rfl (lv_at hl 3 rfl) ?_
  refine va_slen hx hb hX hbl hbA hS dL_law_20 ?_
  refine zl_i (y := 6) rfl ?_
  refine lv_bipush (v := 6) hx hb dL_law_21 (by decide) ?_
  refine lv_isub hx hb dL_law_23 ?_
  refine zl_i (y := 0) (by decide) ?_
  refine lv_icmp_gt (tgt := 576) hx hb dL_law_24 (by decide) (fun _ => ?_) (fun h9 => absurd (by decide) h9)
  refine lv_iconst (v := 1) hx hb dL_law_576 (by decide) ?_
  refine va_forget (fun q hq => by have h7 := hS.2.2 q hq; rw [hAe] at h7; exact h7) ?_
  refine W.widen (k := 600000) (n := 7302250) (by decide) (by decide) ?_
  exact lw_ret hx hb hr hlocks dL_law_577
set_option maxRecDepth 100000 in
set_option maxHeartbeats 4000000 in
theorem law_op_12 {p : Program} {l : Launch} {e : Env} {s : State} {m : MethodId} {below : List Frame} {meth : Method} {c : Code} {dC : Nat → ClassId} {dI : Nat → Nat → Nat} {cyI cyC : ClassId} {A : Nat → Prop} {b : Nat} {xs : Nat → Int32} (hx : p.tables.exec = Jvm.exec) (hb : c.code = cL_law) (hr : meth.sig.returnType = ret) (hlocks : meth.locks = false) (hml : c.maxLocals = 4) (hown : s.vm.findClass RL = some m.cls) (hts : ∀ w ∈ wsL_law, w.before #[Value.ref b] s = true) (hX : va_X b 6 xs s s.heap) (hbl : b < s.heap.size) (hAe : A = fun q : Nat => s.heap.size ≤ q) (hK : va_K (dC, dI) vwCl (zT cyI cyC) s) (xo q1 q4 q17 q42 q65 q22 q35 q29 q30 q31 q32 q33 q34 mo q68 q69 q70 q71 q72 q73 q74 q75 q76 q77 q78 q79 q80 q81 q82 q83 q84 q85 q86 q87 q88 q89 q90 q91 q92 q93 q94 : Nat) (H : Heap) (locs : List Loc) (hP : va_P (dC, dI) vwCl [(xo, .inr (8, [.ref q1, .ref q4, .ref q17, .ref q42, .ref q65, .ref q22, .ref q35, .int 0, .int 0])), (q22, .inr (6, [.ref q29, .ref q30, .ref q31, .ref q32, .ref q33, .ref q34, .int 0])), (mo, .inr (9, [.int 0, .ref q68, .int 0, .ref q69, .ref q70, .ref q71, .ref q72, .ref q73, .ref q74, .ref q75, .ref q76, .ref q77, .int 0, .int 0, .int 0, .ref q78, .ref q79, .ref q80, .int 0, .ref q81, .ref q82, .ref q83, .ref q84, .int 0, .int 0, .int 0, .ref q85, .int 0, .ref q86, .int 0, .int 0, .ref q87, .ref q88, .ref q89, .ref q90, .ref q91, .ref q92, .int 0, .int 0, .ref q93, .int 0, .int 0, .int 0, .int 0, .int 0, .ref q94]))] H) (hD : va_D A [(xo, .inr (8, [.ref q1, .ref q4, .ref q17, .ref q42, .ref q65, .ref q22, .ref q35, .int 0, .int 0])), (q22, .inr (6, [.ref q29, .ref q30, .ref q31, .ref q32, .ref q33, .ref q34, .int 0])), (mo, .inr (9, [.int 0, .ref q68, .int 0, .ref q69, .ref q70, .ref q71, .ref q72, .ref q73, .ref q74, .ref q75, .ref q76, .ref q77, .int 0, .int 0, .int 0, .ref q78, .ref q79, .ref q80, .int 0, .ref q81, .ref q82, .ref q83, .ref q84, .int 0, .int 0, .int 0, .ref q85, .int 0, .ref q86, .int 0, .int 0, .ref q87, .ref q88, .ref q89, .ref q90, .ref q91, .ref q92, .int 0, .int 0, .ref q93, .int 0, .int 0, .int 0, .int 0, .int 0, .ref q94]))]) (hS : va_S A s.heap H locs) (ls : Array Slot) (hl : lv_has ls 4 [(3, .int 0), (2, .ref mo), (1, .ref xo), (0, .ref b)]) : W p l e room_1 s m #[Value.ref b] below meth c H locs 66 148846 (lw_Z below #[Value.ref b] s) (F0 m 500 ls []) := by
  have hA : ∀ q : Nat, s.heap.size ≤ q → A q := fun q h => by rw [hAe]; exact h
  have hbA : ¬ A b := by rw [hAe]; exact Nat.not_le.mpr hbl
  refine lv_aload_n hx hb dL_law_500 rfl (lv_at hl 2 rfl) ?_
  refine lv_aload_n hx hb dL_law_501 rfl (lv_at hl 3 rfl) ?_
  refine lv_iload_n hx hb dL_law_502 rfl (lv_at hl 0 rfl) ?_
  refine lv_iconst (v := 1) hx hb dL_law_503 (by decide) ?_
  refine lv_iadd hx hb dL_law_504 ?_
  refine zl_i (y := 1) (by decide) ?_
  refine va_sld hx hb hX hbl hbA hS (zin (by decide)) dL_law_505 ?_
  refine zl_i (y := xs 1) rfl ?_
  refine lv_aload_n hx hb dL_law_506 rfl (lv_at hl 3 rfl) ?_
  refine lv_iload_n hx hb dL_law_507 rfl (lv_at hl 0 rfl) ?_
  refine lv_iconst (v := 2) hx hb dL_law_508 (by decide) ?_
  refine lv_iadd hx hb dL_law_509 ?_
  refine zl_i (y := 2) (by decide) ?_
  refine va_sld hx hb hX hbl hbA hS (zin (by decide)) dL_law_510 ?_
  refine zl_i (y := xs 2) rfl ?_
  refine zcVi (wr := [(mo, .inr (9, [.int 0, .ref q68, .int 0, .ref q69, .ref q70, .ref q71, .ref q72, .ref q73, .ref q74, .ref q75, .ref q76, .ref q77, .int 0, .int 0, .int 0, .ref q78, .ref q79, .ref q80, .int 0, .ref q81, .ref q82, .ref q83, .ref q84, .int 0, .int 0, .int 0, .ref q85, .int 0, .ref q86, .int 0, .int 0, .ref q87, .ref q88, .ref q89, .ref q90, .ref q91, .ref q92, .int 0, .int 0, .ref q93, .int 0, .int 0, .int 0, .int 0, .int 0, .ref q94]))]) (rest := []) hx hb hml hown hts (k_X11_child_1 l dC dI cyI cyC xo q22 (.ref q1) (.ref q4) (.ref q17) (.ref q42) (.ref q65) (.ref q35) (.int 0) (.int 0) (.ref q29) (.ref q30) (.ref q31) (.ref q32) (.ref q33) (.ref q34) (xs 1) (xs 2)) zo_X11_child zv_X11_child mw_1125 ⟨by decide, by decide⟩ hK hP hD hS hA [0, 1] [2] rfl rfl rfl rfl (by decide) rfl rfl hl.1 rfl rfl (Nat.le_of_ble_eq_true rfl) dL_law_511 ⟨by decide, by decide⟩ (fun r_250 w1 H locs hw hP hD hS => ?_)
  obtain ⟨rfl, rfl⟩ := hw
  have hP : va_P (dC, dI) vwCl [(mo, .inr (9, [.int 0, .ref q68, .int 0, .ref q69, .ref q70, .ref q71, .ref q72, .ref q73, .ref q74, .ref q75, .ref q76, .ref q77, .int 0, .int 0, .int 0, .ref q78, .ref q79, .ref q80, .int 0, .ref q81, .ref q82, .ref q83, .ref q84, .int 0, .int 0, .int 0, .ref q85, .int 0, .ref q86, .int 0, .int 0, .ref q87, .ref q88, .ref q89, .ref q90, .ref q91, .ref q92, .int 0, .int 0, .ref q93, .int 0, .int 0, .int 0, .int 0, .int 0, .ref q94]))] H := hP
  have hD : va_D A [(mo, .inr (9, [.int 0, .ref q68, .int 0, .ref q69, .ref q70, .ref q71, .ref q72, .ref q73, .ref q74, .ref q75, .ref q76, .ref q77, .int 0, .int 0, .int 0, .ref q78, .ref q79, .ref q80, .int 0, .ref q81, .ref q82, .ref q83, .ref q84, .int 0, .int 0, .int 0, .ref q85, .int 0, .ref q86, .int 0, .int 0, .ref q87, .ref q88, .ref q89, .ref q90, .ref q91, .ref q92, .int 0, .int 0, .ref q93, .int 0, .int 0, .int 0, .int 0, .int 0, .ref q94]))] := hD
  refine lv_aload_n hx hb dL_law_514 rfl (lv_at hl 1 rfl) ?_
  refine lv_aload_n hx hb dL_law_515 rfl (lv_at hl 3 rfl) ?_
  refine lv_iload_n hx hb dL_law_516 rfl (lv_at hl 0 rfl) ?_
  refine lv_iconst (v := 1) hx hb dL_law_517 (by decide) ?_
  refine lv_iadd hx hb dL_law_518 ?_
  refine zl_i (y := 1) (by decide) ?_
  refine va_sld hx hb hX hbl hbA hS (zin (by decide)) dL_law_519 ?_
  refine zl_i (y := xs 1) rfl ?_
  refine lv_aload_n hx hb dL_law_520 rfl (lv_at hl 3 rfl) ?_
  refine lv_iload_n hx hb dL_law_521 rfl (lv_at hl 0 rfl) ?_
  refine lv_iconst (v := 2) hx hb dL_law_522 (by decide) ?_
  refine lv_iadd hx hb dL_law_523 ?_
  refine zl_i (y := 2) (by decide) ?_
  refine va_sld hx hb hX hbl hbA hS (zin (by decide)) dL_law_524 ?_
  refine zl_i (y := xs 2) rfl ?_
  refine zcVi (wr := []) (rest := [.int (-2)]) hx hb hml hown hts (k_X12_child_1 l dC dI cyI cyC mo (.int 0) (.ref q68) (.int 0) (.ref q69) (.ref q70) (.ref q71) (.ref q72) (.ref q73) (.ref q74) (.ref q75) (.ref q76) (.ref q77) (.int 0) (.int 0) (.int 0) (.ref q78) (.ref q79) (.ref q80) (.int 0) (.ref q81) (.ref q82) (.ref q83) (.ref q84) (.int 0) (.int 0) (.int 0) (.ref q85) (.int 0) (.ref q86) (.int 0) (.ref q87) (.ref q88) (.ref q89) (.ref q90) (.ref q91) (.ref q92) (.int 0) (.int 0) (.ref q93) (.int 0) (.int 0) (.int 0) (.int 0) (.int 0) (.ref q94) (xs 1) (xs 2)) zo_X12_child zv_X12_child mw_1133 ⟨by decide, by decide⟩ hK hP hD hS hA [0] [] rfl rfl rfl rfl (by decide) rfl rfl hl.1 rfl rfl (Nat.le_of_ble_eq_true rfl) dL_law_525 ⟨by decide, by decide⟩ (fun r_251 w1 H locs hw hP hD hS => ?_)
  obtain ⟨rfl, rfl⟩ := hw
  have hP : va_P (dC, dI) vwCl [] H := hP
  have hD : va_D A [] := hD
  refine lv_icmp_eq (tgt := 570) hx hb dL_law_528 (by decide) (fun _ => ?_) (fun h9 => absurd (by decide) h9)
  refine lv_iinc (v := 6) (lv' := [(3, .int 6), (2, .ref mo), (1, .ref xo), (0, .ref b)]) hx hb dL_law_570 hl (k := 0) rfl (by decide) (by decide) rfl (fun ls hl => ?_)
  refine lv_goto (tgt := 18) hx hb dL_law_573 (by decide) ?_
  refine lv_iload_n hx hb dL_law_18 rfl (lv_at hl 0 rfl) ?_
  refine lv_aload_n hx hb dL_law_19 rfl (lv_at hl 3 rfl) ?_
  refine va_slen hx hb hX hbl hbA hS dL_law_20 ?_
  refine zl_i (y := 6) rfl ?_
  refine lv_bipush (v := 6) hx hb dL_law_21 (by decide) ?_
  refine lv_isub hx hb dL_law_23 ?_
  refine zl_i (y := 0) (by decide) ?_
  refine lv_icmp_gt (tgt := 576) hx hb dL_law_24 (by decide) (fun _ => ?_) (fun h9 => absurd (by decide) h9)
  refine lv_iconst (v := 1) hx hb dL_law_576 (by decide) ?_
  refine va_forget (fun q hq => by have h7 := hS.2.2 q hq; rw [hAe] at h7; exact h7) ?_
  refine W.widen (k := 600000) (n := 7302250) (by decide) (by decide) ?_
  exact lw_ret hx hb hr hlocks dL_law_577
set_option maxRecDepth 100000 in
set_option maxHeartbeats 4000000 in
theorem law_op_13 {p : Program} {l : Launch} {e : Env} {s : State} {m : MethodId} {below : List Frame} {meth : Method} {c : Code} {dC : Nat → ClassId} {dI : Nat → Nat → Nat} {cyI cyC : ClassId} {A : Nat → Prop} {b : Nat} {xs : Nat → Int32} (hx : p.tables.exec = Jvm.exec) (hb : c.code = cL_law) (hr : meth.sig.returnType = ret) (hlocks : meth.locks = false) (hml : c.maxLocals = 4) (hown : s.vm.findClass RL = some m.cls) (hts : ∀ w ∈ wsL_law, w.before #[Value.ref b] s = true) (hX : va_X b 6 xs s s.heap) (hbl : b < s.heap.size) (hAe : A = fun q : Nat => s.heap.size ≤ q) (hK : va_K (dC, dI) vwCl (zT cyI cyC) s) (xo q1 q4 q17 q42 q65 q22 q35 q29 q30 q31 q32 q33 q34 mo q68 q69 q70 q71 q72 q73 q74 q75 q76 q77 q78 q79 q80 q81 q82 q83 q84 q85 q86 q87 q88 q89 q90 q91 q92 q93 q94 : Nat) (H : Heap) (locs : List Loc) (hP : va_P (dC, dI) vwCl [(xo, .inr (8, [.ref q1, .ref q4, .ref q17, .ref q42, .ref q65, .ref q22, .ref q35, .int 0, .int 0])), (q22, .inr (6, [.ref q29, .ref q30, .ref q31, .ref q32, .ref q33, .ref q34, .int 0])), (mo, .inr (9, [.int 0, .ref q68, .int 0, .ref q69, .ref q70, .ref q71, .ref q72, .ref q73, .ref q74, .ref q75, .ref q76, .ref q77, .int 0, .int 0, .int 0, .ref q78, .ref q79, .ref q80, .int 0, .ref q81, .ref q82, .ref q83, .ref q84, .int 0, .int 0, .int 0, .ref q85, .int 0, .ref q86, .int 0, .int 0, .ref q87, .ref q88, .ref q89, .ref q90, .ref q91, .ref q92, .int 0, .int 0, .ref q93, .int 0, .int 0, .int 0, .int 0, .int 0, .ref q94]))] H) (hD : va_D A [(xo, .inr (8, [.ref q1, .ref q4, .ref q17, .ref q42, .ref q65, .ref q22, .ref q35, .int 0, .int 0])), (q22, .inr (6, [.ref q29, .ref q30, .ref q31, .ref q32, .ref q33, .ref q34, .int 0])), (mo, .inr (9, [.int 0, .ref q68, .int 0, .ref q69, .ref q70, .ref q71, .ref q72, .ref q73, .ref q74, .ref q75, .ref q76, .ref q77, .int 0, .int 0, .int 0, .ref q78, .ref q79, .ref q80, .int 0, .ref q81, .ref q82, .ref q83, .ref q84, .int 0, .int 0, .int 0, .ref q85, .int 0, .ref q86, .int 0, .int 0, .ref q87, .ref q88, .ref q89, .ref q90, .ref q91, .ref q92, .int 0, .int 0, .ref q93, .int 0, .int 0, .int 0, .int 0, .int 0, .ref q94]))]) (hS : va_S A s.heap H locs) (ls : Array Slot) (hl : lv_has ls 4 [(3, .int 0), (2, .ref mo), (1, .ref xo), (0, .ref b)]) : W p l e room_1 s m #[Value.ref b] below meth c H locs 66 148846 (lw_Z below #[Value.ref b] s) (F0 m 533 ls []) := by
  have hA : ∀ q : Nat, s.heap.size ≤ q → A q := fun q h => by rw [hAe]; exact h
  have hbA : ¬ A b := by rw [hAe]; exact Nat.not_le.mpr hbl
  refine lv_aload_n hx hb dL_law_533 rfl (lv_at hl 2 rfl) ?_
  refine lv_aload_n hx hb dL_law_534 rfl (lv_at hl 3 rfl) ?_
  refine lv_iload_n hx hb dL_law_535 rfl (lv_at hl 0 rfl) ?_
  refine lv_iconst (v := 1) hx hb dL_law_536 (by decide) ?_
  refine lv_iadd hx hb dL_law_537 ?_
  refine zl_i (y := 1) (by decide) ?_
  refine va_sld hx hb hX hbl hbA hS (zin (by decide)) dL_law_538 ?_
  refine zl_i (y := xs 1) rfl ?_
  refine zcVi (wr := [(mo, .inr (9, [.int 0, .ref q68, .int 0, .ref q69, .ref q70, .ref q71, .ref q72, .ref q73, .ref q74, .ref q75, .ref q76, .ref q77, .int 0, .int 0, .int 0, .ref q78, .ref q79, .ref q80, .int 0, .ref q81, .ref q82, .ref q83, .ref q84, .int 0, .int 0, .int 0, .ref q85, .int 0, .ref q86, .int 0, .int 0, .ref q87, .ref q88, .ref q89, .ref q90, .ref q91, .ref q92, .int 0, .int 0, .ref q93, .int 0, .int 0, .int 0, .int 0, .int 0, .ref q94]))]) (rest := []) hx hb hml hown hts (k_X11_write_1 l dC dI cyI cyC xo q22 (.ref q1) (.ref q4) (.ref q17) (.ref q42) (.ref q65) (.ref q35) (.int 0) (.int 0) (.ref q29) (.ref q30) (.ref q31) (.ref q32) (.ref q33) (.ref q34) (xs 1)) zo_X11_write zv_X11_write mw_1141 ⟨by decide, by decide⟩ hK hP hD hS hA [0, 1] [2] rfl rfl rfl rfl (by decide) rfl rfl hl.1 rfl rfl (Nat.le_of_ble_eq_true rfl) dL_law_539 ⟨by decide, by decide⟩ (fun r_252 w1 H locs hw hP hD hS => ?_)
  obtain ⟨er_252, rfl⟩ := hw
  have hP : va_P (dC, dI) vwCl [(mo, .inr (9, [.int 0, .ref q68, .int 0, .ref q69, .ref q70, .ref q71, .ref q72, .ref q73, .ref q74, .ref q75, .ref q76, .ref q77, .int 0, .int 0, .int 0, .ref q78, .ref q79, .ref q80, .int 0, .ref q81, .ref q82, .ref q83, .ref q84, .int 0, .int 0, .int 0, .ref q85, .int 0, .ref q86, .int 0, .int 0, .ref q87, .ref q88, .ref q89, .ref q90, .ref q91, .ref q92, .int 0, .int 0, .ref q93, .int 0, .int 0, .int 0, .int 0, .int 0, .ref q94]))] H := hP
  have hD : va_D A [(mo, .inr (9, [.int 0, .ref q68, .int 0, .ref q69, .ref q70, .ref q71, .ref q72, .ref q73, .ref q74, .ref q75, .ref q76, .ref q77, .int 0, .int 0, .int 0, .ref q78, .ref q79, .ref q80, .int 0, .ref q81, .ref q82, .ref q83, .ref q84, .int 0, .int 0, .int 0, .ref q85, .int 0, .ref q86, .int 0, .int 0, .ref q87, .ref q88, .ref q89, .ref q90, .ref q91, .ref q92, .int 0, .int 0, .ref q93, .int 0, .int 0, .int 0, .int 0, .int 0, .ref q94]))] := hD
  refine lv_aload_n hx hb dL_law_542 rfl (lv_at hl 1 rfl) ?_
  refine lv_aload_n hx hb dL_law_543 rfl (lv_at hl 3 rfl) ?_
  refine lv_iload_n hx hb dL_law_544 rfl (lv_at hl 0 rfl) ?_
  refine lv_iconst (v := 1) hx hb dL_law_545 (by decide) ?_
  refine lv_iadd hx hb dL_law_546 ?_
  refine zl_i (y := 1) (by decide) ?_
  refine va_sld hx hb hX hbl hbA hS (zin (by decide)) dL_law_547 ?_
  refine zl_i (y := xs 1) rfl ?_
  refine zcVi (wr := []) (rest := [.int r_252]) hx hb hml hown hts (k_X12_write_1 l dC dI cyI cyC mo (.int 0) (.ref q68) (.int 0) (.ref q69) (.ref q70) (.ref q71) (.ref q72) (.ref q73) (.ref q74) (.ref q75) (.ref q76) (.ref q77) (.int 0) (.int 0) (.int 0) (.ref q78) (.ref q79) (.ref q80) (.int 0) (.ref q81) (.ref q82) (.ref q83) (.ref q84) (.int 0) (.int 0) (.int 0) (.ref q85) (.int 0) (.ref q86) (.int 0) (.ref q87) (.ref q88) (.ref q89) (.ref q90) (.ref q91) (.ref q92) (.int 0) (.int 0) (.ref q93) (.int 0) (.int 0) (.int 0) (.int 0) (.int 0) (.ref q94) (xs 1)) zo_X12_write zv_X12_write mw_1232 ⟨by decide, by decide⟩ hK hP hD hS hA [0] [] rfl rfl rfl rfl (by decide) rfl rfl hl.1 rfl rfl (Nat.le_of_ble_eq_true rfl) dL_law_548 ⟨by decide, by decide⟩ (fun r_253 w1 H locs hw hP hD hS => ?_)
  obtain ⟨er_253, rfl⟩ := hw
  have hP : va_P (dC, dI) vwCl [] H := hP
  have hD : va_D A [] := hD
  refine lv_icmp_eq (tgt := 570) hx hb dL_law_551 (by decide) (fun _ => ?_) (fun h9 => absurd (er_252.trans er_253.symm) h9)
  refine lv_iinc (v := 6) (lv' := [(3, .int 6), (2, .ref mo), (1, .ref xo), (0, .ref b)]) hx hb dL_law_570 hl (k := 0) rfl (by decide) (by decide) rfl (fun ls hl => ?_)
  refine lv_goto (tgt := 18) hx hb dL_law_573 (by decide) ?_
  refine lv_iload_n hx hb dL_law_18 rfl (lv_at hl 0 rfl) ?_
  refine lv_aload_n hx hb dL_law_19 rfl (lv_at hl 3 rfl) ?_
  refine va_slen hx hb hX hbl hbA hS dL_law_20 ?_
  refine zl_i (y := 6) rfl ?_
  refine lv_bipush (v := 6) hx hb dL_law_21 (by decide) ?_
  refine lv_isub hx hb dL_law_23 ?_
  refine zl_i (y := 0) (by decide) ?_
  refine lv_icmp_gt (tgt := 576) hx hb dL_law_24 (by decide) (fun _ => ?_) (fun h9 => absurd (by decide) h9)
  refine lv_iconst (v := 1) hx hb dL_law_576 (by decide) ?_
  refine va_forget (fun q hq => by have h7 := hS.2.2 q hq; rw [hAe] at h7; exact h7) ?_
  refine W.widen (k := 600000) (n := 7302250) (by decide) (by decide) ?_
  exact lw_ret hx hb hr hlocks dL_law_577
set_option maxRecDepth 100000 in
set_option maxHeartbeats 4000000 in
theorem law_op_14 {p : Program} {l : Launch} {e : Env} {s : State} {m : MethodId} {below : List Frame} {meth : Method} {c : Code} {dC : Nat → ClassId} {dI : Nat → Nat → Nat} {cyI cyC : ClassId} {A : Nat → Prop} {b : Nat} {xs : Nat → Int32} (hx : p.tables.exec = Jvm.exec) (hb : c.code = cL_law) (hr : meth.sig.returnType = ret) (hlocks : meth.locks = false) (hml : c.maxLocals = 4) (hown : s.vm.findClass RL = some m.cls) (hts : ∀ w ∈ wsL_law, w.before #[Value.ref b] s = true) (hX : va_X b 6 xs s s.heap) (hbl : b < s.heap.size) (hAe : A = fun q : Nat => s.heap.size ≤ q) (hK : va_K (dC, dI) vwCl (zT cyI cyC) s) (xo q1 q4 q17 q42 q65 q22 q35 q29 q30 q31 q32 q33 q34 mo q68 q69 q70 q71 q72 q73 q74 q75 q76 q77 q78 q79 q80 q81 q82 q83 q84 q85 q86 q87 q88 q89 q90 q91 q92 q93 q94 : Nat) (H : Heap) (locs : List Loc) (hP : va_P (dC, dI) vwCl [(xo, .inr (8, [.ref q1, .ref q4, .ref q17, .ref q42, .ref q65, .ref q22, .ref q35, .int 0, .int 0])), (q22, .inr (6, [.ref q29, .ref q30, .ref q31, .ref q32, .ref q33, .ref q34, .int 0])), (mo, .inr (9, [.int 0, .ref q68, .int 0, .ref q69, .ref q70, .ref q71, .ref q72, .ref q73, .ref q74, .ref q75, .ref q76, .ref q77, .int 0, .int 0, .int 0, .ref q78, .ref q79, .ref q80, .int 0, .ref q81, .ref q82, .ref q83, .ref q84, .int 0, .int 0, .int 0, .ref q85, .int 0, .ref q86, .int 0, .int 0, .ref q87, .ref q88, .ref q89, .ref q90, .ref q91, .ref q92, .int 0, .int 0, .ref q93, .int 0, .int 0, .int 0, .int 0, .int 0, .ref q94]))] H) (hD : va_D A [(xo, .inr (8, [.ref q1, .ref q4, .ref q17, .ref q42, .ref q65, .ref q22, .ref q35, .int 0, .int 0])), (q22, .inr (6, [.ref q29, .ref q30, .ref q31, .ref q32, .ref q33, .ref q34, .int 0])), (mo, .inr (9, [.int 0, .ref q68, .int 0, .ref q69, .ref q70, .ref q71, .ref q72, .ref q73, .ref q74, .ref q75, .ref q76, .ref q77, .int 0, .int 0, .int 0, .ref q78, .ref q79, .ref q80, .int 0, .ref q81, .ref q82, .ref q83, .ref q84, .int 0, .int 0, .int 0, .ref q85, .int 0, .ref q86, .int 0, .int 0, .ref q87, .ref q88, .ref q89, .ref q90, .ref q91, .ref q92, .int 0, .int 0, .ref q93, .int 0, .int 0, .int 0, .int 0, .int 0, .ref q94]))]) (hS : va_S A s.heap H locs) (ls : Array Slot) (hl : lv_has ls 4 [(3, .int 0), (2, .ref mo), (1, .ref xo), (0, .ref b)]) : W p l e room_1 s m #[Value.ref b] below meth c H locs 66 148846 (lw_Z below #[Value.ref b] s) (F0 m 556 ls []) := by
  have hA : ∀ q : Nat, s.heap.size ≤ q → A q := fun q h => by rw [hAe]; exact h
  have hbA : ¬ A b := by rw [hAe]; exact Nat.not_le.mpr hbl
  refine lv_aload_n hx hb dL_law_556 rfl (lv_at hl 2 rfl) ?_
  refine zcVl (wr := [(mo, .inr (9, [.int 0, .ref q68, .int 0, .ref q69, .ref q70, .ref q71, .ref q72, .ref q73, .ref q74, .ref q75, .ref q76, .ref q77, .int 0, .int 0, .int 0, .ref q78, .ref q79, .ref q80, .int 0, .ref q81, .ref q82, .ref q83, .ref q84, .int 0, .int 0, .int 0, .ref q85, .int 0, .ref q86, .int 0, .int 0, .ref q87, .ref q88, .ref q89, .ref q90, .ref q91, .ref q92, .int 0, .int 0, .ref q93, .int 0, .int 0, .int 0, .int 0, .int 0, .ref q94]))]) (rest := []) hx hb hml hown hts (k_X11_digest_1 l dC dI cyI cyC xo q22 (.ref q1) (.ref q4) (.ref q17) (.ref q42) (.ref q65) (.ref q35) (.int 0) (.int 0) (.ref q29) (.ref q30) (.ref q31) (.ref q32) (.ref q33) (.ref q34)) zo_X11_digest zv_X11_digest mw_1300 ⟨by decide, by decide⟩ hK hP hD hS hA [0, 1] [2] rfl rfl rfl rfl (by decide) rfl rfl hl.1 rfl rfl (Nat.le_of_ble_eq_true rfl) dL_law_557 ⟨by decide, by decide⟩ (fun r_254 w1 H locs hw hP hD hS => ?_)
  obtain ⟨rfl, rfl⟩ := hw
  have hP : va_P (dC, dI) vwCl [(mo, .inr (9, [.int 0, .ref q68, .int 0, .ref q69, .ref q70, .ref q71, .ref q72, .ref q73, .ref q74, .ref q75, .ref q76, .ref q77, .int 0, .int 0, .int 0, .ref q78, .ref q79, .ref q80, .int 0, .ref q81, .ref q82, .ref q83, .ref q84, .int 0, .int 0, .int 0, .ref q85, .int 0, .ref q86, .int 0, .int 0, .ref q87, .ref q88, .ref q89, .ref q90, .ref q91, .ref q92, .int 0, .int 0, .ref q93, .int 0, .int 0, .int 0, .int 0, .int 0, .ref q94]))] H := hP
  have hD : va_D A [(mo, .inr (9, [.int 0, .ref q68, .int 0, .ref q69, .ref q70, .ref q71, .ref q72, .ref q73, .ref q74, .ref q75, .ref q76, .ref q77, .int 0, .int 0, .int 0, .ref q78, .ref q79, .ref q80, .int 0, .ref q81, .ref q82, .ref q83, .ref q84, .int 0, .int 0, .int 0, .ref q85, .int 0, .ref q86, .int 0, .int 0, .ref q87, .ref q88, .ref q89, .ref q90, .ref q91, .ref q92, .int 0, .int 0, .ref q93, .int 0, .int 0, .int 0, .int 0, .int 0, .ref q94]))] := hD
  refine lv_aload_n hx hb dL_law_560 rfl (lv_at hl 1 rfl) ?_
  refine zcVl (wr := []) (rest := [.long 17]) hx hb hml hown hts (k_X12_digest_1 l dC dI cyI cyC mo (.int 0) (.ref q68) (.int 0) (.ref q69) (.ref q70) (.ref q71) (.ref q72) (.ref q73) (.ref q74) (.ref q75) (.ref q76) (.ref q77) (.int 0) (.int 0) (.int 0) (.ref q78) (.ref q79) (.ref q80) (.int 0) (.ref q81) (.ref q82) (.ref q83) (.ref q84) (.int 0) (.int 0) (.int 0) (.ref q85) (.int 0) (.ref q86) (.int 0) (.ref q87) (.ref q88) (.ref q89) (.ref q90) (.ref q91) (.ref q92) (.int 0) (.int 0) (.ref q93) (.int 0) (.int 0) (.int 0) (.int 0) (.int 0) (.ref q94)) zo_X12_digest zv_X12_digest mw_1306 ⟨by decide, by decide⟩ hK hP hD hS hA [0] [] rfl rfl rfl rfl (by decide) rfl rfl hl.1 rfl rfl (Nat.le_of_ble_eq_true rfl) dL_law_561 ⟨by decide, by decide⟩ (fun r_255 w1 H locs hw hP hD hS => ?_)
  obtain ⟨rfl, rfl⟩ := hw
  have hP : va_P (dC, dI) vwCl [] H := hP
  have hD : va_D A [] := hD
  refine W.lcmp hx hb dL_law_564 ?_
  refine zl_i (y := 0) (by decide) ?_
  refine lv_if_eq (tgt := 570) hx hb dL_law_565 (by decide) (fun _ => ?_) (fun h9 => absurd (by decide) h9)
  refine lv_iinc (v := 6) (lv' := [(3, .int 6), (2, .ref mo), (1, .ref xo), (0, .ref b)]) hx hb dL_law_570 hl (k := 0) rfl (by decide) (by decide) rfl (fun ls hl => ?_)
  refine lv_goto (tgt := 18) hx hb dL_law_573 (by decide) ?_
  refine lv_iload_n hx hb dL_law_18 rfl (lv_at hl 0 rfl) ?_
  refine lv_aload_n hx hb dL_law_19 rfl (lv_at hl 3 rfl) ?_
  refine va_slen hx hb hX hbl hbA hS dL_law_20 ?_
  refine zl_i (y := 6) rfl ?_
  refine lv_bipush (v := 6) hx hb dL_law_21 (by decide) ?_
  refine lv_isub hx hb dL_law_23 ?_
  refine zl_i (y := 0) (by decide) ?_
  refine lv_icmp_gt (tgt := 576) hx hb dL_law_24 (by decide) (fun _ => ?_) (fun h9 => absurd (by decide) h9)
  refine lv_iconst (v := 1) hx hb dL_law_576 (by decide) ?_
  refine va_forget (fun q hq => by have h7 := hS.2.2 q hq; rw [hAe] at h7; exact h7) ?_
  refine W.widen (k := 600000) (n := 7302250) (by decide) (by decide) ?_
  exact lw_ret hx hb hr hlocks dL_law_577
set_option maxRecDepth 100000 in
set_option maxHeartbeats 4000000 in
theorem law_op_15 {p : Program} {l : Launch} {e : Env} {s : State} {m : MethodId} {below : List Frame} {meth : Method} {c : Code} {dC : Nat → ClassId} {dI : Nat → Nat → Nat} {cyI cyC : ClassId} {A : Nat → Prop} {b : Nat} {xs : Nat → Int32} (hx : p.tables.exec = Jvm.exec) (hb : c.code = cL_law) (hr : meth.sig.returnType = ret) (hlocks : meth.locks = false) (hml : c.maxLocals = 4) (hown : s.vm.findClass RL = some m.cls) (hts : ∀ w ∈ wsL_law, w.before #[Value.ref b] s = true) (hX : va_X b 6 xs s s.heap) (hbl : b < s.heap.size) (hAe : A = fun q : Nat => s.heap.size ≤ q) (hK : va_K (dC, dI) vwCl (zT cyI cyC) s) (xo mo : Nat) (H : Heap) (locs : List Loc) (hP : va_P (dC, dI) vwCl [] H) (hD : va_D A []) (hS : va_S A s.heap H locs) (ls : Array Slot) (hl : lv_has ls 4 [(3, .int 0), (2, .ref mo), (1, .ref xo), (0, .ref b)]) : W p l e room_1 s m #[Value.ref b] below meth c H locs 66 148846 (lw_Z below #[Value.ref b] s) (F0 m 570 ls []) := by
  have hA : ∀ q : Nat, s.heap.size ≤ q → A q := fun q h => by rw [hAe]; exact h
  have hbA : ¬ A b := by rw [hAe]; exact Nat.not_le.mpr hbl
  refine lv_iinc (v := 6) (lv' := [(3, .int 6), (2, .ref mo), (1, .ref xo), (0, .ref b)]) hx hb dL_law_570 hl (k := 0) rfl (by decide) (by decide) rfl (fun ls hl => ?_)
  refine lv_goto (tgt := 18) hx hb dL_law_573 (by decide) ?_
  refine lv_iload_n hx hb dL_law_18 rfl (lv_at hl 0 rfl) ?_
  refine lv_aload_n hx hb dL_law_19 rfl (lv_at hl 3 rfl) ?_
  refine va_slen hx hb hX hbl hbA hS dL_law_20 ?_
  refine zl_i (y := 6) rfl ?_
  refine lv_bipush (v := 6) hx hb dL_law_21 (by decide) ?_
  refine lv_isub hx hb dL_law_23 ?_
  refine zl_i (y := 0) (by decide) ?_
  refine lv_icmp_gt (tgt := 576) hx hb dL_law_24 (by decide) (fun _ => ?_) (fun h9 => absurd (by decide) h9)
  refine lv_iconst (v := 1) hx hb dL_law_576 (by decide) ?_
  refine va_forget (fun q hq => by have h7 := hS.2.2 q hq; rw [hAe] at h7; exact h7) ?_
  refine W.widen (k := 600000) (n := 7302250) (by decide) (by decide) ?_
  exact lw_ret hx hb hr hlocks dL_law_577
