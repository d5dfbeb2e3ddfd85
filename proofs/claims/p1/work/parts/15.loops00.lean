set_option maxRecDepth 100000 in
set_option maxHeartbeats 4000000 in
theorem k_X8_append_s (l : Launch) (dC : Nat → ClassId) (dI : Nat → Nat → Nat) (cyI cyC : ClassId) (h0 : Nat) (h1 : Nat) (u0 : Int32) (u1 : Int32) (f0 : Nat → Int32) (p0 : Int32) (hu : vp_in u0 3000) (hu1 : ¬ (3000 : Int32) ≤ u0) (hu2 : u0 + 1 = u1) : zM l (dC, dI) (zT cyI cyC) yX8_append cX8_append 2 none { frames := 1, cells := 0, slots := 0, locals := 64 } [.ref h0, .int p0] [(h0, .inr (5, [.ref h1, .int u0])), (h1, .inl (cyC, 3000, .inl f0))] (zQv (dC, dI) (zT cyI cyC) (fun w => ∃ g_165 : Nat → Int32, w = [(h0, .inr (5, [.ref h1, .int u1])), (h1, .inl (cyC, 3000, .inl g_165))])) := by
  refine zM.of (by decide +kernel) (Nat.le_of_ble_eq_true rfl) ?_
  intro p e s m below meth c hx hb hr hlocks hml hown hnm hts hK A hA H hP hD hS ls hl
  have hown : s.vm.findClass RX8 = some m.cls := hown
  have hl : lv_has ls 2 [(0, .ref h0), (1, .int p0)] := hl
  refine lv_aload_n hx hb dX8_append_0 rfl (lv_at hl 0 rfl) ?_
  refine va_get (D := (dC, dI)) (ci := 5) (v := .int u0) (C := RX8) (T := TX8) (N := 2) hx hb hts inlX8 hown hK hP 0 rfl rfl 1 (by decide) (hts _ mw_148) (fun _ h9 => h9) rfl dX8_append_1 ?_
  refine lv_sipush (v := 3000) hx hb dX8_append_4 (by decide) ?_
  refine lv_icmp_ge (tgt := 35) hx hb dX8_append_7 (by decide) (fun h9 => absurd h9 hu1) (fun _ => ?_)
  refine lv_aload_n hx hb dX8_append_10 rfl (lv_at hl 0 rfl) ?_
  refine va_get (D := (dC, dI)) (ci := 5) (v := .ref h1) (C := RX8) (T := TX8) (N := 2) hx hb hts inlX8 hown hK hP 0 rfl rfl 0 (by decide) (hts _ mw_43) (fun _ h9 => h9) rfl dX8_append_11 ?_
  refine lv_aload_n hx hb dX8_append_14 rfl (lv_at hl 0 rfl) ?_
  refine va_get (D := (dC, dI)) (ci := 5) (v := .int u0) (C := RX8) (T := TX8) (N := 2) hx hb hts inlX8 hown hK hP 0 rfl rfl 1 (by decide) (hts _ mw_148) (fun _ h9 => h9) rfl dX8_append_15 ?_
  refine lv_iload_n hx hb dX8_append_18 rfl (lv_at hl 1 rfl) ?_
  refine lv_sipush (v := 255) hx hb dX8_append_19 (by decide) ?_
  refine lv_iand hx hb dX8_append_22 ?_
  refine lv_topi (fun x_163 ex_163 => ?_)
  refine lv_i2c hx hb dX8_append_23 rfl ?_
  refine lv_topi (fun x_164 ex_164 => ?_)
  refine va_cast hx hb hK hP hD hS 1 1 rfl rfl hu dX8_append_24 (fun H locs hP hD hS => ?_)
  obtain ⟨g_165, hP, hD⟩ : ∃ g_165 : Nat → Int32, va_P (dC, dI) vwCl [(h0, .inr (5, [.ref h1, .int u0])), (h1, .inl (cyC, 3000, .inl g_165))] H ∧ va_D A [(h0, .inr (5, [.ref h1, .int u0])), (h1, .inl (cyC, 3000, .inl g_165))] := ⟨_, hP, hD⟩
  refine lv_aload_n hx hb dX8_append_25 rfl (lv_at hl 0 rfl) ?_
  refine lv_dup hx hb dX8_append_26 rfl ?_
  refine va_get (D := (dC, dI)) (ci := 5) (v := .int u0) (C := RX8) (T := TX8) (N := 2) hx hb hts inlX8 hown hK hP 0 rfl rfl 1 (by decide) (hts _ mw_148) (fun _ h9 => h9) rfl dX8_append_27 ?_
  refine lv_iconst (v := 1) hx hb dX8_append_30 (by decide) ?_
  refine lv_iadd hx hb dX8_append_31 ?_
  refine zl_i (y := u1) hu2 ?_
  refine va_put (D := (dC, dI)) (ci := 5) (v := .int u1) (ty := .int) (C := RX8) (T := TX8) (N := 2) hx hb hts inlX8 tyX8 tyX8_ok nmX8 hown hK hP hD hS 0 rfl rfl 1 (by decide) (hts _ mw_148) (fun _ h9 => h9) rfl (by decide +kernel) rfl rfl (Nat.le_of_ble_eq_true rfl) dX8_append_32 (fun H locs hP hD hS => ?_)
  have hP : va_P (dC, dI) vwCl [(h0, .inr (5, [.ref h1, .int u1])), (h1, .inl (cyC, 3000, .inl g_165))] H := hP
  have hD : va_D A [(h0, .inr (5, [.ref h1, .int u1])), (h1, .inl (cyC, 3000, .inl g_165))] := hD
  exact zr_v hx hb hr hlocks hK hP hD hS (by decide) (by decide) dX8_append_35 ⟨g_165, rfl⟩
set_option maxRecDepth 100000 in
set_option maxHeartbeats 4000000 in
theorem k_X8_length_2 (l : Launch) (dC : Nat → ClassId) (dI : Nat → Nat → Nat) (cyI cyC : ClassId) (h0 : Nat) (v0 : Value) (u1 : Int32) : zM l (dC, dI) (zT cyI cyC) yX8_length cX8_length 1 (some .int) { frames := 1, cells := 0, slots := 0, locals := 64 } [.ref h0] [(h0, .inr (5, [v0, .int u1]))] (zQi (dC, dI) (zT cyI cyC) (fun r w => r = u1 ∧ w = [(h0, .inr (5, [v0, .int u1]))])) := by
  refine zM.of (by decide +kernel) (Nat.le_of_ble_eq_true rfl) ?_
  intro p e s m below meth c hx hb hr hlocks hml hown hnm hts hK A hA H hP hD hS ls hl
  have hown : s.vm.findClass RX8 = some m.cls := hown
  have hl : lv_has ls 1 [(0, .ref h0)] := hl
  refine lv_aload_n hx hb dX8_length_0 rfl (lv_at hl 0 rfl) ?_
  refine va_get (D := (dC, dI)) (ci := 5) (v := .int u1) (C := RX8) (T := TX8) (N := 2) hx hb hts inlX8 hown hK hP 0 rfl rfl 1 (by decide) (hts _ mw_148) (fun _ h9 => h9) rfl dX8_length_1 ?_
  exact zr_i hx hb hr hlocks hK hP hD hS (by decide) (by decide) dX8_length_4 rfl ⟨rfl, rfl⟩
set_option maxRecDepth 100000 in
set_option maxHeartbeats 4000000 in
theorem l_X11_type {p : Program} {l : Launch} {e : Env} {s : State} {m : MethodId} {args : Array Value} {below : List Frame} {meth : Method} {c : Code} {dC : Nat → ClassId} {dI : Nat → Nat → Nat} {cyI cyC : ClassId} {A : Nat → Prop} {h0 : Nat} {h1 : Nat} {h2 : Nat} {v0 : Value} {v1 : Value} {v2 : Value} {v3 : Value} {v4 : Value} {v5 : Value} {v6 : Value} {v7 : Value} {p0 : Int64} {p1 : Int64} {p2 : Int32} (hx : p.tables.exec = Jvm.exec) (hb : c.code = cX11_type) (hr : meth.sig.returnType = some .int) (hlocks : meth.locks = false) (hml : c.maxLocals = 9) (hown : s.vm.findClass RX11 = some m.cls) (hts : ∀ w ∈ wsL_law, w.before args s = true) (hK : va_K (dC, dI) vwCl (zT cyI cyC) s) (hA : ∀ q : Nat, s.heap.size ≤ q → A q) (hn1 : p2.toInt ≤ 100) (hs : ∀ z : Int32, z.toInt = p2.toInt + 0 → z = zs_type p2) :
    ∀ (k : Nat) (x z : Int32) (f0 : Nat → Int32) (H : Heap) (locs : List Loc) (ls : Array Slot), 0 ≤ x.toInt → x.toInt + k = p2.toInt → z.toInt = x.toInt + 0 → va_P (dC, dI) vwCl [(h0, .inr (8, [.ref h1, v0, v1, v2, v3, v4, v5, v6, v7])), (h1, .inr (5, [.ref h2, .int z])), (h2, .inl (cyC, 3000, .inl f0))] H → va_D A [(h0, .inr (8, [.ref h1, v0, v1, v2, v3, v4, v5, v6, v7])), (h1, .inr (5, [.ref h2, .int z])), (h2, .inl (cyC, 3000, .inl f0))] → va_S A s.heap H locs → lv_has ls 9 [(0, .ref h0), (1, .long p0), (3, .long p1), (5, .int p2), (6, .int x)] → W p l e { frames := 2, cells := 0, slots := 0, locals := 128 } s m args below meth c H locs 0 0 (MQ below (zQi (dC, dI) (zT cyI cyC) (fun r w => r = zs_type p2 ∧ w = []) A) args s 0 0 A) (F0 m 33 ls []) := by
  intro k
  induction k with
  | zero =>
    intro x z f0 H locs ls h0x hk hz hP hD hS hl
    refine lv_iload hx hb dX11_type_33 (lv_at hl 4 rfl) ?_
    refine lv_iload hx hb dX11_type_35 (lv_at hl 3 rfl) ?_
    refine lv_icmp_ge (tgt := 86) hx hb dX11_type_37 (by decide) (fun _ => ?_) (fun h9 => absurd (zge hk) h9)
    refine lv_aload_n hx hb dX11_type_86 rfl (lv_at hl 0 rfl) ?_
    refine va_get (D := (dC, dI)) (ci := 8) (v := .ref h1) (C := RX11) (T := TX11) (N := 9) hx hb hts inlX11 hown hK hP 0 rfl rfl 0 (by decide) (hts _ mw_16) (fun _ h9 => h9) rfl dX11_type_87 ?_
    refine zcVi (wr := [(h0, .inr (8, [.ref h1, v0, v1, v2, v3, v4, v5, v6, v7])), (h2, .inl (cyC, 3000, .inl f0))]) (rest := []) hx hb hml hown hts (k_X8_length_2 l dC dI cyI cyC h1 (.ref h2) z) zo_X8_length zv_X8_length mw_153 ⟨by decide, by decide⟩ hK hP hD hS hA [1] [0, 2] rfl rfl rfl rfl (by decide) rfl rfl hl.1 rfl rfl (Nat.le_of_ble_eq_true rfl) dX11_type_90 ⟨by decide, by decide⟩ (fun r_166 w1 H locs hw hP hD hS => ?_)
    obtain ⟨er_166, rfl⟩ := hw
    refine zl_i (y := z) er_166 ?_
    have hP : va_P (dC, dI) vwCl [(h0, .inr (8, [.ref h1, v0, v1, v2, v3, v4, v5, v6, v7])), (h2, .inl (cyC, 3000, .inl f0)), (h1, .inr (5, [.ref h2, .int z]))] H := hP
    have hD : va_D A [(h0, .inr (8, [.ref h1, v0, v1, v2, v3, v4, v5, v6, v7])), (h2, .inl (cyC, 3000, .inl f0)), (h1, .inr (5, [.ref h2, .int z]))] := hD
    exact zr_i hx hb hr hlocks hK znilP znilD hS (by decide) (by decide) dX11_type_93 rfl ⟨hs z (by omega), rfl⟩
  | succ k ih =>
    intro x z f0 H locs ls h0x hk hz hP hD hS hl
    have hx3 : x.toInt ≤ 2000 := by omega
    have hz3 : z.toInt ≤ 2999 := by omega
    have hz0 : 0 ≤ z.toInt := by omega
    obtain ⟨x1, hx1⟩ : ∃ y : Int32, x + 1 = y := ⟨_, rfl⟩
    obtain ⟨z1, hz1⟩ : ∃ y : Int32, z + 1 = y := ⟨_, rfl⟩
    have hx2 : x1.toInt = x.toInt + 1 := by rw [← hx1]; exact zsuc h0x (by omega)
    have hz2 : z1.toInt = z.toInt + 1 := by rw [← hz1]; exact zsuc hz0 (by omega)
    refine lv_iload hx hb dX11_type_33 (lv_at hl 4 rfl) ?_
    refine lv_iload hx hb dX11_type_35 (lv_at hl 3 rfl) ?_
    refine lv_icmp_ge (tgt := 86) hx hb dX11_type_37 (by decide) (fun h9 => absurd h9 (znge hk)) (fun _ => ?_)
    refine lv_iload hx hb dX11_type_40 (lv_at hl 4 rfl) ?_
    refine lv_bipush (v := 8) hx hb dX11_type_42 (by decide) ?_
    refine lv_icmp_ge (tgt := 51) hx hb dX11_type_44 (by decide) (fun c_44 => ?_) (fun c_44 => ?_)
    · refine lv_lload_n hx hb dX11_type_51 rfl (lv_at hl 2 rfl) ?_
      refine lv_lstore (lv' := [(7, .long p1), (0, .ref h0), (1, .long p0), (3, .long p1), (5, .int p2), (6, .int x)]) hx hb dX11_type_52 hl (by decide) rfl (fun ls hl => ?_)
      refine lv_aload_n hx hb dX11_type_54 rfl (lv_at hl 1 rfl) ?_
      refine va_get (D := (dC, dI)) (ci := 8) (v := .ref h1) (C := RX11) (T := TX11) (N := 9) hx hb hts inlX11 hown hK hP 0 rfl rfl 0 (by decide) (hts _ mw_16) (fun _ h9 => h9) rfl dX11_type_55 ?_
      refine lv_lload hx hb dX11_type_58 (lv_at hl 0 rfl) ?_
      refine lv_bipush (v := 56) hx hb dX11_type_60 (by decide) ?_
      refine lv_bipush (v := 8) hx hb dX11_type_62 (by decide) ?_
      refine lv_iload hx hb dX11_type_64 (lv_at hl 5 rfl) ?_
      refine lv_bipush (v := 7) hx hb dX11_type_66 (by decide) ?_
      refine lv_iand hx hb dX11_type_68 ?_
      refine lv_topi (fun x_167 ex_167 => ?_)
      refine lv_imul hx hb dX11_type_69 ?_
      refine lv_topi (fun x_168 ex_168 => ?_)
      refine lv_isub hx hb dX11_type_70 ?_
      refine lv_topi (fun x_169 ex_169 => ?_)
      refine lv_lushr hx hb dX11_type_71 rfl ?_
      refine lv_topl (fun x_170 ex_170 => ?_)
      refine lv_l2i hx hb dX11_type_72 rfl ?_
      refine lv_topi (fun x_171 ex_171 => ?_)
      refine lv_sipush (v := 255) hx hb dX11_type_73 (by decide) ?_
      refine lv_iand hx hb dX11_type_76 ?_
      refine lv_topi (fun x_172 ex_172 => ?_)
      refine zcVv (wr := [(h0, .inr (8, [.ref h1, v0, v1, v2, v3, v4, v5, v6, v7]))]) (rest := []) hx hb hml hown hts (k_X8_append_s l dC dI cyI cyC h1 h2 z z1 f0 x_172 (zinb hz0 hz3) (zn3 hz3) hz1) zo_X8_append zv_X8_append mw_149 ⟨by decide, by decide⟩ hK hP hD hS hA [1, 2] [0] rfl rfl rfl rfl (by decide) rfl rfl hl.1 rfl rfl (Nat.le_of_ble_eq_true rfl) dX11_type_77 ⟨by decide, by decide⟩ (fun w1 H locs hw hP hD hS => ?_)
      obtain ⟨g_173, rfl⟩ := hw
      have hP : va_P (dC, dI) vwCl [(h0, .inr (8, [.ref h1, v0, v1, v2, v3, v4, v5, v6, v7])), (h1, .inr (5, [.ref h2, .int z1])), (h2, .inl (cyC, 3000, .inl g_173))] H := hP
      have hD : va_D A [(h0, .inr (8, [.ref h1, v0, v1, v2, v3, v4, v5, v6, v7])), (h1, .inr (5, [.ref h2, .int z1])), (h2, .inl (cyC, 3000, .inl g_173))] := hD
      refine lv_iinc (v := x1) (lv' := [(6, .int x1), (7, .long p1), (0, .ref h0), (1, .long p0), (3, .long p1), (5, .int p2)]) hx hb dX11_type_80 hl (k := 5) rfl hx1 (by decide) rfl (fun ls hl => ?_)
      refine lv_goto (tgt := 33) hx hb dX11_type_83 (by decide) ?_
      exact ih x1 z1 g_173 _ _ ls (by omega) (by omega) (by omega) (hP.sub [0, 1, 2] rfl) (hD.sub [0, 1, 2] (by decide) rfl) hS (lv_sub hl [2, 3, 4, 5, 0] rfl)
    · refine lv_lload_n hx hb dX11_type_47 rfl (lv_at hl 1 rfl) ?_
      refine lv_goto (tgt := 52) hx hb dX11_type_48 (by decide) ?_
      refine lv_lstore (lv' := [(7, .long p0), (0, .ref h0), (1, .long p0), (3, .long p1), (5, .int p2), (6, .int x)]) hx hb dX11_type_52 hl (by decide) rfl (fun ls hl => ?_)
      refine lv_aload_n hx hb dX11_type_54 rfl (lv_at hl 1 rfl) ?_
      refine va_get (D := (dC, dI)) (ci := 8) (v := .ref h1) (C := RX11) (T := TX11) (N := 9) hx hb hts inlX11 hown hK hP 0 rfl rfl 0 (by decide) (hts _ mw_16) (fun _ h9 => h9) rfl dX11_type_55 ?_
      refine lv_lload hx hb dX11_type_58 (lv_at hl 0 rfl) ?_
      refine lv_bipush (v := 56) hx hb dX11_type_60 (by decide) ?_
      refine lv_bipush (v := 8) hx hb dX11_type_62 (by decide) ?_
      refine lv_iload hx hb dX11_type_64 (lv_at hl 5 rfl) ?_
      refine lv_bipush (v := 7) hx hb dX11_type_66 (by decide) ?_
      refine lv_iand hx hb dX11_type_68 ?_
      refine lv_topi (fun x_174 ex_174 => ?_)
      refine lv_imul hx hb dX11_type_69 ?_
      refine lv_topi (fun x_175 ex_175 => ?_)
      refine lv_isub hx hb dX11_type_70 ?_
      refine lv_topi (fun x_176 ex_176 => ?_)
      refine lv_lushr hx hb dX11_type_71 rfl ?_
      refine lv_topl (fun x_177 ex_177 => ?_)
      refine lv_l2i hx hb dX11_type_72 rfl ?_
      refine lv_topi (fun x_178 ex_178 => ?_)
      refine lv_sipush (v := 255) hx hb dX11_type_73 (by decide) ?_
      refine lv_iand hx hb dX11_type_76 ?_
      refine lv_topi (fun x_179 ex_179 => ?_)
      refine zcVv (wr := [(h0, .inr (8, [.ref h1, v0, v1, v2, v3, v4, v5, v6, v7]))]) (rest := []) hx hb hml hown hts (k_X8_append_s l dC dI cyI cyC h1 h2 z z1 f0 x_179 (zinb hz0 hz3) (zn3 hz3) hz1) zo_X8_append zv_X8_append mw_149 ⟨by decide, by decide⟩ hK hP hD hS hA [1, 2] [0] rfl rfl rfl rfl (by decide) rfl rfl hl.1 rfl rfl (Nat.le_of_ble_eq_true rfl) dX11_type_77 ⟨by decide, by decide⟩ (fun w1 H locs hw hP hD hS => ?_)
      obtain ⟨g_180, rfl⟩ := hw
      have hP : va_P (dC, dI) vwCl [(h0, .inr (8, [.ref h1, v0, v1, v2, v3, v4, v5, v6, v7])), (h1, .inr (5, [.ref h2, .int z1])), (h2, .inl (cyC, 3000, .inl g_180))] H := hP
      have hD : va_D A [(h0, .inr (8, [.ref h1, v0, v1, v2, v3, v4, v5, v6, v7])), (h1, .inr (5, [.ref h2, .int z1])), (h2, .inl (cyC, 3000, .inl g_180))] := hD
      refine lv_iinc (v := x1) (lv' := [(6, .int x1), (7, .long p0), (0, .ref h0), (1, .long p0), (3, .long p1), (5, .int p2)]) hx hb dX11_type_80 hl (k := 5) rfl hx1 (by decide) rfl (fun ls hl => ?_)
      refine lv_goto (tgt := 33) hx hb dX11_type_83 (by decide) ?_
      exact ih x1 z1 g_180 _ _ ls (by omega) (by omega) (by omega) (hP.sub [0, 1, 2] rfl) (hD.sub [0, 1, 2] (by decide) rfl) hS (lv_sub hl [2, 3, 4, 5, 0] rfl)
set_option maxRecDepth 100000 in
set_option maxHeartbeats 4000000 in
theorem k_X8_hasRoom_1 (l : Launch) (dC : Nat → ClassId) (dI : Nat → Nat → Nat) (cyI cyC : ClassId) (h0 : Nat) (v0 : Value) (p0 : Int32) : zM l (dC, dI) (zT cyI cyC) yX8_hasRoom cX8_hasRoom 2 (some .boolean) { frames := 1, cells := 0, slots := 0, locals := 64 } [.ref h0, .int p0] [(h0, .inr (5, [v0, .int 0]))] (zQi (dC, dI) (zT cyI cyC) (fun r w => r = (if (3000 : Int32) < p0 then 0 else 1) ∧ w = [(h0, .inr (5, [v0, .int 0]))])) := by
  refine zM.of (by decide +kernel) (Nat.le_of_ble_eq_true rfl) ?_
  intro p e s m below meth c hx hb hr hlocks hml hown hnm hts hK A hA H hP hD hS ls hl
  have hown : s.vm.findClass RX8 = some m.cls := hown
  have hl : lv_has ls 2 [(0, .ref h0), (1, .int p0)] := hl
  refine lv_iload_n hx hb dX8_hasRoom_0 rfl (lv_at hl 1 rfl) ?_
  refine lv_sipush (v := 3000) hx hb dX8_hasRoom_1 (by decide) ?_
  refine lv_aload_n hx hb dX8_hasRoom_4 rfl (lv_at hl 0 rfl) ?_
  refine va_get (D := (dC, dI)) (ci := 5) (v := .int 0) (C := RX8) (T := TX8) (N := 2) hx hb hts inlX8 hown hK hP 0 rfl rfl 1 (by decide) (hts _ mw_148) (fun _ h9 => h9) rfl dX8_hasRoom_5 ?_
  refine lv_isub hx hb dX8_hasRoom_8 ?_
  refine zl_i (y := 3000) (by decide) ?_
  refine lv_icmp_gt (tgt := 16) hx hb dX8_hasRoom_9 (by decide) (fun c_9 => ?_) (fun c_9 => ?_)
  · refine lv_iconst (v := 0) hx hb dX8_hasRoom_16 (by decide) ?_
    exact zr_i hx hb hr hlocks hK hP hD hS (by decide) (by decide) dX8_hasRoom_17 rfl ⟨(by rw [if_pos c_9]), rfl⟩
  · refine lv_iconst (v := 1) hx hb dX8_hasRoom_12 (by decide) ?_
    refine lv_goto (tgt := 17) hx hb dX8_hasRoom_13 (by decide) ?_
    exact zr_i hx hb hr hlocks hK hP hD hS (by decide) (by decide) dX8_hasRoom_17 rfl ⟨(by rw [if_neg c_9]), rfl⟩
set_option maxRecDepth 100000 in
set_option maxHeartbeats 4000000 in
theorem k_X11_type_0 (l : Launch) (dC : Nat → ClassId) (dI : Nat → Nat → Nat) (cyI cyC : ClassId) (h0 : Nat) (h1 : Nat) (h2 : Nat) (v0 : Value) (v1 : Value) (v2 : Value) (v3 : Value) (v4 : Value) (v5 : Value) (v6 : Value) (v7 : Value) (f0 : Nat → Int32) (p0 : Int64) (p1 : Int64) (p2 : Int32) : zM l (dC, dI) (zT cyI cyC) yX11_type cX11_type 9 (some .int) { frames := 2, cells := 0, slots := 0, locals := 128 } [.ref h0, .long p0, .long p1, .int p2] [(h0, .inr (8, [.ref h1, v0, v1, v2, v3, v4, v5, v6, v7])), (h1, .inr (5, [.ref h2, .int 0])), (h2, .inl (cyC, 3000, .inl f0))] (zQi (dC, dI) (zT cyI cyC) (fun r w => r = zs_type p2 ∧ w = [])) := by
  refine zM.of (by decide +kernel) (Nat.le_of_ble_eq_true rfl) ?_
  intro p e s m below meth c hx hb hr hlocks hml hown hnm hts hK A hA H hP hD hS ls hl
  have hown : s.vm.findClass RX11 = some m.cls := hown
  have hl : lv_has ls 9 [(0, .ref h0), (1, .long p0), (3, .long p1), (5, .int p2)] := hl
  refine lv_iload hx hb dX11_type_0 (lv_at hl 3 rfl) ?_
  refine lv_if_lt (tgt := 12) hx hb dX11_type_2 (by decide) (fun c_2 => ?_) (fun c_2 => ?_)
  · refine lv_bipush (v := (-2)) hx hb dX11_type_12 (by decide) ?_
    exact zr_i hx hb hr hlocks hK znilP znilD hS (by decide) (by decide) dX11_type_14 rfl ⟨(by rw [zs_type_eq, if_pos c_2]), rfl⟩
  · refine lv_iload hx hb dX11_type_5 (lv_at hl 3 rfl) ?_
    refine lv_bipush (v := 16) hx hb dX11_type_7 (by decide) ?_
    refine lv_icmp_le (tgt := 15) hx hb dX11_type_9 (by decide) (fun c_9 => ?_) (fun c_9 => ?_)
    · refine lv_aload_n hx hb dX11_type_15 rfl (lv_at hl 0 rfl) ?_
      refine va_get (D := (dC, dI)) (ci := 8) (v := .ref h1) (C := RX11) (T := TX11) (N := 9) hx hb hts inlX11 hown hK hP 0 rfl rfl 0 (by decide) (hts _ mw_16) (fun _ h9 => h9) rfl dX11_type_16 ?_
      refine lv_iload hx hb dX11_type_19 (lv_at hl 3 rfl) ?_
      refine zcVi (wr := [(h0, .inr (8, [.ref h1, v0, v1, v2, v3, v4, v5, v6, v7])), (h2, .inl (cyC, 3000, .inl f0))]) (rest := []) hx hb hml hown hts (k_X8_hasRoom_1 l dC dI cyI cyC h1 (.ref h2) p2) zo_X8_hasRoom zv_X8_hasRoom mw_144 ⟨by decide, by decide⟩ hK hP hD hS hA [1] [0, 2] rfl rfl rfl rfl (by decide) rfl rfl hl.1 rfl rfl (Nat.le_of_ble_eq_true rfl) dX11_type_21 ⟨by decide, by decide⟩ (fun r_181 w1 H locs hw hP hD hS => ?_)
      obtain ⟨er_181, rfl⟩ := hw
      have hP : va_P (dC, dI) vwCl [(h0, .inr (8, [.ref h1, v0, v1, v2, v3, v4, v5, v6, v7])), (h2, .inl (cyC, 3000, .inl f0)), (h1, .inr (5, [.ref h2, .int 0]))] H := hP
      have hD : va_D A [(h0, .inr (8, [.ref h1, v0, v1, v2, v3, v4, v5, v6, v7])), (h2, .inl (cyC, 3000, .inl f0)), (h1, .inr (5, [.ref h2, .int 0]))] := hD
      refine lv_if_ne (tgt := 30) hx hb dX11_type_24 (by decide) (fun c_24 => ?_) (fun c_24 => ?_)
      · refine lv_iconst (v := 0) hx hb dX11_type_30 (by decide) ?_
        refine lv_istore (lv' := [(6, .int 0), (0, .ref h0), (1, .long p0), (3, .long p1), (5, .int p2)]) hx hb dX11_type_31 hl (by decide) rfl (fun ls hl => ?_)
        exact l_X11_type hx hb hr hlocks hml hown hts hK hA (by have h7 := zbc (hi := 16) c_2 c_9; have h8 : (16 : Int32).toInt = 16 := (by decide); omega) (fun z h => by rw [zs_type_eq, if_neg c_2, if_pos c_9]; exact Int32.toInt_inj.mp (by omega)) p2.toInt.toNat 0 0 f0 _ _ ls (by decide) (by have h7 := zbc (hi := 16) c_2 c_9; have h8 := z0; omega) (by decide) (hP.sub [0, 2, 1] rfl) (hD.sub [0, 2, 1] (by decide) rfl) hS (lv_sub hl [1, 2, 3, 4, 0] rfl)
      · refine lv_bipush (v := (-3)) hx hb dX11_type_27 (by decide) ?_
        exact zr_i hx hb hr hlocks hK znilP znilD hS (by decide) (by decide) dX11_type_29 rfl ⟨(absurd (c_24.symm.trans er_181) (by rw [if_neg (zn4 (by have h7 := zbc (hi := 16) c_2 c_9; have h8 : (16 : Int32).toInt = 16 := (by decide); omega))]; decide)), rfl⟩
    · refine lv_bipush (v := (-2)) hx hb dX11_type_12 (by decide) ?_
      exact zr_i hx hb hr hlocks hK znilP znilD hS (by decide) (by decide) dX11_type_14 rfl ⟨(by rw [zs_type_eq, if_neg c_2, if_neg c_9]), rfl⟩
set_option maxRecDepth 100000 in
set_option maxHeartbeats 4000000 in
theorem l_X11_space_0 {p : Program} {l : Launch} {e : Env} {s : State} {m : MethodId} {args : Array Value} {below : List Frame} {meth : Method} {c : Code} {dC : Nat → ClassId} {dI : Nat → Nat → Nat} {cyI cyC : ClassId} {A : Nat → Prop} {h0 : Nat} {h1 : Nat} {h2 : Nat} {v0 : Value} {v1 : Value} {v2 : Value} {v3 : Value} {v4 : Value} {v5 : Value} {v6 : Value} {v7 : Value} {p0 : Int32} (hx : p.tables.exec = Jvm.exec) (hb : c.code = cX11_space) (hr : meth.sig.returnType = some .int) (hlocks : meth.locks = false) (hml : c.maxLocals = 4) (hown : s.vm.findClass RX11 = some m.cls) (hts : ∀ w ∈ wsL_law, w.before args s = true) (hK : va_K (dC, dI) vwCl (zT cyI cyC) s) (hA : ∀ q : Nat, s.heap.size ≤ q → A q) (hn1 : p0.toInt ≤ 100) (hs : ∀ z : Int32, z.toInt = p0.toInt + 0 → z = zs_space 0 p0) :
    ∀ (k : Nat) (x z : Int32) (f0 : Nat → Int32) (H : Heap) (locs : List Loc) (ls : Array Slot), 0 ≤ x.toInt → x.toInt + k = p0.toInt → z.toInt = x.toInt + 0 → va_P (dC, dI) vwCl [(h0, .inr (8, [.ref h1, v0, v1, v2, v3, v4, v5, v6, v7])), (h1, .inr (5, [.ref h2, .int z])), (h2, .inl (cyC, 3000, .inl f0))] H → va_D A [(h0, .inr (8, [.ref h1, v0, v1, v2, v3, v4, v5, v6, v7])), (h1, .inr (5, [.ref h2, .int z])), (h2, .inl (cyC, 3000, .inl f0))] → va_S A s.heap H locs → lv_has ls 4 [(0, .ref h0), (1, .int 0), (2, .int p0), (3, .int x)] → W p l e { frames := 2, cells := 0, slots := 0, locals := 128 } s m args below meth c H locs 0 0 (MQ below (zQi (dC, dI) (zT cyI cyC) (fun r w => r = zs_space 0 p0 ∧ w = []) A) args s 0 0 A) (F0 m 52 ls []) := by
  intro k
  induction k with
  | zero =>
    intro x z f0 H locs ls h0x hk hz hP hD hS hl
    refine lv_iload_n hx hb dX11_space_52 rfl (lv_at hl 3 rfl) ?_
    refine lv_iload_n hx hb dX11_space_53 rfl (lv_at hl 2 rfl) ?_
    refine lv_icmp_ge (tgt := 72) hx hb dX11_space_54 (by decide) (fun _ => ?_) (fun h9 => absurd (zge hk) h9)
    refine lv_aload_n hx hb dX11_space_72 rfl (lv_at hl 0 rfl) ?_
    refine va_get (D := (dC, dI)) (ci := 8) (v := .ref h1) (C := RX11) (T := TX11) (N := 9) hx hb hts inlX11 hown hK hP 0 rfl rfl 0 (by decide) (hts _ mw_16) (fun _ h9 => h9) rfl dX11_space_73 ?_
    refine zcVi (wr := [(h0, .inr (8, [.ref h1, v0, v1, v2, v3, v4, v5, v6, v7])), (h2, .inl (cyC, 3000, .inl f0))]) (rest := []) hx hb hml hown hts (k_X8_length_2 l dC dI cyI cyC h1 (.ref h2) z) zo_X8_length zv_X8_length mw_153 ⟨by decide, by decide⟩ hK hP hD hS hA [1] [0, 2] rfl rfl rfl rfl (by decide) rfl rfl hl.1 rfl rfl (Nat.le_of_ble_eq_true rfl) dX11_space_76 ⟨by decide, by decide⟩ (fun r_182 w1 H locs hw hP hD hS => ?_)
    obtain ⟨er_182, rfl⟩ := hw
    refine zl_i (y := z) er_182 ?_
    have hP : va_P (dC, dI) vwCl [(h0, .inr (8, [.ref h1, v0, v1, v2, v3, v4, v5, v6, v7])), (h2, .inl (cyC, 3000, .inl f0)), (h1, .inr (5, [.ref h2, .int z]))] H := hP
    have hD : va_D A [(h0, .inr (8, [.ref h1, v0, v1, v2, v3, v4, v5, v6, v7])), (h2, .inl (cyC, 3000, .inl f0)), (h1, .inr (5, [.ref h2, .int z]))] := hD
    exact zr_i hx hb hr hlocks hK znilP znilD hS (by decide) (by decide) dX11_space_79 rfl ⟨hs z (by omega), rfl⟩
  | succ k ih =>
    intro x z f0 H locs ls h0x hk hz hP hD hS hl
    have hx3 : x.toInt ≤ 2000 := by omega
    have hz3 : z.toInt ≤ 2999 := by omega
    have hz0 : 0 ≤ z.toInt := by omega
    obtain ⟨x1, hx1⟩ : ∃ y : Int32, x + 1 = y := ⟨_, rfl⟩
    obtain ⟨z1, hz1⟩ : ∃ y : Int32, z + 1 = y := ⟨_, rfl⟩
    have hx2 : x1.toInt = x.toInt + 1 := by rw [← hx1]; exact zsuc h0x (by omega)
    have hz2 : z1.toInt = z.toInt + 1 := by rw [← hz1]; exact zsuc hz0 (by omega)
    refine lv_iload_n hx hb dX11_space_52 rfl (lv_at hl 3 rfl) ?_
    refine lv_iload_n hx hb dX11_space_53 rfl (lv_at hl 2 rfl) ?_
    refine lv_icmp_ge (tgt := 72) hx hb dX11_space_54 (by decide) (fun h9 => absurd h9 (znge hk)) (fun _ => ?_)
    refine lv_aload_n hx hb dX11_space_57 rfl (lv_at hl 0 rfl) ?_
    refine va_get (D := (dC, dI)) (ci := 8) (v := .ref h1) (C := RX11) (T := TX11) (N := 9) hx hb hts inlX11 hown hK hP 0 rfl rfl 0 (by decide) (hts _ mw_16) (fun _ h9 => h9) rfl dX11_space_58 ?_
    refine lv_bipush (v := 32) hx hb dX11_space_61 (by decide) ?_
    refine zcVv (wr := [(h0, .inr (8, [.ref h1, v0, v1, v2, v3, v4, v5, v6, v7]))]) (rest := []) hx hb hml hown hts (k_X8_append_s l dC dI cyI cyC h1 h2 z z1 f0 32 (zinb hz0 hz3) (zn3 hz3) hz1) zo_X8_append zv_X8_append mw_149 ⟨by decide, by decide⟩ hK hP hD hS hA [1, 2] [0] rfl rfl rfl rfl (by decide) rfl rfl hl.1 rfl rfl (Nat.le_of_ble_eq_true rfl) dX11_space_63 ⟨by decide, by decide⟩ (fun w1 H locs hw hP hD hS => ?_)
    obtain ⟨g_183, rfl⟩ := hw
    have hP : va_P (dC, dI) vwCl [(h0, .inr (8, [.ref h1, v0, v1, v2, v3, v4, v5, v6, v7])), (h1, .inr (5, [.ref h2, .int z1])), (h2, .inl (cyC, 3000, .inl g_183))] H := hP
    have hD : va_D A [(h0, .inr (8, [.ref h1, v0, v1, v2, v3, v4, v5, v6, v7])), (h1, .inr (5, [.ref h2, .int z1])), (h2, .inl (cyC, 3000, .inl g_183))] := hD
    refine lv_iinc (v := x1) (lv' := [(3, .int x1), (0, .ref h0), (1, .int 0), (2, .int p0)]) hx hb dX11_space_66 hl (k := 3) rfl hx1 (by decide) rfl (fun ls hl => ?_)
    refine lv_goto (tgt := 52) hx hb dX11_space_69 (by decide) ?_
    exact ih x1 z1 g_183 _ _ ls (by omega) (by omega) (by omega) (hP.sub [0, 1, 2] rfl) (hD.sub [0, 1, 2] (by decide) rfl) hS (lv_sub hl [1, 2, 3, 0] rfl)
set_option maxRecDepth 100000 in
set_option maxHeartbeats 4000000 in
theorem k_X11_space_0 (l : Launch) (dC : Nat → ClassId) (dI : Nat → Nat → Nat) (cyI cyC : ClassId) (h0 : Nat) (h1 : Nat) (h2 : Nat) (v0 : Value) (v1 : Value) (v2 : Value) (v3 : Value) (v4 : Value) (v5 : Value) (v6 : Value) (v7 : Value) (f0 : Nat → Int32) (p0 : Int32) : zM l (dC, dI) (zT cyI cyC) yX11_space cX11_space 4 (some .int) { frames := 2, cells := 0, slots := 0, locals := 128 } [.ref h0, .int 0, .int p0] [(h0, .inr (8, [.ref h1, v0, v1, v2, v3, v4, v5, v6, v7])), (h1, .inr (5, [.ref h2, .int 0])), (h2, .inl (cyC, 3000, .inl f0))] (zQi (dC, dI) (zT cyI cyC) (fun r w => r = zs_space 0 p0 ∧ w = [])) := by
  refine zM.of (by decide +kernel) (Nat.le_of_ble_eq_true rfl) ?_
  intro p e s m below meth c hx hb hr hlocks hml hown hnm hts hK A hA H hP hD hS ls hl
  have hown : s.vm.findClass RX11 = some m.cls := hown
  have hl : lv_has ls 4 [(0, .ref h0), (1, .int 0), (2, .int p0)] := hl
  refine lv_iload_n hx hb dX11_space_0 rfl (lv_at hl 2 rfl) ?_
  refine lv_if_lt (tgt := 10) hx hb dX11_space_1 (by decide) (fun c_1 => ?_) (fun c_1 => ?_)
  · refine lv_bipush (v := (-2)) hx hb dX11_space_10 (by decide) ?_
    exact zr_i hx hb hr hlocks hK znilP znilD hS (by decide) (by decide) dX11_space_12 rfl ⟨(by rw [zs_space_eq, if_pos c_1]), rfl⟩
  · refine lv_iload_n hx hb dX11_space_4 rfl (lv_at hl 2 rfl) ?_
    refine lv_bipush (v := 80) hx hb dX11_space_5 (by decide) ?_
    refine lv_icmp_le (tgt := 13) hx hb dX11_space_7 (by decide) (fun c_7 => ?_) (fun c_7 => ?_)
    · refine lv_aload_n hx hb dX11_space_13 rfl (lv_at hl 0 rfl) ?_
      refine va_get (D := (dC, dI)) (ci := 8) (v := .ref h1) (C := RX11) (T := TX11) (N := 9) hx hb hts inlX11 hown hK hP 0 rfl rfl 0 (by decide) (hts _ mw_16) (fun _ h9 => h9) rfl dX11_space_14 ?_
      refine lv_iload_n hx hb dX11_space_17 rfl (lv_at hl 1 rfl) ?_
      refine lv_if_eq (tgt := 27) hx hb dX11_space_18 (by decide) (fun _ => ?_) (fun h9 => absurd (by decide) h9)
      refine lv_iload_n hx hb dX11_space_27 rfl (lv_at hl 2 rfl) ?_
      refine zcVi (wr := [(h0, .inr (8, [.ref h1, v0, v1, v2, v3, v4, v5, v6, v7])), (h2, .inl (cyC, 3000, .inl f0))]) (rest := []) hx hb hml hown hts (k_X8_hasRoom_1 l dC dI cyI cyC h1 (.ref h2) p0) zo_X8_hasRoom zv_X8_hasRoom mw_144 ⟨by decide, by decide⟩ hK hP hD hS hA [1] [0, 2] rfl rfl rfl rfl (by decide) rfl rfl hl.1 rfl rfl (Nat.le_of_ble_eq_true rfl) dX11_space_28 ⟨by decide, by decide⟩ (fun r_184 w1 H locs hw hP hD hS => ?_)
      obtain ⟨er_184, rfl⟩ := hw
      have hP : va_P (dC, dI) vwCl [(h0, .inr (8, [.ref h1, v0, v1, v2, v3, v4, v5, v6, v7])), (h2, .inl (cyC, 3000, .inl f0)), (h1, .inr (5, [.ref h2, .int 0]))] H := hP
      have hD : va_D A [(h0, .inr (8, [.ref h1, v0, v1, v2, v3, v4, v5, v6, v7])), (h2, .inl (cyC, 3000, .inl f0)), (h1, .inr (5, [.ref h2, .int 0]))] := hD
      refine lv_if_ne (tgt := 37) hx hb dX11_space_31 (by decide) (fun c_31 => ?_) (fun c_31 => ?_)
      · refine lv_iload_n hx hb dX11_space_37 rfl (lv_at hl 1 rfl) ?_
        refine lv_if_eq (tgt := 50) hx hb dX11_space_38 (by decide) (fun _ => ?_) (fun h9 => absurd (by decide) h9)
        refine lv_iconst (v := 0) hx hb dX11_space_50 (by decide) ?_
        refine lv_istore_n (lv' := [(3, .int 0), (0, .ref h0), (1, .int 0), (2, .int p0)]) hx hb dX11_space_51 rfl hl (by decide) rfl (fun ls hl => ?_)
        exact l_X11_space_0 hx hb hr hlocks hml hown hts hK hA (by have h7 := zbc (hi := 80) c_1 c_7; have h8 : (80 : Int32).toInt = 80 := (by decide); omega) (fun z h => by rw [zs_space_eq, if_neg c_1, if_pos c_7]; exact Int32.toInt_inj.mp (by have h7 := zbc (hi := 80) c_1 c_7; have h8 : (80 : Int32).toInt = 80 := (by decide); rw [zadd (by decide) (by decide) h7.1 (by omega)]; have h9 : (0 : Int32).toInt = 0 := (by decide); omega)) p0.toInt.toNat 0 0 f0 _ _ ls (by decide) (by have h7 := zbc (hi := 80) c_1 c_7; have h8 := z0; omega) (by decide) (hP.sub [0, 2, 1] rfl) (hD.sub [0, 2, 1] (by decide) rfl) hS (lv_sub hl [1, 2, 3, 0] rfl)
      · refine lv_bipush (v := (-3)) hx hb dX11_space_34 (by decide) ?_
        exact zr_i hx hb hr hlocks hK znilP znilD hS (by decide) (by decide) dX11_space_36 rfl ⟨(absurd (c_31.symm.trans er_184) (by rw [if_neg (zn4 (by have h7 := zbc (hi := 80) c_1 c_7; have h8 : (80 : Int32).toInt = 80 := (by decide); omega))]; decide)), rfl⟩
    · refine lv_bipush (v := (-2)) hx hb dX11_space_10 (by decide) ?_
      exact zr_i hx hb hr hlocks hK znilP znilD hS (by decide) (by decide) dX11_space_12 rfl ⟨(by rw [zs_space_eq, if_neg c_1, if_neg c_7]), rfl⟩
set_option maxRecDepth 100000 in
set_option maxHeartbeats 4000000 in
theorem l_X11_space_1 {p : Program} {l : Launch} {e : Env} {s : State} {m : MethodId} {args : Array Value} {below : List Frame} {meth : Method} {c : Code} {dC : Nat → ClassId} {dI : Nat → Nat → Nat} {cyI cyC : ClassId} {A : Nat → Prop} {h0 : Nat} {h1 : Nat} {h2 : Nat} {v0 : Value} {v1 : Value} {v2 : Value} {v3 : Value} {v4 : Value} {v5 : Value} {v6 : Value} {v7 : Value} {p0 : Int32} (hx : p.tables.exec = Jvm.exec) (hb : c.code = cX11_space) (hr : meth.sig.returnType = some .int) (hlocks : meth.locks = false) (hml : c.maxLocals = 4) (hown : s.vm.findClass RX11 = some m.cls) (hts : ∀ w ∈ wsL_law, w.before args s = true) (hK : va_K (dC, dI) vwCl (zT cyI cyC) s) (hA : ∀ q : Nat, s.heap.size ≤ q → A q) (hn1 : p0.toInt ≤ 100) (hs : ∀ z : Int32, z.toInt = p0.toInt + 1 → z = zs_space 1 p0) :
    ∀ (k : Nat) (x z : Int32) (f0 : Nat → Int32) (H : Heap) (locs : List Loc) (ls : Array Slot), 0 ≤ x.toInt → x.toInt + k = p0.toInt → z.toInt = x.toInt + 1 → va_P (dC, dI) vwCl [(h0, .inr (8, [.ref h1, v0, v1, v2, v3, v4, v5, v6, v7])), (h1, .inr (5, [.ref h2, .int z])), (h2, .inl (cyC, 3000, .inl f0))] H → va_D A [(h0, .inr (8, [.ref h1, v0, v1, v2, v3, v4, v5, v6, v7])), (h1, .inr (5, [.ref h2, .int z])), (h2, .inl (cyC, 3000, .inl f0))] → va_S A s.heap H locs → lv_has ls 4 [(0, .ref h0), (1, .int 1), (2, .int p0), (3, .int x)] → W p l e { frames := 2, cells := 0, slots := 0, locals := 128 } s m args below meth c H locs 0 0 (MQ below (zQi (dC, dI) (zT cyI cyC) (fun r w => r = zs_space 1 p0 ∧ w = []) A) args s 0 0 A) (F0 m 52 ls []) := by
  intro k
  induction k with
  | zero =>
    intro x z f0 H locs ls h0x hk hz hP hD hS hl
    refine lv_iload_n hx hb dX11_space_52 rfl (lv_at hl 3 rfl) ?_
    refine lv_iload_n hx hb dX11_space_53 rfl (lv_at hl 2 rfl) ?_
    refine lv_icmp_ge (tgt := 72) hx hb dX11_space_54 (by decide) (fun _ => ?_) (fun h9 => absurd (zge hk) h9)
    refine lv_aload_n hx hb dX11_space_72 rfl (lv_at hl 0 rfl) ?_
    refine va_get (D := (dC, dI)) (ci := 8) (v := .ref h1) (C := RX11) (T := TX11) (N := 9) hx hb hts inlX11 hown hK hP 0 rfl rfl 0 (by decide) (hts _ mw_16) (fun _ h9 => h9) rfl dX11_space_73 ?_
    refine zcVi (wr := [(h0, .inr (8, [.ref h1, v0, v1, v2, v3, v4, v5, v6, v7])), (h2, .inl (cyC, 3000, .inl f0))]) (rest := []) hx hb hml hown hts (k_X8_length_2 l dC dI cyI cyC h1 (.ref h2) z) zo_X8_length zv_X8_length mw_153 ⟨by decide, by decide⟩ hK hP hD hS hA [1] [0, 2] rfl rfl rfl rfl (by decide) rfl rfl hl.1 rfl rfl (Nat.le_of_ble_eq_true rfl) dX11_space_76 ⟨by decide, by decide⟩ (fun r_185 w1 H locs hw hP hD hS => ?_)
    obtain ⟨er_185, rfl⟩ := hw
    refine zl_i (y := z) er_185 ?_
    have hP : va_P (dC, dI) vwCl [(h0, .inr (8, [.ref h1, v0, v1, v2, v3, v4, v5, v6, v7])), (h2, .inl (cyC, 3000, .inl f0)), (h1, .inr (5, [.ref h2, .int z]))] H := hP
    have hD : va_D A [(h0, .inr (8, [.ref h1, v0, v1, v2, v3, v4, v5, v6, v7])), (h2, .inl (cyC, 3000, .inl f0)), (h1, .inr (5, [.ref h2, .int z]))] := hD
    exact zr_i hx hb hr hlocks hK znilP znilD hS (by decide) (by decide) dX11_space_79 rfl ⟨hs z (by omega), rfl⟩
  | succ k ih =>
    intro x z f0 H locs ls h0x hk hz hP hD hS hl
    have hx3 : x.toInt ≤ 2000 := by omega
    have hz3 : z.toInt ≤ 2999 := by omega
    have hz0 : 0 ≤ z.toInt := by omega
    obtain ⟨x1, hx1⟩ : ∃ y : Int32, x + 1 = y := ⟨_, rfl⟩
    obtain ⟨z1, hz1⟩ : ∃ y : Int32, z + 1 = y := ⟨_, rfl⟩
    have hx2 : x1.toInt = x.toInt + 1 := by rw [← hx1]; exact zsuc h0x (by omega)
    have hz2 : z1.toInt = z.toInt + 1 := by rw [← hz1]; exact zsuc hz0 (by omega)
    refine lv_iload_n hx hb dX11_space_52 rfl (lv_at hl 3 rfl) ?_
    refine lv_iload_n hx hb dX11_space_53 rfl (lv_at hl 2 rfl) ?_
    refine lv_icmp_ge (tgt := 72) hx hb dX11_space_54 (by decide) (fun h9 => absurd h9 (znge hk)) (fun _ => ?_)
    refine lv_aload_n hx hb dX11_space_57 rfl (lv_at hl 0 rfl) ?_
    refine va_get (D := (dC, dI)) (ci := 8) (v := .ref h1) (C := RX11) (T := TX11) (N := 9) hx hb hts inlX11 hown hK hP 0 rfl rfl 0 (by decide) (hts _ mw_16) (fun _ h9 => h9) rfl dX11_space_58 ?_
    refine lv_bipush (v := 32) hx hb dX11_space_61 (by decide) ?_
    refine zcVv (wr := [(h0, .inr (8, [.ref h1, v0, v1, v2, v3, v4, v5, v6, v7]))]) (rest := []) hx hb hml hown hts (k_X8_append_s l dC dI cyI cyC h1 h2 z z1 f0 32 (zinb hz0 hz3) (zn3 hz3) hz1) zo_X8_append zv_X8_append mw_149 ⟨by decide, by decide⟩ hK hP hD hS hA [1, 2] [0] rfl rfl rfl rfl (by decide) rfl rfl hl.1 rfl rfl (Nat.le_of_ble_eq_true rfl) dX11_space_63 ⟨by decide, by decide⟩ (fun w1 H locs hw hP hD hS => ?_)
    obtain ⟨g_186, rfl⟩ := hw
    have hP : va_P (dC, dI) vwCl [(h0, .inr (8, [.ref h1, v0, v1, v2, v3, v4, v5, v6, v7])), (h1, .inr (5, [.ref h2, .int z1])), (h2, .inl (cyC, 3000, .inl g_186))] H := hP
    have hD : va_D A [(h0, .inr (8, [.ref h1, v0, v1, v2, v3, v4, v5, v6, v7])), (h1, .inr (5, [.ref h2, .int z1])), (h2, .inl (cyC, 3000, .inl g_186))] := hD
    refine lv_iinc (v := x1) (lv' := [(3, .int x1), (0, .ref h0), (1, .int 1), (2, .int p0)]) hx hb dX11_space_66 hl (k := 3) rfl hx1 (by decide) rfl (fun ls hl => ?_)
    refine lv_goto (tgt := 52) hx hb dX11_space_69 (by decide) ?_
    exact ih x1 z1 g_186 _ _ ls (by omega) (by omega) (by omega) (hP.sub [0, 1, 2] rfl) (hD.sub [0, 1, 2] (by decide) rfl) hS (lv_sub hl [1, 2, 3, 0] rfl)
set_option maxRecDepth 100000 in
set_option maxHeartbeats 4000000 in
theorem k_X11_space_1 (l : Launch) (dC : Nat → ClassId) (dI : Nat → Nat → Nat) (cyI cyC : ClassId) (h0 : Nat) (h1 : Nat) (h2 : Nat) (v0 : Value) (v1 : Value) (v2 : Value) (v3 : Value) (v4 : Value) (v5 : Value) (v6 : Value) (v7 : Value) (f0 : Nat → Int32) (p0 : Int32) : zM l (dC, dI) (zT cyI cyC) yX11_space cX11_space 4 (some .int) { frames := 2, cells := 0, slots := 0, locals := 128 } [.ref h0, .int 1, .int p0] [(h0, .inr (8, [.ref h1, v0, v1, v2, v3, v4, v5, v6, v7])), (h1, .inr (5, [.ref h2, .int 0])), (h2, .inl (cyC, 3000, .inl f0))] (zQi (dC, dI) (zT cyI cyC) (fun r w => r = zs_space 1 p0 ∧ w = [])) := by
  refine zM.of (by decide +kernel) (Nat.le_of_ble_eq_true rfl) ?_
  intro p e s m below meth c hx hb hr hlocks hml hown hnm hts hK A hA H hP hD hS ls hl
  have hown : s.vm.findClass RX11 = some m.cls := hown
  have hl : lv_has ls 4 [(0, .ref h0), (1, .int 1), (2, .int p0)] := hl
  refine lv_iload_n hx hb dX11_space_0 rfl (lv_at hl 2 rfl) ?_
  refine lv_if_lt (tgt := 10) hx hb dX11_space_1 (by decide) (fun c_1 => ?_) (fun c_1 => ?_)
  · refine lv_bipush (v := (-2)) hx hb dX11_space_10 (by decide) ?_
    exact zr_i hx hb hr hlocks hK znilP znilD hS (by decide) (by decide) dX11_space_12 rfl ⟨(by rw [zs_space_eq, if_pos c_1]), rfl⟩
  · refine lv_iload_n hx hb dX11_space_4 rfl (lv_at hl 2 rfl) ?_
    refine lv_bipush (v := 80) hx hb dX11_space_5 (by decide) ?_
    refine lv_icmp_le (tgt := 13) hx hb dX11_space_7 (by decide) (fun c_7 => ?_) (fun c_7 => ?_)
    · refine lv_aload_n hx hb dX11_space_13 rfl (lv_at hl 0 rfl) ?_
      refine va_get (D := (dC, dI)) (ci := 8) (v := .ref h1) (C := RX11) (T := TX11) (N := 9) hx hb hts inlX11 hown hK hP 0 rfl rfl 0 (by decide) (hts _ mw_16) (fun _ h9 => h9) rfl dX11_space_14 ?_
      refine lv_iload_n hx hb dX11_space_17 rfl (lv_at hl 1 rfl) ?_
      refine lv_if_eq (tgt := 27) hx hb dX11_space_18 (by decide) (fun h9 => absurd h9 (by decide)) (fun _ => ?_)
      refine lv_iload_n hx hb dX11_space_21 rfl (lv_at hl 2 rfl) ?_
      refine lv_iconst (v := 1) hx hb dX11_space_22 (by decide) ?_
      refine lv_iadd hx hb dX11_space_23 ?_
      refine lv_topi (fun x_187 ex_187 => ?_)
      refine lv_goto (tgt := 28) hx hb dX11_space_24 (by decide) ?_
      refine zcVi (wr := [(h0, .inr (8, [.ref h1, v0, v1, v2, v3, v4, v5, v6, v7])), (h2, .inl (cyC, 3000, .inl f0))]) (rest := []) hx hb hml hown hts (k_X8_hasRoom_1 l dC dI cyI cyC h1 (.ref h2) x_187) zo_X8_hasRoom zv_X8_hasRoom mw_144 ⟨by decide, by decide⟩ hK hP hD hS hA [1] [0, 2] rfl rfl rfl rfl (by decide) rfl rfl hl.1 rfl rfl (Nat.le_of_ble_eq_true rfl) dX11_space_28 ⟨by decide, by decide⟩ (fun r_188 w1 H locs hw hP hD hS => ?_)
      obtain ⟨er_188, rfl⟩ := hw
      have hP : va_P (dC, dI) vwCl [(h0, .inr (8, [.ref h1, v0, v1, v2, v3, v4, v5, v6, v7])), (h2, .inl (cyC, 3000, .inl f0)), (h1, .inr (5, [.ref h2, .int 0]))] H := hP
      have hD : va_D A [(h0, .inr (8, [.ref h1, v0, v1, v2, v3, v4, v5, v6, v7])), (h2, .inl (cyC, 3000, .inl f0)), (h1, .inr (5, [.ref h2, .int 0]))] := hD
      refine lv_if_ne (tgt := 37) hx hb dX11_space_31 (by decide) (fun c_31 => ?_) (fun c_31 => ?_)
      · refine lv_iload_n hx hb dX11_space_37 rfl (lv_at hl 1 rfl) ?_
        refine lv_if_eq (tgt := 50) hx hb dX11_space_38 (by decide) (fun h9 => absurd h9 (by decide)) (fun _ => ?_)
        refine lv_aload_n hx hb dX11_space_41 rfl (lv_at hl 0 rfl) ?_
        refine va_get (D := (dC, dI)) (ci := 8) (v := .ref h1) (C := RX11) (T := TX11) (N := 9) hx hb hts inlX11 hown hK hP 0 rfl rfl 0 (by decide) (hts _ mw_16) (fun _ h9 => h9) rfl dX11_space_42 ?_
        refine lv_bipush (v := 10) hx hb dX11_space_45 (by decide) ?_
        refine zcVv (wr := [(h0, .inr (8, [.ref h1, v0, v1, v2, v3, v4, v5, v6, v7]))]) (rest := []) hx hb hml hown hts (k_X8_append_s l dC dI cyI cyC h1 h2 0 1 f0 10 (zinb (by decide) (by decide)) (by decide) (by decide)) zo_X8_append zv_X8_append mw_149 ⟨by decide, by decide⟩ hK hP hD hS hA [2, 1] [0] rfl rfl rfl rfl (by decide) rfl rfl hl.1 rfl rfl (Nat.le_of_ble_eq_true rfl) dX11_space_47 ⟨by decide, by decide⟩ (fun w1 H locs hw hP hD hS => ?_)
        obtain ⟨g_189, rfl⟩ := hw
        have hP : va_P (dC, dI) vwCl [(h0, .inr (8, [.ref h1, v0, v1, v2, v3, v4, v5, v6, v7])), (h1, .inr (5, [.ref h2, .int 1])), (h2, .inl (cyC, 3000, .inl g_189))] H := hP
        have hD : va_D A [(h0, .inr (8, [.ref h1, v0, v1, v2, v3, v4, v5, v6, v7])), (h1, .inr (5, [.ref h2, .int 1])), (h2, .inl (cyC, 3000, .inl g_189))] := hD
        refine lv_iconst (v := 0) hx hb dX11_space_50 (by decide) ?_
        refine lv_istore_n (lv' := [(3, .int 0), (0, .ref h0), (1, .int 1), (2, .int p0)]) hx hb dX11_space_51 rfl hl (by decide) rfl (fun ls hl => ?_)
        exact l_X11_space_1 hx hb hr hlocks hml hown hts hK hA (by have h7 := zbc (hi := 80) c_1 c_7; have h8 : (80 : Int32).toInt = 80 := (by decide); omega) (fun z h => by rw [zs_space_eq, if_neg c_1, if_pos c_7]; exact Int32.toInt_inj.mp (by have h7 := zbc (hi := 80) c_1 c_7; have h8 : (80 : Int32).toInt = 80 := (by decide); rw [zadd (by decide) (by decide) h7.1 (by omega)]; have h9 : (1 : Int32).toInt = 1 := (by decide); omega)) p0.toInt.toNat 0 1 g_189 _ _ ls (by decide) (by have h7 := zbc (hi := 80) c_1 c_7; have h8 := z0; omega) (by decide) (hP.sub [0, 1, 2] rfl) (hD.sub [0, 1, 2] (by decide) rfl) hS (lv_sub hl [1, 2, 3, 0] rfl)
      · refine lv_bipush (v := (-3)) hx hb dX11_space_34 (by decide) ?_
        exact zr_i hx hb hr hlocks hK znilP znilD hS (by decide) (by decide) dX11_space_36 rfl ⟨(absurd (c_31.symm.trans er_188) (by rw [if_neg (zn4 (by have h7 := zbc (hi := 80) c_1 c_7; have h8 : (80 : Int32).toInt = 80 := (by decide); rw [ex_187, zsuc h7.1 (by omega)]; omega))]; decide)), rfl⟩
    · refine lv_bipush (v := (-2)) hx hb dX11_space_10 (by decide) ?_
      exact zr_i hx hb hr hlocks hK znilP znilD hS (by decide) (by decide) dX11_space_12 rfl ⟨(by rw [zs_space_eq, if_neg c_1, if_neg c_7]), rfl⟩
set_option maxRecDepth 100000 in
set_option maxHeartbeats 4000000 in
theorem l_X12_type {p : Program} {l : Launch} {e : Env} {s : State} {m : MethodId} {args : Array Value} {below : List Frame} {meth : Method} {c : Code} {dC : Nat → ClassId} {dI : Nat → Nat → Nat} {cyI cyC : ClassId} {A : Nat → Prop} {h0 : Nat} {h1 : Nat} {v0 : Value} {v1 : Value} {v2 : Value} {v3 : Value} {v4 : Value} {v5 : Value} {v6 : Value} {v7 : Value} {v8 : Value} {v9 : Value} {v10 : Value} {v11 : Value} {v12 : Value} {v13 : Value} {v14 : Value} {v15 : Value} {v16 : Value} {v17 : Value} {v18 : Value} {v19 : Value} {v20 : Value} {v21 : Value} {v22 : Value} {v23 : Value} {v24 : Value} {v25 : Value} {v26 : Value} {v27 : Value} {v28 : Value} {v29 : Value} {v30 : Value} {v31 : Value} {v32 : Value} {v33 : Value} {v34 : Value} {v35 : Value} {v36 : Value} {v37 : Value} {v38 : Value} {v39 : Value} {v40 : Value} {v41 : Value} {v42 : Value} {v43 : Value} {p0 : Int64} {p1 : Int64} {p2 : Int32} (hx : p.tables.exec = Jvm.exec) (hb : c.code = cX12_type) (hr : meth.sig.returnType = some .int) (hlocks : meth.locks = false) (hml : c.maxLocals = 7) (hown : s.vm.findClass RX12 = some m.cls) (hts : ∀ w ∈ wsL_law, w.before args s = true) (hK : va_K (dC, dI) vwCl (zT cyI cyC) s) (hA : ∀ q : Nat, s.heap.size ≤ q → A q) (hn1 : p2.toInt ≤ 100) (hs : ∀ z : Int32, z.toInt = p2.toInt + 0 → z = zs_type p2) :
    ∀ (k : Nat) (x z : Int32) (f0 : Nat → Int32) (H : Heap) (locs : List Loc) (ls : Array Slot), 0 ≤ x.toInt → x.toInt + k = p2.toInt → z.toInt = x.toInt + 0 → va_P (dC, dI) vwCl [(h0, .inr (9, [.int z, .ref h1, v0, v1, v2, v3, v4, v5, v6, v7, v8, v9, v10, v11, v12, v13, v14, v15, v16, v17, v18, v19, v20, v21, v22, v23, v24, v25, v26, v27, v28, v29, v30, v31, v32, v33, v34, v35, v36, v37, v38, v39, v40, v41, v42, v43])), (h1, .inl (cyI, 3000, .inl f0))] H → va_D A [(h0, .inr (9, [.int z, .ref h1, v0, v1, v2, v3, v4, v5, v6, v7, v8, v9, v10, v11, v12, v13, v14, v15, v16, v17, v18, v19, v20, v21, v22, v23, v24, v25, v26, v27, v28, v29, v30, v31, v32, v33, v34, v35, v36, v37, v38, v39, v40, v41, v42, v43])), (h1, .inl (cyI, 3000, .inl f0))] → va_S A s.heap H locs → lv_has ls 7 [(0, .ref h0), (1, .long p0), (3, .long p1), (5, .int p2), (6, .int x)] → W p l e { frames := 2, cells := 0, slots := 0, locals := 128 } s m args below meth c H locs 0 0 (MQ below (zQi (dC, dI) (zT cyI cyC) (fun r w => r = zs_type p2 ∧ w = []) A) args s 0 0 A) (F0 m 35 ls []) := by
  intro k
  induction k with
  | zero =>
    intro x z f0 H locs ls h0x hk hz hP hD hS hl
    refine lv_iload hx hb dX12_type_35 (lv_at hl 4 rfl) ?_
    refine lv_iload hx hb dX12_type_37 (lv_at hl 3 rfl) ?_
    refine lv_icmp_ge (tgt := 106) hx hb dX12_type_39 (by decide) (fun _ => ?_) (fun h9 => absurd (zge hk) h9)
    refine lv_aload_n hx hb dX12_type_106 rfl (lv_at hl 0 rfl) ?_
    refine va_get (D := (dC, dI)) (ci := 9) (v := .int z) (C := RX12) (T := TX12) (N := 46) hx hb hts inlX12 hown hK hP 0 rfl rfl 0 (by decide) (hts _ mw_162) (fun _ h9 => h9) rfl dX12_type_107 ?_
    exact zr_i hx hb hr hlocks hK znilP znilD hS (by decide) (by decide) dX12_type_110 rfl ⟨hs z (by omega), rfl⟩
  | succ k ih =>
    intro x z f0 H locs ls h0x hk hz hP hD hS hl
    have hx3 : x.toInt ≤ 2000 := by omega
    have hz3 : z.toInt ≤ 2999 := by omega
    have hz0 : 0 ≤ z.toInt := by omega
    obtain ⟨x1, hx1⟩ : ∃ y : Int32, x + 1 = y := ⟨_, rfl⟩
    obtain ⟨z1, hz1⟩ : ∃ y : Int32, z + 1 = y := ⟨_, rfl⟩
    have hx2 : x1.toInt = x.toInt + 1 := by rw [← hx1]; exact zsuc h0x (by omega)
    have hz2 : z1.toInt = z.toInt + 1 := by rw [← hz1]; exact zsuc hz0 (by omega)
    refine lv_iload hx hb dX12_type_35 (lv_at hl 4 rfl) ?_
    refine lv_iload hx hb dX12_type_37 (lv_at hl 3 rfl) ?_
    refine lv_icmp_ge (tgt := 106) hx hb dX12_type_39 (by decide) (fun h9 => absurd h9 (znge hk)) (fun _ => ?_)
    refine lv_aload_n hx hb dX12_type_42 rfl (lv_at hl 0 rfl) ?_
    refine va_get (D := (dC, dI)) (ci := 9) (v := .ref h1) (C := RX12) (T := TX12) (N := 46) hx hb hts inlX12 hown hK hP 0 rfl rfl 1 (by decide) (hts _ mw_112) (fun _ h9 => h9) rfl dX12_type_43 ?_
    refine lv_aload_n hx hb dX12_type_46 rfl (lv_at hl 0 rfl) ?_
    refine va_get (D := (dC, dI)) (ci := 9) (v := .int z) (C := RX12) (T := TX12) (N := 46) hx hb hts inlX12 hown hK hP 0 rfl rfl 0 (by decide) (hts _ mw_162) (fun _ h9 => h9) rfl dX12_type_47 ?_
    refine lv_iload hx hb dX12_type_50 (lv_at hl 4 rfl) ?_
    refine lv_bipush (v := 8) hx hb dX12_type_52 (by decide) ?_
    refine lv_icmp_ge (tgt := 74) hx hb dX12_type_54 (by decide) (fun c_54 => ?_) (fun c_54 => ?_)
    · refine lv_lload_n hx hb dX12_type_74 rfl (lv_at hl 2 rfl) ?_
      refine lv_bipush (v := 120) hx hb dX12_type_75 (by decide) ?_
      refine lv_bipush (v := 8) hx hb dX12_type_77 (by decide) ?_
      refine lv_iload hx hb dX12_type_79 (lv_at hl 4 rfl) ?_
      refine lv_imul hx hb dX12_type_81 ?_
      refine lv_topi (fun x_190 ex_190 => ?_)
      refine lv_isub hx hb dX12_type_82 ?_
      refine lv_topi (fun x_191 ex_191 => ?_)
      refine lv_lshr hx hb dX12_type_83 rfl ?_
      refine lv_topl (fun x_192 ex_192 => ?_)
      refine lv_ldc2 (v := 255) hx hb hown (hts _ mw_163) dX12_type_84 ?_
      refine lv_land hx hb dX12_type_87 ?_
      refine lv_topl (fun x_193 ex_193 => ?_)
      refine lv_l2i hx hb dX12_type_88 rfl ?_
      refine lv_topi (fun x_194 ex_194 => ?_)
      refine va_iast hx hb hK hP hD hS 1 0 rfl rfl (zinb hz0 hz3) dX12_type_89 (fun H locs hP hD hS => ?_)
      obtain ⟨g_195, hP, hD⟩ : ∃ g_195 : Nat → Int32, va_P (dC, dI) vwCl [(h0, .inr (9, [.int z, .ref h1, v0, v1, v2, v3, v4, v5, v6, v7, v8, v9, v10, v11, v12, v13, v14, v15, v16, v17, v18, v19, v20, v21, v22, v23, v24, v25, v26, v27, v28, v29, v30, v31, v32, v33, v34, v35, v36, v37, v38, v39, v40, v41, v42, v43])), (h1, .inl (cyI, 3000, .inl g_195))] H ∧ va_D A [(h0, .inr (9, [.int z, .ref h1, v0, v1, v2, v3, v4, v5, v6, v7, v8, v9, v10, v11, v12, v13, v14, v15, v16, v17, v18, v19, v20, v21, v22, v23, v24, v25, v26, v27, v28, v29, v30, v31, v32, v33, v34, v35, v36, v37, v38, v39, v40, v41, v42, v43])), (h1, .inl (cyI, 3000, .inl g_195))] := ⟨_, hP, hD⟩
      refine lv_aload_n hx hb dX12_type_90 rfl (lv_at hl 0 rfl) ?_
      refine lv_dup hx hb dX12_type_91 rfl ?_
      refine va_get (D := (dC, dI)) (ci := 9) (v := .int z) (C := RX12) (T := TX12) (N := 46) hx hb hts inlX12 hown hK hP 0 rfl rfl 0 (by decide) (hts _ mw_162) (fun _ h9 => h9) rfl dX12_type_92 ?_
      refine lv_iconst (v := 1) hx hb dX12_type_95 (by decide) ?_
      refine lv_iadd hx hb dX12_type_96 ?_
      refine zl_i (y := z1) hz1 ?_
      refine va_put (D := (dC, dI)) (ci := 9) (v := .int z1) (ty := .int) (C := RX12) (T := TX12) (N := 46) hx hb hts inlX12 tyX12 tyX12_ok nmX12 hown hK hP hD hS 0 rfl rfl 0 (by decide) (hts _ mw_162) (fun _ h9 => h9) rfl (by decide +kernel) rfl rfl (Nat.le_of_ble_eq_true rfl) dX12_type_97 (fun H locs hP hD hS => ?_)
      have hP : va_P (dC, dI) vwCl [(h0, .inr (9, [.int z1, .ref h1, v0, v1, v2, v3, v4, v5, v6, v7, v8, v9, v10, v11, v12, v13, v14, v15, v16, v17, v18, v19, v20, v21, v22, v23, v24, v25, v26, v27, v28, v29, v30, v31, v32, v33, v34, v35, v36, v37, v38, v39, v40, v41, v42, v43])), (h1, .inl (cyI, 3000, .inl g_195))] H := hP
      have hD : va_D A [(h0, .inr (9, [.int z1, .ref h1, v0, v1, v2, v3, v4, v5, v6, v7, v8, v9, v10, v11, v12, v13, v14, v15, v16, v17, v18, v19, v20, v21, v22, v23, v24, v25, v26, v27, v28, v29, v30, v31, v32, v33, v34, v35, v36, v37, v38, v39, v40, v41, v42, v43])), (h1, .inl (cyI, 3000, .inl g_195))] := hD
      refine lv_iinc (v := x1) (lv' := [(6, .int x1), (0, .ref h0), (1, .long p0), (3, .long p1), (5, .int p2)]) hx hb dX12_type_100 hl (k := 4) rfl hx1 (by decide) rfl (fun ls hl => ?_)
      refine lv_goto (tgt := 35) hx hb dX12_type_103 (by decide) ?_
      exact ih x1 z1 g_195 _ _ ls (by omega) (by omega) (by omega) (hP.sub [0, 1] rfl) (hD.sub [0, 1] (by decide) rfl) hS (lv_sub hl [1, 2, 3, 4, 0] rfl)
    · refine lv_lload_n hx hb dX12_type_57 rfl (lv_at hl 1 rfl) ?_
      refine lv_bipush (v := 56) hx hb dX12_type_58 (by decide) ?_
      refine lv_bipush (v := 8) hx hb dX12_type_60 (by decide) ?_
      refine lv_iload hx hb dX12_type_62 (lv_at hl 4 rfl) ?_
      refine lv_imul hx hb dX12_type_64 ?_
      refine lv_topi (fun x_196 ex_196 => ?_)
      refine lv_isub hx hb dX12_type_65 ?_
      refine lv_topi (fun x_197 ex_197 => ?_)
      refine lv_lshr hx hb dX12_type_66 rfl ?_
      refine lv_topl (fun x_198 ex_198 => ?_)
      refine lv_ldc2 (v := 255) hx hb hown (hts _ mw_163) dX12_type_67 ?_
      refine lv_land hx hb dX12_type_70 ?_
      refine lv_topl (fun x_199 ex_199 => ?_)
      refine lv_goto (tgt := 88) hx hb dX12_type_71 (by decide) ?_
      refine lv_l2i hx hb dX12_type_88 rfl ?_
      refine lv_topi (fun x_200 ex_200 => ?_)
      refine va_iast hx hb hK hP hD hS 1 0 rfl rfl (zinb hz0 hz3) dX12_type_89 (fun H locs hP hD hS => ?_)
      obtain ⟨g_201, hP, hD⟩ : ∃ g_201 : Nat → Int32, va_P (dC, dI) vwCl [(h0, .inr (9, [.int z, .ref h1, v0, v1, v2, v3, v4, v5, v6, v7, v8, v9, v10, v11, v12, v13, v14, v15, v16, v17, v18, v19, v20, v21, v22, v23, v24, v25, v26, v27, v28, v29, v30, v31, v32, v33, v34, v35, v36, v37, v38, v39, v40, v41, v42, v43])), (h1, .inl (cyI, 3000, .inl g_201))] H ∧ va_D A [(h0, .inr (9, [.int z, .ref h1, v0, v1, v2, v3, v4, v5, v6, v7, v8, v9, v10, v11, v12, v13, v14, v15, v16, v17, v18, v19, v20, v21, v22, v23, v24, v25, v26, v27, v28, v29, v30, v31, v32, v33, v34, v35, v36, v37, v38, v39, v40, v41, v42, v43])), (h1, .inl (cyI, 3000, .inl g_201))] := ⟨_, hP, hD⟩
      refine lv_aload_n hx hb dX12_type_90 rfl (lv_at hl 0 rfl) ?_
      refine lv_dup hx hb dX12_type_91 rfl ?_
      refine va_get (D := (dC, dI)) (ci := 9) (v := .int z) (C := RX12) (T := TX12) (N := 46) hx hb hts inlX12 hown hK hP 0 rfl rfl 0 (by decide) (hts _ mw_162) (fun _ h9 => h9) rfl dX12_type_92 ?_
      refine lv_iconst (v := 1) hx hb dX12_type_95 (by decide) ?_
      refine lv_iadd hx hb dX12_type_96 ?_
      refine zl_i (y := z1) hz1 ?_
      refine va_put (D := (dC, dI)) (ci := 9) (v := .int z1) (ty := .int) (C := RX12) (T := TX12) (N := 46) hx hb hts inlX12 tyX12 tyX12_ok nmX12 hown hK hP hD hS 0 rfl rfl 0 (by decide) (hts _ mw_162) (fun _ h9 => h9) rfl (by decide +kernel) rfl rfl (Nat.le_of_ble_eq_true rfl) dX12_type_97 (fun H locs hP hD hS => ?_)
      have hP : va_P (dC, dI) vwCl [(h0, .inr (9, [.int z1, .ref h1, v0, v1, v2, v3, v4, v5, v6, v7, v8, v9, v10, v11, v12, v13, v14, v15, v16, v17, v18, v19, v20, v21, v22, v23, v24, v25, v26, v27, v28, v29, v30, v31, v32, v33, v34, v35, v36, v37, v38, v39, v40, v41, v42, v43])), (h1, .inl (cyI, 3000, .inl g_201))] H := hP
      have hD : va_D A [(h0, .inr (9, [.int z1, .ref h1, v0, v1, v2, v3, v4, v5, v6, v7, v8, v9, v10, v11, v12, v13, v14, v15, v16, v17, v18, v19, v20, v21, v22, v23, v24, v25, v26, v27, v28, v29, v30, v31, v32, v33, v34, v35, v36, v37, v38, v39, v40, v41, v42, v43])), (h1, .inl (cyI, 3000, .inl g_201))] := hD
      refine lv_iinc (v := x1) (lv' := [(6, .int x1), (0, .ref h0), (1, .long p0), (3, .long p1), (5, .int p2)]) hx hb dX12_type_100 hl (k := 4) rfl hx1 (by decide) rfl (fun ls hl => ?_)
      refine lv_goto (tgt := 35) hx hb dX12_type_103 (by decide) ?_
      exact ih x1 z1 g_201 _ _ ls (by omega) (by omega) (by omega) (hP.sub [0, 1] rfl) (hD.sub [0, 1] (by decide) rfl) hS (lv_sub hl [1, 2, 3, 4, 0] rfl)
set_option maxRecDepth 100000 in
set_option maxHeartbeats 4000000 in
theorem k_X12_in_4 (l : Launch) (dC : Nat → ClassId) (dI : Nat → Nat → Nat) (cyI cyC : ClassId) (p0 : Int64) : zM l (dC, dI) (zT cyI cyC) yX12_in cX12_in 6 (some .boolean) { frames := 1, cells := 0, slots := 0, locals := 64 } [.long p0, .long 0, .long 16] [] (zQi (dC, dI) (zT cyI cyC) (fun r w => r = zs_in p0 0 16 ∧ w = [])) := by
  refine zM.of (by decide +kernel) (Nat.le_of_ble_eq_true rfl) ?_
  intro p e s m below meth c hx hb hr hlocks hml hown hnm hts hK A hA H hP hD hS ls hl
  have hown : s.vm.findClass RX12 = some m.cls := hown
  have hl : lv_has ls 6 [(0, .long p0), (2, .long 0), (4, .long 16)] := hl
  refine lv_lload_n hx hb dX12_in_0 rfl (lv_at hl 0 rfl) ?_
  refine lv_lload_n hx hb dX12_in_1 rfl (lv_at hl 1 rfl) ?_
  refine W.lcmp hx hb dX12_in_2 ?_
  refine lv_if_lt (tgt := 17) hx hb dX12_in_3 (by decide) (fun c_3 => ?_) (fun c_3 => ?_)
  · refine lv_iconst (v := 0) hx hb dX12_in_17 (by decide) ?_
    exact zr_i hx hb hr hlocks hK hP hD hS (by decide) (by decide) dX12_in_18 rfl ⟨zin_1 c_3, rfl⟩
  · refine lv_lload_n hx hb dX12_in_6 rfl (lv_at hl 0 rfl) ?_
    refine lv_lload hx hb dX12_in_7 (lv_at hl 2 rfl) ?_
    refine W.lcmp hx hb dX12_in_9 ?_
    refine lv_if_gt (tgt := 17) hx hb dX12_in_10 (by decide) (fun c_10 => ?_) (fun c_10 => ?_)
    · refine lv_iconst (v := 0) hx hb dX12_in_17 (by decide) ?_
      exact zr_i hx hb hr hlocks hK hP hD hS (by decide) (by decide) dX12_in_18 rfl ⟨zin_2 c_3 c_10, rfl⟩
    · refine lv_iconst (v := 1) hx hb dX12_in_13 (by decide) ?_
      refine lv_goto (tgt := 18) hx hb dX12_in_14 (by decide) ?_
      exact zr_i hx hb hr hlocks hK hP hD hS (by decide) (by decide) dX12_in_18 rfl ⟨zin_3 c_3 c_10, rfl⟩
set_option maxRecDepth 100000 in
set_option maxHeartbeats 4000000 in
theorem k_X12_type_0 (l : Launch) (dC : Nat → ClassId) (dI : Nat → Nat → Nat) (cyI cyC : ClassId) (h0 : Nat) (h1 : Nat) (v0 : Value) (v1 : Value) (v2 : Value) (v3 : Value) (v4 : Value) (v5 : Value) (v6 : Value) (v7 : Value) (v8 : Value) (v9 : Value) (v10 : Value) (v11 : Value) (v12 : Value) (v13 : Value) (v14 : Value) (v15 : Value) (v16 : Value) (v17 : Value) (v18 : Value) (v19 : Value) (v20 : Value) (v21 : Value) (v22 : Value) (v23 : Value) (v24 : Value) (v25 : Value) (v26 : Value) (v27 : Value) (v28 : Value) (v29 : Value) (v30 : Value) (v31 : Value) (v32 : Value) (v33 : Value) (v34 : Value) (v35 : Value) (v36 : Value) (v37 : Value) (v38 : Value) (v39 : Value) (v40 : Value) (v41 : Value) (v42 : Value) (v43 : Value) (f0 : Nat → Int32) (p0 : Int64) (p1 : Int64) (p2 : Int32) : zM l (dC, dI) (zT cyI cyC) yX12_type cX12_type 7 (some .int) { frames := 2, cells := 0, slots := 0, locals := 128 } [.ref h0, .long p0, .long p1, .int p2] [(h0, .inr (9, [.int 0, .ref h1, v0, v1, v2, v3, v4, v5, v6, v7, v8, v9, v10, v11, v12, v13, v14, v15, v16, v17, v18, v19, v20, v21, v22, v23, v24, v25, v26, v27, v28, v29, v30, v31, v32, v33, v34, v35, v36, v37, v38, v39, v40, v41, v42, v43])), (h1, .inl (cyI, 3000, .inl f0))] (zQi (dC, dI) (zT cyI cyC) (fun r w => r = zs_type p2 ∧ w = [])) := by
  refine zM.of (by decide +kernel) (Nat.le_of_ble_eq_true rfl) ?_
  intro p e s m below meth c hx hb hr hlocks hml hown hnm hts hK A hA H hP hD hS ls hl
  have hown : s.vm.findClass RX12 = some m.cls := hown
  have hl : lv_has ls 7 [(0, .ref h0), (1, .long p0), (3, .long p1), (5, .int p2)] := hl
  refine lv_iload hx hb dX12_type_0 (lv_at hl 3 rfl) ?_
  refine lv_i2l hx hb dX12_type_2 rfl ?_
  refine lv_lconst (v := 0) hx hb dX12_type_3 (by decide) ?_
  refine lv_ldc2 (v := 16) hx hb hown (hts _ mw_161) dX12_type_4 ?_
  refine zcSi (wr := [(h0, .inr (9, [.int 0, .ref h1, v0, v1, v2, v3, v4, v5, v6, v7, v8, v9, v10, v11, v12, v13, v14, v15, v16, v17, v18, v19, v20, v21, v22, v23, v24, v25, v26, v27, v28, v29, v30, v31, v32, v33, v34, v35, v36, v37, v38, v39, v40, v41, v42, v43])), (h1, .inl (cyI, 3000, .inl f0))]) (rest := []) hx hb hml hown hts (k_X12_in_4 l dC dI cyI cyC p2.toInt64) zo_X12_in mw_165 mw_164 ⟨by decide, by decide⟩ hK hP hD hS hA [] [0, 1] rfl rfl rfl rfl (by decide) hl.1 rfl rfl (Nat.le_of_ble_eq_true rfl) dX12_type_7 ⟨by decide, by decide⟩ (fun r_202 w1 H locs hw hP hD hS => ?_)
  obtain ⟨er_202, rfl⟩ := hw
  have hP : va_P (dC, dI) vwCl [(h0, .inr (9, [.int 0, .ref h1, v0, v1, v2, v3, v4, v5, v6, v7, v8, v9, v10, v11, v12, v13, v14, v15, v16, v17, v18, v19, v20, v21, v22, v23, v24, v25, v26, v27, v28, v29, v30, v31, v32, v33, v34, v35, v36, v37, v38, v39, v40, v41, v42, v43])), (h1, .inl (cyI, 3000, .inl f0))] H := hP
  have hD : va_D A [(h0, .inr (9, [.int 0, .ref h1, v0, v1, v2, v3, v4, v5, v6, v7, v8, v9, v10, v11, v12, v13, v14, v15, v16, v17, v18, v19, v20, v21, v22, v23, v24, v25, v26, v27, v28, v29, v30, v31, v32, v33, v34, v35, v36, v37, v38, v39, v40, v41, v42, v43])), (h1, .inl (cyI, 3000, .inl f0))] := hD
  refine lv_if_ne (tgt := 16) hx hb dX12_type_10 (by decide) (fun c_10 => ?_) (fun c_10 => ?_)
  · refine lv_aload_n hx hb dX12_type_16 rfl (lv_at hl 0 rfl) ?_
    refine va_get (D := (dC, dI)) (ci := 9) (v := .int 0) (C := RX12) (T := TX12) (N := 46) hx hb hts inlX12 hown hK hP 0 rfl rfl 0 (by decide) (hts _ mw_162) (fun _ h9 => h9) rfl dX12_type_17 ?_
    refine lv_iload hx hb dX12_type_20 (lv_at hl 3 rfl) ?_
    refine lv_iadd hx hb dX12_type_22 ?_
    refine lv_topi (fun x_203 ex_203 => ?_)
    refine lv_sipush (v := 3000) hx hb dX12_type_23 (by decide) ?_
    refine lv_icmp_le (tgt := 32) hx hb dX12_type_26 (by decide) (fun c_26 => ?_) (fun c_26 => ?_)
    · refine lv_iconst (v := 0) hx hb dX12_type_32 (by decide) ?_
      refine lv_istore (lv' := [(6, .int 0), (0, .ref h0), (1, .long p0), (3, .long p1), (5, .int p2)]) hx hb dX12_type_33 hl (by decide) rfl (fun ls hl => ?_)
      exact l_X12_type hx hb hr hlocks hml hown hts hK hA (by have h7 := zbd (hi := 16) (by decide) (fun h => c_10 (er_202.trans h)); have h8 : (16 : Int32).toInt = 16 := (by decide); omega) (fun z h => by rw [zs_type, ← er_202, if_neg c_10]; exact Int32.toInt_inj.mp (by omega)) p2.toInt.toNat 0 0 f0 _ _ ls (by decide) (by have h7 := zbd (hi := 16) (by decide) (fun h => c_10 (er_202.trans h)); have h8 := z0; omega) (by decide) (hP.sub [0, 1] rfl) (hD.sub [0, 1] (by decide) rfl) hS (lv_sub hl [1, 2, 3, 4, 0] rfl)
    · refine lv_bipush (v := (-3)) hx hb dX12_type_29 (by decide) ?_
      exact zr_i hx hb hr hlocks hK znilP znilD hS (by decide) (by decide) dX12_type_31 rfl ⟨(absurd (zn5 (by have h7 := zbd (hi := 16) (by decide) (fun h => c_10 (er_202.trans h)); have h8 : (16 : Int32).toInt = 16 := (by decide); rw [ex_203, zadd (by decide) (by decide) h7.1 (by omega)]; have h9 := z0; omega)) c_26), rfl⟩
  · refine lv_bipush (v := (-2)) hx hb dX12_type_13 (by decide) ?_
    exact zr_i hx hb hr hlocks hK znilP znilD hS (by decide) (by decide) dX12_type_15 rfl ⟨(by rw [zs_type, ← er_202, if_pos c_10]), rfl⟩
set_option maxRecDepth 100000 in
set_option maxHeartbeats 4000000 in
theorem l_X12_space_0 {p : Program} {l : Launch} {e : Env} {s : State} {m : MethodId} {args : Array Value} {below : List Frame} {meth : Method} {c : Code} {dC : Nat → ClassId} {dI : Nat → Nat → Nat} {cyI cyC : ClassId} {A : Nat → Prop} {h0 : Nat} {h1 : Nat} {v0 : Value} {v1 : Value} {v2 : Value} {v3 : Value} {v4 : Value} {v5 : Value} {v6 : Value} {v7 : Value} {v8 : Value} {v9 : Value} {v10 : Value} {v11 : Value} {v12 : Value} {v13 : Value} {v14 : Value} {v15 : Value} {v16 : Value} {v17 : Value} {v18 : Value} {v19 : Value} {v20 : Value} {v21 : Value} {v22 : Value} {v23 : Value} {v24 : Value} {v25 : Value} {v26 : Value} {v27 : Value} {v28 : Value} {v29 : Value} {v30 : Value} {v31 : Value} {v32 : Value} {v33 : Value} {v34 : Value} {v35 : Value} {v36 : Value} {v37 : Value} {v38 : Value} {v39 : Value} {v40 : Value} {v41 : Value} {v42 : Value} {v43 : Value} {p0 : Int32} (hx : p.tables.exec = Jvm.exec) (hb : c.code = cX12_space) (hr : meth.sig.returnType = some .int) (hlocks : meth.locks = false) (hml : c.maxLocals = 4) (hown : s.vm.findClass RX12 = some m.cls) (hts : ∀ w ∈ wsL_law, w.before args s = true) (hK : va_K (dC, dI) vwCl (zT cyI cyC) s) (hA : ∀ q : Nat, s.heap.size ≤ q → A q) (hn1 : p0.toInt ≤ 100) (hs : ∀ z : Int32, z.toInt = p0.toInt + 0 → z = zs_space 0 p0) :
    ∀ (k : Nat) (x z : Int32) (f0 : Nat → Int32) (H : Heap) (locs : List Loc) (ls : Array Slot), 0 ≤ x.toInt → x.toInt + k = p0.toInt → z.toInt = x.toInt + 0 → va_P (dC, dI) vwCl [(h0, .inr (9, [.int z, .ref h1, v0, v1, v2, v3, v4, v5, v6, v7, v8, v9, v10, v11, v12, v13, v14, v15, v16, v17, v18, v19, v20, v21, v22, v23, v24, v25, v26, v27, v28, v29, v30, v31, v32, v33, v34, v35, v36, v37, v38, v39, v40, v41, v42, v43])), (h1, .inl (cyI, 3000, .inl f0))] H → va_D A [(h0, .inr (9, [.int z, .ref h1, v0, v1, v2, v3, v4, v5, v6, v7, v8, v9, v10, v11, v12, v13, v14, v15, v16, v17, v18, v19, v20, v21, v22, v23, v24, v25, v26, v27, v28, v29, v30, v31, v32, v33, v34, v35, v36, v37, v38, v39, v40, v41, v42, v43])), (h1, .inl (cyI, 3000, .inl f0))] → va_S A s.heap H locs → lv_has ls 4 [(0, .ref h0), (1, .int 0), (2, .int p0), (3, .int x)] → W p l e { frames := 2, cells := 0, slots := 0, locals := 128 } s m args below meth c H locs 0 0 (MQ below (zQi (dC, dI) (zT cyI cyC) (fun r w => r = zs_space 0 p0 ∧ w = []) A) args s 0 0 A) (F0 m 67 ls []) := by
  intro k
  induction k with
  | zero =>
    intro x z f0 H locs ls h0x hk hz hP hD hS hl
    refine lv_iload_n hx hb dX12_space_67 rfl (lv_at hl 3 rfl) ?_
    refine lv_iload_n hx hb dX12_space_68 rfl (lv_at hl 2 rfl) ?_
    refine lv_icmp_ge (tgt := 99) hx hb dX12_space_69 (by decide) (fun _ => ?_) (fun h9 => absurd (zge hk) h9)
    refine lv_aload_n hx hb dX12_space_99 rfl (lv_at hl 0 rfl) ?_
    refine va_get (D := (dC, dI)) (ci := 9) (v := .int z) (C := RX12) (T := TX12) (N := 46) hx hb hts inlX12 hown hK hP 0 rfl rfl 0 (by decide) (hts _ mw_162) (fun _ h9 => h9) rfl dX12_space_100 ?_
    exact zr_i hx hb hr hlocks hK znilP znilD hS (by decide) (by decide) dX12_space_103 rfl ⟨hs z (by omega), rfl⟩
  | succ k ih =>
    intro x z f0 H locs ls h0x hk hz hP hD hS hl
    have hx3 : x.toInt ≤ 2000 := by omega
    have hz3 : z.toInt ≤ 2999 := by omega
    have hz0 : 0 ≤ z.toInt := by omega
    obtain ⟨x1, hx1⟩ : ∃ y : Int32, x + 1 = y := ⟨_, rfl⟩
    obtain ⟨z1, hz1⟩ : ∃ y : Int32, z + 1 = y := ⟨_, rfl⟩
    have hx2 : x1.toInt = x.toInt + 1 := by rw [← hx1]; exact zsuc h0x (by omega)
    have hz2 : z1.toInt = z.toInt + 1 := by rw [← hz1]; exact zsuc hz0 (by omega)
    refine lv_iload_n hx hb dX12_space_67 rfl (lv_at hl 3 rfl) ?_
    refine lv_iload_n hx hb dX12_space_68 rfl (lv_at hl 2 rfl) ?_
    refine lv_icmp_ge (tgt := 99) hx hb dX12_space_69 (by decide) (fun h9 => absurd h9 (znge hk)) (fun _ => ?_)
    refine lv_aload_n hx hb dX12_space_72 rfl (lv_at hl 0 rfl) ?_
    refine va_get (D := (dC, dI)) (ci := 9) (v := .ref h1) (C := RX12) (T := TX12) (N := 46) hx hb hts inlX12 hown hK hP 0 rfl rfl 1 (by decide) (hts _ mw_112) (fun _ h9 => h9) rfl dX12_space_73 ?_
    refine lv_aload_n hx hb dX12_space_76 rfl (lv_at hl 0 rfl) ?_
    refine va_get (D := (dC, dI)) (ci := 9) (v := .int z) (C := RX12) (T := TX12) (N := 46) hx hb hts inlX12 hown hK hP 0 rfl rfl 0 (by decide) (hts _ mw_162) (fun _ h9 => h9) rfl dX12_space_77 ?_
    refine lv_bipush (v := 32) hx hb dX12_space_80 (by decide) ?_
    refine va_iast hx hb hK hP hD hS 1 0 rfl rfl (zinb hz0 hz3) dX12_space_82 (fun H locs hP hD hS => ?_)
    obtain ⟨g_204, hP, hD⟩ : ∃ g_204 : Nat → Int32, va_P (dC, dI) vwCl [(h0, .inr (9, [.int z, .ref h1, v0, v1, v2, v3, v4, v5, v6, v7, v8, v9, v10, v11, v12, v13, v14, v15, v16, v17, v18, v19, v20, v21, v22, v23, v24, v25, v26, v27, v28, v29, v30, v31, v32, v33, v34, v35, v36, v37, v38, v39, v40, v41, v42, v43])), (h1, .inl (cyI, 3000, .inl g_204))] H ∧ va_D A [(h0, .inr (9, [.int z, .ref h1, v0, v1, v2, v3, v4, v5, v6, v7, v8, v9, v10, v11, v12, v13, v14, v15, v16, v17, v18, v19, v20, v21, v22, v23, v24, v25, v26, v27, v28, v29, v30, v31, v32, v33, v34, v35, v36, v37, v38, v39, v40, v41, v42, v43])), (h1, .inl (cyI, 3000, .inl g_204))] := ⟨_, hP, hD⟩
    refine lv_aload_n hx hb dX12_space_83 rfl (lv_at hl 0 rfl) ?_
    refine lv_dup hx hb dX12_space_84 rfl ?_
    refine va_get (D := (dC, dI)) (ci := 9) (v := .int z) (C := RX12) (T := TX12) (N := 46) hx hb hts inlX12 hown hK hP 0 rfl rfl 0 (by decide) (hts _ mw_162) (fun _ h9 => h9) rfl dX12_space_85 ?_
    refine lv_iconst (v := 1) hx hb dX12_space_88 (by decide) ?_
    refine lv_iadd hx hb dX12_space_89 ?_
    refine zl_i (y := z1) hz1 ?_
    refine va_put (D := (dC, dI)) (ci := 9) (v := .int z1) (ty := .int) (C := RX12) (T := TX12) (N := 46) hx hb hts inlX12 tyX12 tyX12_ok nmX12 hown hK hP hD hS 0 rfl rfl 0 (by decide) (hts _ mw_162) (fun _ h9 => h9) rfl (by decide +kernel) rfl rfl (Nat.le_of_ble_eq_true rfl) dX12_space_90 (fun H locs hP hD hS => ?_)
    have hP : va_P (dC, dI) vwCl [(h0, .inr (9, [.int z1, .ref h1, v0, v1, v2, v3, v4, v5, v6, v7, v8, v9, v10, v11, v12, v13, v14, v15, v16, v17, v18, v19, v20, v21, v22, v23, v24, v25, v26, v27, v28, v29, v30, v31, v32, v33, v34, v35, v36, v37, v38, v39, v40, v41, v42, v43])), (h1, .inl (cyI, 3000, .inl g_204))] H := hP
    have hD : va_D A [(h0, .inr (9, [.int z1, .ref h1, v0, v1, v2, v3, v4, v5, v6, v7, v8, v9, v10, v11, v12, v13, v14, v15, v16, v17, v18, v19, v20, v21, v22, v23, v24, v25, v26, v27, v28, v29, v30, v31, v32, v33, v34, v35, v36, v37, v38, v39, v40, v41, v42, v43])), (h1, .inl (cyI, 3000, .inl g_204))] := hD
    refine lv_iinc (v := x1) (lv' := [(3, .int x1), (0, .ref h0), (1, .int 0), (2, .int p0)]) hx hb dX12_space_93 hl (k := 3) rfl hx1 (by decide) rfl (fun ls hl => ?_)
    refine lv_goto (tgt := 67) hx hb dX12_space_96 (by decide) ?_
    exact ih x1 z1 g_204 _ _ ls (by omega) (by omega) (by omega) (hP.sub [0, 1] rfl) (hD.sub [0, 1] (by decide) rfl) hS (lv_sub hl [1, 2, 3, 0] rfl)
set_option maxRecDepth 100000 in
set_option maxHeartbeats 4000000 in
theorem k_X12_in_5 (l : Launch) (dC : Nat → ClassId) (dI : Nat → Nat → Nat) (cyI cyC : ClassId) (p0 : Int64) : zM l (dC, dI) (zT cyI cyC) yX12_in cX12_in 6 (some .boolean) { frames := 1, cells := 0, slots := 0, locals := 64 } [.long p0, .long 0, .long 80] [] (zQi (dC, dI) (zT cyI cyC) (fun r w => r = zs_in p0 0 80 ∧ w = [])) := by
  refine zM.of (by decide +kernel) (Nat.le_of_ble_eq_true rfl) ?_
  intro p e s m below meth c hx hb hr hlocks hml hown hnm hts hK A hA H hP hD hS ls hl
  have hown : s.vm.findClass RX12 = some m.cls := hown
  have hl : lv_has ls 6 [(0, .long p0), (2, .long 0), (4, .long 80)] := hl
  refine lv_lload_n hx hb dX12_in_0 rfl (lv_at hl 0 rfl) ?_
  refine lv_lload_n hx hb dX12_in_1 rfl (lv_at hl 1 rfl) ?_
  refine W.lcmp hx hb dX12_in_2 ?_
  refine lv_if_lt (tgt := 17) hx hb dX12_in_3 (by decide) (fun c_3 => ?_) (fun c_3 => ?_)
  · refine lv_iconst (v := 0) hx hb dX12_in_17 (by decide) ?_
    exact zr_i hx hb hr hlocks hK hP hD hS (by decide) (by decide) dX12_in_18 rfl ⟨zin_1 c_3, rfl⟩
  · refine lv_lload_n hx hb dX12_in_6 rfl (lv_at hl 0 rfl) ?_
    refine lv_lload hx hb dX12_in_7 (lv_at hl 2 rfl) ?_
    refine W.lcmp hx hb dX12_in_9 ?_
    refine lv_if_gt (tgt := 17) hx hb dX12_in_10 (by decide) (fun c_10 => ?_) (fun c_10 => ?_)
    · refine lv_iconst (v := 0) hx hb dX12_in_17 (by decide) ?_
      exact zr_i hx hb hr hlocks hK hP hD hS (by decide) (by decide) dX12_in_18 rfl ⟨zin_2 c_3 c_10, rfl⟩
    · refine lv_iconst (v := 1) hx hb dX12_in_13 (by decide) ?_
      refine lv_goto (tgt := 18) hx hb dX12_in_14 (by decide) ?_
      exact zr_i hx hb hr hlocks hK hP hD hS (by decide) (by decide) dX12_in_18 rfl ⟨zin_3 c_3 c_10, rfl⟩
set_option maxRecDepth 100000 in
set_option maxHeartbeats 4000000 in
theorem k_X12_space_0 (l : Launch) (dC : Nat → ClassId) (dI : Nat → Nat → Nat) (cyI cyC : ClassId) (h0 : Nat) (h1 : Nat) (v0 : Value) (v1 : Value) (v2 : Value) (v3 : Value) (v4 : Value) (v5 : Value) (v6 : Value) (v7 : Value) (v8 : Value) (v9 : Value) (v10 : Value) (v11 : Value) (v12 : Value) (v13 : Value) (v14 : Value) (v15 : Value) (v16 : Value) (v17 : Value) (v18 : Value) (v19 : Value) (v20 : Value) (v21 : Value) (v22 : Value) (v23 : Value) (v24 : Value) (v25 : Value) (v26 : Value) (v27 : Value) (v28 : Value) (v29 : Value) (v30 : Value) (v31 : Value) (v32 : Value) (v33 : Value) (v34 : Value) (v35 : Value) (v36 : Value) (v37 : Value) (v38 : Value) (v39 : Value) (v40 : Value) (v41 : Value) (v42 : Value) (v43 : Value) (f0 : Nat → Int32) (p0 : Int32) : zM l (dC, dI) (zT cyI cyC) yX12_space cX12_space 4 (some .int) { frames := 2, cells := 0, slots := 0, locals := 128 } [.ref h0, .int 0, .int p0] [(h0, .inr (9, [.int 0, .ref h1, v0, v1, v2, v3, v4, v5, v6, v7, v8, v9, v10, v11, v12, v13, v14, v15, v16, v17, v18, v19, v20, v21, v22, v23, v24, v25, v26, v27, v28, v29, v30, v31, v32, v33, v34, v35, v36, v37, v38, v39, v40, v41, v42, v43])), (h1, .inl (cyI, 3000, .inl f0))] (zQi (dC, dI) (zT cyI cyC) (fun r w => r = zs_space 0 p0 ∧ w = [])) := by
  refine zM.of (by decide +kernel) (Nat.le_of_ble_eq_true rfl) ?_
  intro p e s m below meth c hx hb hr hlocks hml hown hnm hts hK A hA H hP hD hS ls hl
  have hown : s.vm.findClass RX12 = some m.cls := hown
  have hl : lv_has ls 4 [(0, .ref h0), (1, .int 0), (2, .int p0)] := hl
  refine lv_iload_n hx hb dX12_space_0 rfl (lv_at hl 2 rfl) ?_
  refine lv_i2l hx hb dX12_space_1 rfl ?_
  refine lv_lconst (v := 0) hx hb dX12_space_2 (by decide) ?_
  refine lv_ldc2 (v := 80) hx hb hown (hts _ mw_175) dX12_space_3 ?_
  refine zcSi (wr := [(h0, .inr (9, [.int 0, .ref h1, v0, v1, v2, v3, v4, v5, v6, v7, v8, v9, v10, v11, v12, v13, v14, v15, v16, v17, v18, v19, v20, v21, v22, v23, v24, v25, v26, v27, v28, v29, v30, v31, v32, v33, v34, v35, v36, v37, v38, v39, v40, v41, v42, v43])), (h1, .inl (cyI, 3000, .inl f0))]) (rest := []) hx hb hml hown hts (k_X12_in_5 l dC dI cyI cyC p0.toInt64) zo_X12_in mw_165 mw_164 ⟨by decide, by decide⟩ hK hP hD hS hA [] [0, 1] rfl rfl rfl rfl (by decide) hl.1 rfl rfl (Nat.le_of_ble_eq_true rfl) dX12_space_6 ⟨by decide, by decide⟩ (fun r_205 w1 H locs hw hP hD hS => ?_)
  obtain ⟨er_205, rfl⟩ := hw
  have hP : va_P (dC, dI) vwCl [(h0, .inr (9, [.int 0, .ref h1, v0, v1, v2, v3, v4, v5, v6, v7, v8, v9, v10, v11, v12, v13, v14, v15, v16, v17, v18, v19, v20, v21, v22, v23, v24, v25, v26, v27, v28, v29, v30, v31, v32, v33, v34, v35, v36, v37, v38, v39, v40, v41, v42, v43])), (h1, .inl (cyI, 3000, .inl f0))] H := hP
  have hD : va_D A [(h0, .inr (9, [.int 0, .ref h1, v0, v1, v2, v3, v4, v5, v6, v7, v8, v9, v10, v11, v12, v13, v14, v15, v16, v17, v18, v19, v20, v21, v22, v23, v24, v25, v26, v27, v28, v29, v30, v31, v32, v33, v34, v35, v36, v37, v38, v39, v40, v41, v42, v43])), (h1, .inl (cyI, 3000, .inl f0))] := hD
  refine lv_if_ne (tgt := 15) hx hb dX12_space_9 (by decide) (fun c_9 => ?_) (fun c_9 => ?_)
  · refine lv_aload_n hx hb dX12_space_15 rfl (lv_at hl 0 rfl) ?_
    refine va_get (D := (dC, dI)) (ci := 9) (v := .int 0) (C := RX12) (T := TX12) (N := 46) hx hb hts inlX12 hown hK hP 0 rfl rfl 0 (by decide) (hts _ mw_162) (fun _ h9 => h9) rfl dX12_space_16 ?_
    refine lv_iload_n hx hb dX12_space_19 rfl (lv_at hl 2 rfl) ?_
    refine lv_iadd hx hb dX12_space_20 ?_
    refine lv_topi (fun x_206 ex_206 => ?_)
    refine lv_iload_n hx hb dX12_space_21 rfl (lv_at hl 1 rfl) ?_
    refine lv_if_eq (tgt := 29) hx hb dX12_space_22 (by decide) (fun _ => ?_) (fun h9 => absurd (by decide) h9)
    refine lv_iconst (v := 0) hx hb dX12_space_29 (by decide) ?_
    refine lv_iadd hx hb dX12_space_30 ?_
    refine lv_topi (fun x_207 ex_207 => ?_)
    refine lv_sipush (v := 3000) hx hb dX12_space_31 (by decide) ?_
    refine lv_icmp_le (tgt := 40) hx hb dX12_space_34 (by decide) (fun c_34 => ?_) (fun c_34 => ?_)
    · refine lv_iload_n hx hb dX12_space_40 rfl (lv_at hl 1 rfl) ?_
      refine lv_if_eq (tgt := 65) hx hb dX12_space_41 (by decide) (fun _ => ?_) (fun h9 => absurd (by decide) h9)
      refine lv_iconst (v := 0) hx hb dX12_space_65 (by decide) ?_
      refine lv_istore_n (lv' := [(3, .int 0), (0, .ref h0), (1, .int 0), (2, .int p0)]) hx hb dX12_space_66 rfl hl (by decide) rfl (fun ls hl => ?_)
      exact l_X12_space_0 hx hb hr hlocks hml hown hts hK hA (by have h7 := zbd (hi := 80) (by decide) (fun h => c_9 (er_205.trans h)); have h8 : (80 : Int32).toInt = 80 := (by decide); omega) (fun z h => by rw [zs_space, ← er_205, if_neg c_9]; exact Int32.toInt_inj.mp (by have h7 := zbd (hi := 80) (by decide) (fun h => c_9 (er_205.trans h)); have h8 : (80 : Int32).toInt = 80 := (by decide); rw [zadd (by decide) (by decide) h7.1 (by omega)]; have h9 : (0 : Int32).toInt = 0 := (by decide); omega)) p0.toInt.toNat 0 0 f0 _ _ ls (by decide) (by have h7 := zbd (hi := 80) (by decide) (fun h => c_9 (er_205.trans h)); have h8 := z0; omega) (by decide) (hP.sub [0, 1] rfl) (hD.sub [0, 1] (by decide) rfl) hS (lv_sub hl [1, 2, 3, 0] rfl)
    · refine lv_bipush (v := (-3)) hx hb dX12_space_37 (by decide) ?_
      exact zr_i hx hb hr hlocks hK znilP znilD hS (by decide) (by decide) dX12_space_39 rfl ⟨(absurd (zn5 (by have h7 := zbd (hi := 80) (by decide) (fun h => c_9 (er_205.trans h)); have h8 : (80 : Int32).toInt = 80 := (by decide); have h9 := z0; have h10 : x_206.toInt = p0.toInt := (by rw [ex_206, zadd (by decide) (by decide) h7.1 (by omega)]; omega); rw [ex_207, zadd (by omega) (by omega) (by decide) (by decide)]; have h11 : (0 : Int32).toInt = 0 := (by decide); omega)) c_34), rfl⟩
  · refine lv_bipush (v := (-2)) hx hb dX12_space_12 (by decide) ?_
    exact zr_i hx hb hr hlocks hK znilP znilD hS (by decide) (by decide) dX12_space_14 rfl ⟨(by rw [zs_space, ← er_205, if_pos c_9]), rfl⟩
set_option maxRecDepth 100000 in
set_option maxHeartbeats 4000000 in
theorem l_X12_space_1 {p : Program} {l : Launch} {e : Env} {s : State} {m : MethodId} {args : Array Value} {below : List Frame} {meth : Method} {c : Code} {dC : Nat → ClassId} {dI : Nat → Nat → Nat} {cyI cyC : ClassId} {A : Nat → Prop} {h0 : Nat} {h1 : Nat} {v0 : Value} {v1 : Value} {v2 : Value} {v3 : Value} {v4 : Value} {v5 : Value} {v6 : Value} {v7 : Value} {v8 : Value} {v9 : Value} {v10 : Value} {v11 : Value} {v12 : Value} {v13 : Value} {v14 : Value} {v15 : Value} {v16 : Value} {v17 : Value} {v18 : Value} {v19 : Value} {v20 : Value} {v21 : Value} {v22 : Value} {v23 : Value} {v24 : Value} {v25 : Value} {v26 : Value} {v27 : Value} {v28 : Value} {v29 : Value} {v30 : Value} {v31 : Value} {v32 : Value} {v33 : Value} {v34 : Value} {v35 : Value} {v36 : Value} {v37 : Value} {v38 : Value} {v39 : Value} {v40 : Value} {v41 : Value} {v42 : Value} {v43 : Value} {p0 : Int32} (hx : p.tables.exec = Jvm.exec) (hb : c.code = cX12_space) (hr : meth.sig.returnType = some .int) (hlocks : meth.locks = false) (hml : c.maxLocals = 4) (hown : s.vm.findClass RX12 = some m.cls) (hts : ∀ w ∈ wsL_law, w.before args s = true) (hK : va_K (dC, dI) vwCl (zT cyI cyC) s) (hA : ∀ q : Nat, s.heap.size ≤ q → A q) (hn1 : p0.toInt ≤ 100) (hs : ∀ z : Int32, z.toInt = p0.toInt + 1 → z = zs_space 1 p0) :
    ∀ (k : Nat) (x z : Int32) (f0 : Nat → Int32) (H : Heap) (locs : List Loc) (ls : Array Slot), 0 ≤ x.toInt → x.toInt + k = p0.toInt → z.toInt = x.toInt + 1 → va_P (dC, dI) vwCl [(h0, .inr (9, [.int z, .ref h1, v0, v1, v2, v3, v4, v5, v6, v7, v8, v9, v10, v11, v12, v13, v14, v15, v16, v17, v18, v19, v20, v21, v22, v23, v24, v25, v26, v27, v28, v29, v30, v31, v32, v33, v34, v35, v36, v37, v38, v39, v40, v41, v42, v43])), (h1, .inl (cyI, 3000, .inl f0))] H → va_D A [(h0, .inr (9, [.int z, .ref h1, v0, v1, v2, v3, v4, v5, v6, v7, v8, v9, v10, v11, v12, v13, v14, v15, v16, v17, v18, v19, v20, v21, v22, v23, v24, v25, v26, v27, v28, v29, v30, v31, v32, v33, v34, v35, v36, v37, v38, v39, v40, v41, v42, v43])), (h1, .inl (cyI, 3000, .inl f0))] → va_S A s.heap H locs → lv_has ls 4 [(0, .ref h0), (1, .int 1), (2, .int p0), (3, .int x)] → W p l e { frames := 2, cells := 0, slots := 0, locals := 128 } s m args below meth c H locs 0 0 (MQ below (zQi (dC, dI) (zT cyI cyC) (fun r w => r = zs_space 1 p0 ∧ w = []) A) args s 0 0 A) (F0 m 67 ls []) := by
  intro k
  induction k with
  | zero =>
    intro x z f0 H locs ls h0x hk hz hP hD hS hl
    refine lv_iload_n hx hb dX12_space_67 rfl (lv_at hl 3 rfl) ?_
    refine lv_iload_n hx hb dX12_space_68 rfl (lv_at hl 2 rfl) ?_
    refine lv_icmp_ge (tgt := 99) hx hb dX12_space_69 (by decide) (fun _ => ?_) (fun h9 => absurd (zge hk) h9)
    refine lv_aload_n hx hb dX12_space_99 rfl (lv_at hl 0 rfl) ?_
    refine va_get (D := (dC, dI)) (ci := 9) (v := .int z) (C := RX12) (T := TX12) (N := 46) hx hb hts inlX12 hown hK hP 0 rfl rfl 0 (by decide) (hts _ mw_162) (fun _ h9 => h9) rfl dX12_space_100 ?_
    exact zr_i hx hb hr hlocks hK znilP znilD hS (by decide) (by decide) dX12_space_103 rfl ⟨hs z (by omega), rfl⟩
  | succ k ih =>
    intro x z f0 H locs ls h0x hk hz hP hD hS hl
    have hx3 : x.toInt ≤ 2000 := by omega
    have hz3 : z.toInt ≤ 2999 := by omega
    have hz0 : 0 ≤ z.toInt := by omega
    obtain ⟨x1, hx1⟩ : ∃ y : Int32, x + 1 = y := ⟨_, rfl⟩
    obtain ⟨z1, hz1⟩ : ∃ y : Int32, z + 1 = y := ⟨_, rfl⟩
    have hx2 : x1.toInt = x.toInt + 1 := by rw [← hx1]; exact zsuc h0x (by omega)
    have hz2 : z1.toInt = z.toInt + 1 := by rw [← hz1]; exact zsuc hz0 (by omega)
    refine lv_iload_n hx hb dX12_space_67 rfl (lv_at hl 3 rfl) ?_
    refine lv_iload_n hx hb dX12_space_68 rfl (lv_at hl 2 rfl) ?_
    refine lv_icmp_ge (tgt := 99) hx hb dX12_space_69 (by decide) (fun h9 => absurd h9 (znge hk)) (fun _ => ?_)
    refine lv_aload_n hx hb dX12_space_72 rfl (lv_at hl 0 rfl) ?_
    refine va_get (D := (dC, dI)) (ci := 9) (v := .ref h1) (C := RX12) (T := TX12) (N := 46) hx hb hts inlX12 hown hK hP 0 rfl rfl 1 (by decide) (hts _ mw_112) (fun _ h9 => h9) rfl dX12_space_73 ?_
    refine lv_aload_n hx hb dX12_space_76 rfl (lv_at hl 0 rfl) ?_
    refine va_get (D := (dC, dI)) (ci := 9) (v := .int z) (C := RX12) (T := TX12) (N := 46) hx hb hts inlX12 hown hK hP 0 rfl rfl 0 (by decide) (hts _ mw_162) (fun _ h9 => h9) rfl dX12_space_77 ?_
    refine lv_bipush (v := 32) hx hb dX12_space_80 (by decide) ?_
    refine va_iast hx hb hK hP hD hS 1 0 rfl rfl (zinb hz0 hz3) dX12_space_82 (fun H locs hP hD hS => ?_)
    obtain ⟨g_208, hP, hD⟩ : ∃ g_208 : Nat → Int32, va_P (dC, dI) vwCl [(h0, .inr (9, [.int z, .ref h1, v0, v1, v2, v3, v4, v5, v6, v7, v8, v9, v10, v11, v12, v13, v14, v15, v16, v17, v18, v19, v20, v21, v22, v23, v24, v25, v26, v27, v28, v29, v30, v31, v32, v33, v34, v35, v36, v37, v38, v39, v40, v41, v42, v43])), (h1, .inl (cyI, 3000, .inl g_208))] H ∧ va_D A [(h0, .inr (9, [.int z, .ref h1, v0, v1, v2, v3, v4, v5, v6, v7, v8, v9, v10, v11, v12, v13, v14, v15, v16, v17, v18, v19, v20, v21, v22, v23, v24, v25, v26, v27, v28, v29, v30, v31, v32, v33, v34, v35, v36, v37, v38, v39, v40, v41, v42, v43])), (h1, .inl (cyI, 3000, .inl g_208))] := ⟨_, hP, hD⟩
    refine lv_aload_n hx hb dX12_space_83 rfl (lv_at hl 0 rfl) ?_
    refine lv_dup hx hb dX12_space_84 rfl ?_
    refine va_get (D := (dC, dI)) (ci := 9) (v := .int z) (C := RX12) (T := TX12) (N := 46) hx hb hts inlX12 hown hK hP 0 rfl rfl 0 (by decide) (hts _ mw_162) (fun _ h9 => h9) rfl dX12_space_85 ?_
    refine lv_iconst (v := 1) hx hb dX12_space_88 (by decide) ?_
    refine lv_iadd hx hb dX12_space_89 ?_
    refine zl_i (y := z1) hz1 ?_
    refine va_put (D := (dC, dI)) (ci := 9) (v := .int z1) (ty := .int) (C := RX12) (T := TX12) (N := 46) hx hb hts inlX12 tyX12 tyX12_ok nmX12 hown hK hP hD hS 0 rfl rfl 0 (by decide) (hts _ mw_162) (fun _ h9 => h9) rfl (by decide +kernel) rfl rfl (Nat.le_of_ble_eq_true rfl) dX12_space_90 (fun H locs hP hD hS => ?_)
    have hP : va_P (dC, dI) vwCl [(h0, .inr (9, [.int z1, .ref h1, v0, v1, v2, v3, v4, v5, v6, v7, v8, v9, v10, v11, v12, v13, v14, v15, v16, v17, v18, v19, v20, v21, v22, v23, v24, v25, v26, v27, v28, v29, v30, v31, v32, v33, v34, v35, v36, v37, v38, v39, v40, v41, v42, v43])), (h1, .inl (cyI, 3000, .inl g_208))] H := hP
    have hD : va_D A [(h0, .inr (9, [.int z1, .ref h1, v0, v1, v2, v3, v4, v5, v6, v7, v8, v9, v10, v11, v12, v13, v14, v15, v16, v17, v18, v19, v20, v21, v22, v23, v24, v25, v26, v27, v28, v29, v30, v31, v32, v33, v34, v35, v36, v37, v38, v39, v40, v41, v42, v43])), (h1, .inl (cyI, 3000, .inl g_208))] := hD
    refine lv_iinc (v := x1) (lv' := [(3, .int x1), (0, .ref h0), (1, .int 1), (2, .int p0)]) hx hb dX12_space_93 hl (k := 3) rfl hx1 (by decide) rfl (fun ls hl => ?_)
    refine lv_goto (tgt := 67) hx hb dX12_space_96 (by decide) ?_
    exact ih x1 z1 g_208 _ _ ls (by omega) (by omega) (by omega) (hP.sub [0, 1] rfl) (hD.sub [0, 1] (by decide) rfl) hS (lv_sub hl [1, 2, 3, 0] rfl)
set_option maxRecDepth 100000 in
set_option maxHeartbeats 4000000 in
theorem k_X12_space_1 (l : Launch) (dC : Nat → ClassId) (dI : Nat → Nat → Nat) (cyI cyC : ClassId) (h0 : Nat) (h1 : Nat) (v0 : Value) (v1 : Value) (v2 : Value) (v3 : Value) (v4 : Value) (v5 : Value) (v6 : Value) (v7 : Value) (v8 : Value) (v9 : Value) (v10 : Value) (v11 : Value) (v12 : Value) (v13 : Value) (v14 : Value) (v15 : Value) (v16 : Value) (v17 : Value) (v18 : Value) (v19 : Value) (v20 : Value) (v21 : Value) (v22 : Value) (v23 : Value) (v24 : Value) (v25 : Value) (v26 : Value) (v27 : Value) (v28 : Value) (v29 : Value) (v30 : Value) (v31 : Value) (v32 : Value) (v33 : Value) (v34 : Value) (v35 : Value) (v36 : Value) (v37 : Value) (v38 : Value) (v39 : Value) (v40 : Value) (v41 : Value) (v42 : Value) (v43 : Value) (f0 : Nat → Int32) (p0 : Int32) : zM l (dC, dI) (zT cyI cyC) yX12_space cX12_space 4 (some .int) { frames := 2, cells := 0, slots := 0, locals := 128 } [.ref h0, .int 1, .int p0] [(h0, .inr (9, [.int 0, .ref h1, v0, v1, v2, v3, v4, v5, v6, v7, v8, v9, v10, v11, v12, v13, v14, v15, v16, v17, v18, v19, v20, v21, v22, v23, v24, v25, v26, v27, v28, v29, v30, v31, v32, v33, v34, v35, v36, v37, v38, v39, v40, v41, v42, v43])), (h1, .inl (cyI, 3000, .inl f0))] (zQi (dC, dI) (zT cyI cyC) (fun r w => r = zs_space 1 p0 ∧ w = [])) := by
  refine zM.of (by decide +kernel) (Nat.le_of_ble_eq_true rfl) ?_
  intro p e s m below meth c hx hb hr hlocks hml hown hnm hts hK A hA H hP hD hS ls hl
  have hown : s.vm.findClass RX12 = some m.cls := hown
  have hl : lv_has ls 4 [(0, .ref h0), (1, .int 1), (2, .int p0)] := hl
  refine lv_iload_n hx hb dX12_space_0 rfl (lv_at hl 2 rfl) ?_
  refine lv_i2l hx hb dX12_space_1 rfl ?_
  refine lv_lconst (v := 0) hx hb dX12_space_2 (by decide) ?_
  refine lv_ldc2 (v := 80) hx hb hown (hts _ mw_175) dX12_space_3 ?_
  refine zcSi (wr := [(h0, .inr (9, [.int 0, .ref h1, v0, v1, v2, v3, v4, v5, v6, v7, v8, v9, v10, v11, v12, v13, v14, v15, v16, v17, v18, v19, v20, v21, v22, v23, v24, v25, v26, v27, v28, v29, v30, v31, v32, v33, v34, v35, v36, v37, v38, v39, v40, v41, v42, v43])), (h1, .inl (cyI, 3000, .inl f0))]) (rest := []) hx hb hml hown hts (k_X12_in_5 l dC dI cyI cyC p0.toInt64) zo_X12_in mw_165 mw_164 ⟨by decide, by decide⟩ hK hP hD hS hA [] [0, 1] rfl rfl rfl rfl (by decide) hl.1 rfl rfl (Nat.le_of_ble_eq_true rfl) dX12_space_6 ⟨by decide, by decide⟩ (fun r_209 w1 H locs hw hP hD hS => ?_)
  obtain ⟨er_209, rfl⟩ := hw
  have hP : va_P (dC, dI) vwCl [(h0, .inr (9, [.int 0, .ref h1, v0, v1, v2, v3, v4, v5, v6, v7, v8, v9, v10, v11, v12, v13, v14, v15, v16, v17, v18, v19, v20, v21, v22, v23, v24, v25, v26, v27, v28, v29, v30, v31, v32, v33, v34, v35, v36, v37, v38, v39, v40, v41, v42, v43])), (h1, .inl (cyI, 3000, .inl f0))] H := hP
  have hD : va_D A [(h0, .inr (9, [.int 0, .ref h1, v0, v1, v2, v3, v4, v5, v6, v7, v8, v9, v10, v11, v12, v13, v14, v15, v16, v17, v18, v19, v20, v21, v22, v23, v24, v25, v26, v27, v28, v29, v30, v31, v32, v33, v34, v35, v36, v37, v38, v39, v40, v41, v42, v43])), (h1, .inl (cyI, 3000, .inl f0))] := hD
  refine lv_if_ne (tgt := 15) hx hb dX12_space_9 (by decide) (fun c_9 => ?_) (fun c_9 => ?_)
  · refine lv_aload_n hx hb dX12_space_15 rfl (lv_at hl 0 rfl) ?_
    refine va_get (D := (dC, dI)) (ci := 9) (v := .int 0) (C := RX12) (T := TX12) (N := 46) hx hb hts inlX12 hown hK hP 0 rfl rfl 0 (by decide) (hts _ mw_162) (fun _ h9 => h9) rfl dX12_space_16 ?_
    refine lv_iload_n hx hb dX12_space_19 rfl (lv_at hl 2 rfl) ?_
    refine lv_iadd hx hb dX12_space_20 ?_
    refine lv_topi (fun x_210 ex_210 => ?_)
    refine lv_iload_n hx hb dX12_space_21 rfl (lv_at hl 1 rfl) ?_
    refine lv_if_eq (tgt := 29) hx hb dX12_space_22 (by decide) (fun h9 => absurd h9 (by decide)) (fun _ => ?_)
    refine lv_iconst (v := 1) hx hb dX12_space_25 (by decide) ?_
    refine lv_goto (tgt := 30) hx hb dX12_space_26 (by decide) ?_
    refine lv_iadd hx hb dX12_space_30 ?_
    refine lv_topi (fun x_211 ex_211 => ?_)
    refine lv_sipush (v := 3000) hx hb dX12_space_31 (by decide) ?_
    refine lv_icmp_le (tgt := 40) hx hb dX12_space_34 (by decide) (fun c_34 => ?_) (fun c_34 => ?_)
    · refine lv_iload_n hx hb dX12_space_40 rfl (lv_at hl 1 rfl) ?_
      refine lv_if_eq (tgt := 65) hx hb dX12_space_41 (by decide) (fun h9 => absurd h9 (by decide)) (fun _ => ?_)
      refine lv_aload_n hx hb dX12_space_44 rfl (lv_at hl 0 rfl) ?_
      refine va_get (D := (dC, dI)) (ci := 9) (v := .ref h1) (C := RX12) (T := TX12) (N := 46) hx hb hts inlX12 hown hK hP 0 rfl rfl 1 (by decide) (hts _ mw_112) (fun _ h9 => h9) rfl dX12_space_45 ?_
      refine lv_aload_n hx hb dX12_space_48 rfl (lv_at hl 0 rfl) ?_
      refine va_get (D := (dC, dI)) (ci := 9) (v := .int 0) (C := RX12) (T := TX12) (N := 46) hx hb hts inlX12 hown hK hP 0 rfl rfl 0 (by decide) (hts _ mw_162) (fun _ h9 => h9) rfl dX12_space_49 ?_
      refine lv_bipush (v := 10) hx hb dX12_space_52 (by decide) ?_
      refine va_iast hx hb hK hP hD hS 1 0 rfl rfl (zin (by decide)) dX12_space_54 (fun H locs hP hD hS => ?_)
      have hP : va_P (dC, dI) vwCl [(h0, .inr (9, [.int 0, .ref h1, v0, v1, v2, v3, v4, v5, v6, v7, v8, v9, v10, v11, v12, v13, v14, v15, v16, v17, v18, v19, v20, v21, v22, v23, v24, v25, v26, v27, v28, v29, v30, v31, v32, v33, v34, v35, v36, v37, v38, v39, v40, v41, v42, v43])), (h1, .inl (cyI, 3000, .inl (upd f0 0 10)))] H := hP
      have hD : va_D A [(h0, .inr (9, [.int 0, .ref h1, v0, v1, v2, v3, v4, v5, v6, v7, v8, v9, v10, v11, v12, v13, v14, v15, v16, v17, v18, v19, v20, v21, v22, v23, v24, v25, v26, v27, v28, v29, v30, v31, v32, v33, v34, v35, v36, v37, v38, v39, v40, v41, v42, v43])), (h1, .inl (cyI, 3000, .inl (upd f0 0 10)))] := hD
      refine lv_aload_n hx hb dX12_space_55 rfl (lv_at hl 0 rfl) ?_
      refine lv_dup hx hb dX12_space_56 rfl ?_
      refine va_get (D := (dC, dI)) (ci := 9) (v := .int 0) (C := RX12) (T := TX12) (N := 46) hx hb hts inlX12 hown hK hP 0 rfl rfl 0 (by decide) (hts _ mw_162) (fun _ h9 => h9) rfl dX12_space_57 ?_
      refine lv_iconst (v := 1) hx hb dX12_space_60 (by decide) ?_
      refine lv_iadd hx hb dX12_space_61 ?_
      refine zl_i (y := 1) (by decide) ?_
      refine va_put (D := (dC, dI)) (ci := 9) (v := .int 1) (ty := .int) (C := RX12) (T := TX12) (N := 46) hx hb hts inlX12 tyX12 tyX12_ok nmX12 hown hK hP hD hS 0 rfl rfl 0 (by decide) (hts _ mw_162) (fun _ h9 => h9) rfl (by decide +kernel) rfl rfl (Nat.le_of_ble_eq_true rfl) dX12_space_62 (fun H locs hP hD hS => ?_)
      have hP : va_P (dC, dI) vwCl [(h0, .inr (9, [.int 1, .ref h1, v0, v1, v2, v3, v4, v5, v6, v7, v8, v9, v10, v11, v12, v13, v14, v15, v16, v17, v18, v19, v20, v21, v22, v23, v24, v25, v26, v27, v28, v29, v30, v31, v32, v33, v34, v35, v36, v37, v38, v39, v40, v41, v42, v43])), (h1, .inl (cyI, 3000, .inl (upd f0 0 10)))] H := hP
      have hD : va_D A [(h0, .inr (9, [.int 1, .ref h1, v0, v1, v2, v3, v4, v5, v6, v7, v8, v9, v10, v11, v12, v13, v14, v15, v16, v17, v18, v19, v20, v21, v22, v23, v24, v25, v26, v27, v28, v29, v30, v31, v32, v33, v34, v35, v36, v37, v38, v39, v40, v41, v42, v43])), (h1, .inl (cyI, 3000, .inl (upd f0 0 10)))] := hD
      refine lv_iconst (v := 0) hx hb dX12_space_65 (by decide) ?_
      refine lv_istore_n (lv' := [(3, .int 0), (0, .ref h0), (1, .int 1), (2, .int p0)]) hx hb dX12_space_66 rfl hl (by decide) rfl (fun ls hl => ?_)
      exact l_X12_space_1 hx hb hr hlocks hml hown hts hK hA (by have h7 := zbd (hi := 80) (by decide) (fun h => c_9 (er_209.trans h)); have h8 : (80 : Int32).toInt = 80 := (by decide); omega) (fun z h => by rw [zs_space, ← er_209, if_neg c_9]; exact Int32.toInt_inj.mp (by have h7 := zbd (hi := 80) (by decide) (fun h => c_9 (er_209.trans h)); have h8 : (80 : Int32).toInt = 80 := (by decide); rw [zadd (by decide) (by decide) h7.1 (by omega)]; have h9 : (1 : Int32).toInt = 1 := (by decide); omega)) p0.toInt.toNat 0 1 (upd f0 0 10) _ _ ls (by decide) (by have h7 := zbd (hi := 80) (by decide) (fun h => c_9 (er_209.trans h)); have h8 := z0; omega) (by decide) (hP.sub [0, 1] rfl) (hD.sub [0, 1] (by decide) rfl) hS (lv_sub hl [1, 2, 3, 0] rfl)
    · refine lv_bipush (v := (-3)) hx hb dX12_space_37 (by decide) ?_
      exact zr_i hx hb hr hlocks hK znilP znilD hS (by decide) (by decide) dX12_space_39 rfl ⟨(absurd (zn5 (by have h7 := zbd (hi := 80) (by decide) (fun h => c_9 (er_209.trans h)); have h8 : (80 : Int32).toInt = 80 := (by decide); have h9 := z0; have h10 : x_210.toInt = p0.toInt := (by rw [ex_210, zadd (by decide) (by decide) h7.1 (by omega)]; omega); rw [ex_211, zadd (by omega) (by omega) (by decide) (by decide)]; have h11 : (1 : Int32).toInt = 1 := (by decide); omega)) c_34), rfl⟩
  · refine lv_bipush (v := (-2)) hx hb dX12_space_12 (by decide) ?_
    exact zr_i hx hb hr hlocks hK znilP znilD hS (by decide) (by decide) dX12_space_14 rfl ⟨(by rw [zs_space, ← er_209, if_pos c_9]), rfl⟩
