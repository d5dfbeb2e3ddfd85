set_option maxRecDepth 100000 in
set_option maxHeartbeats 4000000 in
theorem k_X8_empty_1 (l : Launch) (dC : Nat → ClassId) (dI : Nat → Nat → Nat) (cyI cyC : ClassId) (h0 : Nat) (v0 : Value) (v1 : Value) : zM l (dC, dI) (zT cyI cyC) yX8_empty cX8_empty 1 none { frames := 1, cells := 0, slots := 0, locals := 64 } [.ref h0] [(h0, .inr (5, [v0, v1]))] (zQv (dC, dI) (zT cyI cyC) (fun w => w = [(h0, .inr (5, [v0, .int 0]))])) := by
  refine zM.of (by decide +kernel) (Nat.le_of_ble_eq_true rfl) ?_
  intro p e s m below meth c hx hb hr hlocks hml hown hnm hts hK A hA H hP hD hS ls hl
  have hown : s.vm.findClass RX8 = some m.cls := hown
  have hl : lv_has ls 1 [(0, .ref h0)] := hl
  refine lv_aload_n hx hb dX8_empty_0 rfl (lv_at hl 0 rfl) ?_
  refine lv_iconst (v := 0) hx hb dX8_empty_1 (by decide) ?_
  refine va_put (D := (dC, dI)) (ci := 5) (v := .int 0) (ty := .int) (C := RX8) (T := TX8) (N := 2) hx hb hts inlX8 tyX8 tyX8_ok nmX8 hown hK hP hD hS 0 rfl rfl 1 (by decide) (hts _ mw_148) (fun _ h9 => h9) rfl (by decide +kernel) rfl rfl (Nat.le_of_ble_eq_true rfl) dX8_empty_2 (fun H locs hP hD hS => ?_)
  have hP : va_P (dC, dI) vwCl [(h0, .inr (5, [v0, .int 0]))] H := hP
  have hD : va_D A [(h0, .inr (5, [v0, .int 0]))] := hD
  exact zr_v hx hb hr hlocks hK hP hD hS (by decide) (by decide) dX8_empty_5 rfl
set_option maxRecDepth 100000 in
set_option maxHeartbeats 4000000 in
theorem k_X11_clear_1 (l : Launch) (dC : Nat → ClassId) (dI : Nat → Nat → Nat) (cyI cyC : ClassId) (h0 : Nat) (h1 : Nat) (v0 : Value) (v1 : Value) (v2 : Value) (v3 : Value) (v4 : Value) (v5 : Value) (v6 : Value) (v7 : Value) (v8 : Value) : zM l (dC, dI) (zT cyI cyC) yX11_clear cX11_clear 2 (some .int) { frames := 2, cells := 0, slots := 0, locals := 128 } [.ref h0] [(h0, .inr (8, [.ref h1, v0, v1, v2, v3, v4, v5, v6, v7])), (h1, .inr (5, [v8, .int 0]))] (zQi (dC, dI) (zT cyI cyC) (fun r w => r = 0 ∧ w = [])) := by
  refine zM.of (by decide +kernel) (Nat.le_of_ble_eq_true rfl) ?_
  intro p e s m below meth c hx hb hr hlocks hml hown hnm hts hK A hA H hP hD hS ls hl
  have hown : s.vm.findClass RX11 = some m.cls := hown
  have hl : lv_has ls 2 [(0, .ref h0)] := hl
  refine lv_aload_n hx hb dX11_clear_0 rfl (lv_at hl 0 rfl) ?_
  refine va_get (D := (dC, dI)) (ci := 8) (v := .ref h1) (C := RX11) (T := TX11) (N := 9) hx hb hts inlX11 hown hK hP 0 rfl rfl 0 (by decide) (hts _ mw_16) (fun _ h9 => h9) rfl dX11_clear_1 ?_
  refine zcVi (wr := [(h0, .inr (8, [.ref h1, v0, v1, v2, v3, v4, v5, v6, v7]))]) (rest := []) hx hb hml hown hts (k_X8_length_1 l dC dI cyI cyC h1 (v8)) zo_X8_length zv_X8_length mw_153 ⟨by decide, by decide⟩ hK hP hD hS hA [1] [0] rfl rfl rfl rfl (by decide) rfl rfl hl.1 rfl rfl (Nat.le_of_ble_eq_true rfl) dX11_clear_4 ⟨by decide, by decide⟩ (fun r_139 w1 H locs hw hP hD hS => ?_)
  obtain ⟨rfl, rfl⟩ := hw
  have hP : va_P (dC, dI) vwCl [(h0, .inr (8, [.ref h1, v0, v1, v2, v3, v4, v5, v6, v7])), (h1, .inr (5, [v8, .int 0]))] H := hP
  have hD : va_D A [(h0, .inr (8, [.ref h1, v0, v1, v2, v3, v4, v5, v6, v7])), (h1, .inr (5, [v8, .int 0]))] := hD
  refine lv_istore_n (lv' := [(1, .int 0), (0, .ref h0)]) hx hb dX11_clear_7 rfl hl (by decide) rfl (fun ls hl => ?_)
  refine lv_aload_n hx hb dX11_clear_8 rfl (lv_at hl 1 rfl) ?_
  refine va_get (D := (dC, dI)) (ci := 8) (v := .ref h1) (C := RX11) (T := TX11) (N := 9) hx hb hts inlX11 hown hK hP 0 rfl rfl 0 (by decide) (hts _ mw_16) (fun _ h9 => h9) rfl dX11_clear_9 ?_
  refine zcVv (wr := [(h0, .inr (8, [.ref h1, v0, v1, v2, v3, v4, v5, v6, v7]))]) (rest := []) hx hb hml hown hts (k_X8_empty_1 l dC dI cyI cyC h1 (v8) (.int 0)) zo_X8_empty zv_X8_empty mw_180 ⟨by decide, by decide⟩ hK hP hD hS hA [1] [0] rfl rfl rfl rfl (by decide) rfl rfl hl.1 rfl rfl (Nat.le_of_ble_eq_true rfl) dX11_clear_12 ⟨by decide, by decide⟩ (fun w1 H locs hw hP hD hS => ?_)
  subst hw
  have hP : va_P (dC, dI) vwCl [(h0, .inr (8, [.ref h1, v0, v1, v2, v3, v4, v5, v6, v7])), (h1, .inr (5, [v8, .int 0]))] H := hP
  have hD : va_D A [(h0, .inr (8, [.ref h1, v0, v1, v2, v3, v4, v5, v6, v7])), (h1, .inr (5, [v8, .int 0]))] := hD
  refine lv_iload_n hx hb dX11_clear_15 rfl (lv_at hl 0 rfl) ?_
  exact zr_i hx hb hr hlocks hK znilP znilD hS (by decide) (by decide) dX11_clear_16 rfl ⟨rfl, rfl⟩
set_option maxRecDepth 100000 in
set_option maxHeartbeats 4000000 in
theorem k_X12_clear_1 (l : Launch) (dC : Nat → ClassId) (dI : Nat → Nat → Nat) (cyI cyC : ClassId) (h0 : Nat) (v0 : Value) (v1 : Value) (v2 : Value) (v3 : Value) (v4 : Value) (v5 : Value) (v6 : Value) (v7 : Value) (v8 : Value) (v9 : Value) (v10 : Value) (v11 : Value) (v12 : Value) (v13 : Value) (v14 : Value) (v15 : Value) (v16 : Value) (v17 : Value) (v18 : Value) (v19 : Value) (v20 : Value) (v21 : Value) (v22 : Value) (v23 : Value) (v24 : Value) (v25 : Value) (v26 : Value) (v27 : Value) (v28 : Value) (v29 : Value) (v30 : Value) (v31 : Value) (v32 : Value) (v33 : Value) (v34 : Value) (v35 : Value) (v36 : Value) (v37 : Value) (v38 : Value) (v39 : Value) (v40 : Value) (v41 : Value) (v42 : Value) (v43 : Value) (v44 : Value) : zM l (dC, dI) (zT cyI cyC) yX12_clear cX12_clear 2 (some .int) { frames := 1, cells := 0, slots := 0, locals := 64 } [.ref h0] [(h0, .inr (9, [.int 0, v0, v1, v2, v3, v4, v5, v6, v7, v8, v9, v10, v11, v12, v13, v14, v15, v16, v17, v18, v19, v20, v21, v22, v23, v24, v25, v26, v27, v28, v29, v30, v31, v32, v33, v34, v35, v36, v37, v38, v39, v40, v41, v42, v43, v44]))] (zQi (dC, dI) (zT cyI cyC) (fun r w => r = 0 ∧ w = [])) := by
  refine zM.of (by decide +kernel) (Nat.le_of_ble_eq_true rfl) ?_
  intro p e s m below meth c hx hb hr hlocks hml hown hnm hts hK A hA H hP hD hS ls hl
  have hown : s.vm.findClass RX12 = some m.cls := hown
  have hl : lv_has ls 2 [(0, .ref h0)] := hl
  refine lv_aload_n hx hb dX12_clear_0 rfl (lv_at hl 0 rfl) ?_
  refine va_get (D := (dC, dI)) (ci := 9) (v := .int 0) (C := RX12) (T := TX12) (N := 46) hx hb hts inlX12 hown hK hP 0 rfl rfl 0 (by decide) (hts _ mw_162) (fun _ h9 => h9) rfl dX12_clear_1 ?_
  refine lv_istore_n (lv' := [(1, .int 0), (0, .ref h0)]) hx hb dX12_clear_4 rfl hl (by decide) rfl (fun ls hl => ?_)
  refine lv_aload_n hx hb dX12_clear_5 rfl (lv_at hl 1 rfl) ?_
  refine lv_iconst (v := 0) hx hb dX12_clear_6 (by decide) ?_
  refine va_put (D := (dC, dI)) (ci := 9) (v := .int 0) (ty := .int) (C := RX12) (T := TX12) (N := 46) hx hb hts inlX12 tyX12 tyX12_ok nmX12 hown hK hP hD hS 0 rfl rfl 0 (by decide) (hts _ mw_162) (fun _ h9 => h9) rfl (by decide +kernel) rfl rfl (Nat.le_of_ble_eq_true rfl) dX12_clear_7 (fun H locs hP hD hS => ?_)
  have hP : va_P (dC, dI) vwCl [(h0, .inr (9, [.int 0, v0, v1, v2, v3, v4, v5, v6, v7, v8, v9, v10, v11, v12, v13, v14, v15, v16, v17, v18, v19, v20, v21, v22, v23, v24, v25, v26, v27, v28, v29, v30, v31, v32, v33, v34, v35, v36, v37, v38, v39, v40, v41, v42, v43, v44]))] H := hP
  have hD : va_D A [(h0, .inr (9, [.int 0, v0, v1, v2, v3, v4, v5, v6, v7, v8, v9, v10, v11, v12, v13, v14, v15, v16, v17, v18, v19, v20, v21, v22, v23, v24, v25, v26, v27, v28, v29, v30, v31, v32, v33, v34, v35, v36, v37, v38, v39, v40, v41, v42, v43, v44]))] := hD
  refine lv_iload_n hx hb dX12_clear_10 rfl (lv_at hl 0 rfl) ?_
  exact zr_i hx hb hr hlocks hK znilP znilD hS (by decide) (by decide) dX12_clear_11 rfl ⟨rfl, rfl⟩
set_option maxRecDepth 100000 in
set_option maxHeartbeats 4000000 in
theorem k_X8_byteAt_1 (l : Launch) (dC : Nat → ClassId) (dI : Nat → Nat → Nat) (cyI cyC : ClassId) (h0 : Nat) (v0 : Value) (p0 : Int32) : zM l (dC, dI) (zT cyI cyC) yX8_byteAt cX8_byteAt 2 (some .int) { frames := 1, cells := 0, slots := 0, locals := 64 } [.ref h0, .int p0] [(h0, .inr (5, [v0, .int 0]))] (zQi (dC, dI) (zT cyI cyC) (fun r w => r = (-1) ∧ w = [(h0, .inr (5, [v0, .int 0]))])) := by
  refine zM.of (by decide +kernel) (Nat.le_of_ble_eq_true rfl) ?_
  intro p e s m below meth c hx hb hr hlocks hml hown hnm hts hK A hA H hP hD hS ls hl
  have hown : s.vm.findClass RX8 = some m.cls := hown
  have hl : lv_has ls 2 [(0, .ref h0), (1, .int p0)] := hl
  refine lv_iload_n hx hb dX8_byteAt_0 rfl (lv_at hl 1 rfl) ?_
  refine lv_if_lt (tgt := 21) hx hb dX8_byteAt_1 (by decide) (fun c_1 => ?_) (fun c_1 => ?_)
  · refine lv_iconst (v := (-1)) hx hb dX8_byteAt_21 (by decide) ?_
    exact zr_i hx hb hr hlocks hK hP hD hS (by decide) (by decide) dX8_byteAt_22 rfl ⟨rfl, rfl⟩
  · refine lv_iload_n hx hb dX8_byteAt_4 rfl (lv_at hl 1 rfl) ?_
    refine lv_aload_n hx hb dX8_byteAt_5 rfl (lv_at hl 0 rfl) ?_
    refine va_get (D := (dC, dI)) (ci := 5) (v := .int 0) (C := RX8) (T := TX8) (N := 2) hx hb hts inlX8 hown hK hP 0 rfl rfl 1 (by decide) (hts _ mw_148) (fun _ h9 => h9) rfl dX8_byteAt_6 ?_
    refine lv_icmp_ge (tgt := 21) hx hb dX8_byteAt_9 (by decide) (fun _ => ?_) (fun h9 => absurd (Int32.not_lt.mp c_1) h9)
    refine lv_iconst (v := (-1)) hx hb dX8_byteAt_21 (by decide) ?_
    exact zr_i hx hb hr hlocks hK hP hD hS (by decide) (by decide) dX8_byteAt_22 rfl ⟨rfl, rfl⟩
set_option maxRecDepth 100000 in
set_option maxHeartbeats 4000000 in
theorem k_X11_at_1 (l : Launch) (dC : Nat → ClassId) (dI : Nat → Nat → Nat) (cyI cyC : ClassId) (h0 : Nat) (h1 : Nat) (v0 : Value) (v1 : Value) (v2 : Value) (v3 : Value) (v4 : Value) (v5 : Value) (v6 : Value) (v7 : Value) (v8 : Value) (p0 : Int32) : zM l (dC, dI) (zT cyI cyC) yX11_at cX11_at 2 (some .int) { frames := 2, cells := 0, slots := 0, locals := 128 } [.ref h0, .int p0] [(h0, .inr (8, [.ref h1, v0, v1, v2, v3, v4, v5, v6, v7])), (h1, .inr (5, [v8, .int 0]))] (zQi (dC, dI) (zT cyI cyC) (fun r w => r = (-1) ∧ w = [])) := by
  refine zM.of (by decide +kernel) (Nat.le_of_ble_eq_true rfl) ?_
  intro p e s m below meth c hx hb hr hlocks hml hown hnm hts hK A hA H hP hD hS ls hl
  have hown : s.vm.findClass RX11 = some m.cls := hown
  have hl : lv_has ls 2 [(0, .ref h0), (1, .int p0)] := hl
  refine lv_aload_n hx hb dX11_at_0 rfl (lv_at hl 0 rfl) ?_
  refine va_get (D := (dC, dI)) (ci := 8) (v := .ref h1) (C := RX11) (T := TX11) (N := 9) hx hb hts inlX11 hown hK hP 0 rfl rfl 0 (by decide) (hts _ mw_16) (fun _ h9 => h9) rfl dX11_at_1 ?_
  refine lv_iload_n hx hb dX11_at_4 rfl (lv_at hl 1 rfl) ?_
  refine zcVi (wr := [(h0, .inr (8, [.ref h1, v0, v1, v2, v3, v4, v5, v6, v7]))]) (rest := []) hx hb hml hown hts (k_X8_byteAt_1 l dC dI cyI cyC h1 (v8) p0) zo_X8_byteAt zv_X8_byteAt mw_192 ⟨by decide, by decide⟩ hK hP hD hS hA [1] [0] rfl rfl rfl rfl (by decide) rfl rfl hl.1 rfl rfl (Nat.le_of_ble_eq_true rfl) dX11_at_5 ⟨by decide, by decide⟩ (fun r_140 w1 H locs hw hP hD hS => ?_)
  obtain ⟨rfl, rfl⟩ := hw
  have hP : va_P (dC, dI) vwCl [(h0, .inr (8, [.ref h1, v0, v1, v2, v3, v4, v5, v6, v7])), (h1, .inr (5, [v8, .int 0]))] H := hP
  have hD : va_D A [(h0, .inr (8, [.ref h1, v0, v1, v2, v3, v4, v5, v6, v7])), (h1, .inr (5, [v8, .int 0]))] := hD
  exact zr_i hx hb hr hlocks hK znilP znilD hS (by decide) (by decide) dX11_at_8 rfl ⟨rfl, rfl⟩
set_option maxRecDepth 100000 in
set_option maxHeartbeats 4000000 in
theorem k_X12_in_1 (l : Launch) (dC : Nat → ClassId) (dI : Nat → Nat → Nat) (cyI cyC : ClassId) (p0 : Int64) : zM l (dC, dI) (zT cyI cyC) yX12_in cX12_in 6 (some .boolean) { frames := 1, cells := 0, slots := 0, locals := 64 } [.long p0, .long 0, .long (-1)] [] (zQi (dC, dI) (zT cyI cyC) (fun r w => r = 0 ∧ w = [])) := by
  refine zM.of (by decide +kernel) (Nat.le_of_ble_eq_true rfl) ?_
  intro p e s m below meth c hx hb hr hlocks hml hown hnm hts hK A hA H hP hD hS ls hl
  have hown : s.vm.findClass RX12 = some m.cls := hown
  have hl : lv_has ls 6 [(0, .long p0), (2, .long 0), (4, .long (-1))] := hl
  refine lv_lload_n hx hb dX12_in_0 rfl (lv_at hl 0 rfl) ?_
  refine lv_lload_n hx hb dX12_in_1 rfl (lv_at hl 1 rfl) ?_
  refine W.lcmp hx hb dX12_in_2 ?_
  refine lv_if_lt (tgt := 17) hx hb dX12_in_3 (by decide) (fun c_3 => ?_) (fun c_3 => ?_)
  · refine lv_iconst (v := 0) hx hb dX12_in_17 (by decide) ?_
    exact zr_i hx hb hr hlocks hK hP hD hS (by decide) (by decide) dX12_in_18 rfl ⟨rfl, rfl⟩
  · refine lv_lload_n hx hb dX12_in_6 rfl (lv_at hl 0 rfl) ?_
    refine lv_lload hx hb dX12_in_7 (lv_at hl 2 rfl) ?_
    refine W.lcmp hx hb dX12_in_9 ?_
    refine lv_if_gt (tgt := 17) hx hb dX12_in_10 (by decide) (fun _ => ?_) (fun h9 => absurd (zin_e c_3) h9)
    refine lv_iconst (v := 0) hx hb dX12_in_17 (by decide) ?_
    exact zr_i hx hb hr hlocks hK hP hD hS (by decide) (by decide) dX12_in_18 rfl ⟨rfl, rfl⟩
set_option maxRecDepth 100000 in
set_option maxHeartbeats 4000000 in
theorem k_X12_at_1 (l : Launch) (dC : Nat → ClassId) (dI : Nat → Nat → Nat) (cyI cyC : ClassId) (h0 : Nat) (v0 : Value) (v1 : Value) (v2 : Value) (v3 : Value) (v4 : Value) (v5 : Value) (v6 : Value) (v7 : Value) (v8 : Value) (v9 : Value) (v10 : Value) (v11 : Value) (v12 : Value) (v13 : Value) (v14 : Value) (v15 : Value) (v16 : Value) (v17 : Value) (v18 : Value) (v19 : Value) (v20 : Value) (v21 : Value) (v22 : Value) (v23 : Value) (v24 : Value) (v25 : Value) (v26 : Value) (v27 : Value) (v28 : Value) (v29 : Value) (v30 : Value) (v31 : Value) (v32 : Value) (v33 : Value) (v34 : Value) (v35 : Value) (v36 : Value) (v37 : Value) (v38 : Value) (v39 : Value) (v40 : Value) (v41 : Value) (v42 : Value) (v43 : Value) (v44 : Value) (p0 : Int32) : zM l (dC, dI) (zT cyI cyC) yX12_at cX12_at 2 (some .int) { frames := 2, cells := 0, slots := 0, locals := 128 } [.ref h0, .int p0] [(h0, .inr (9, [.int 0, v0, v1, v2, v3, v4, v5, v6, v7, v8, v9, v10, v11, v12, v13, v14, v15, v16, v17, v18, v19, v20, v21, v22, v23, v24, v25, v26, v27, v28, v29, v30, v31, v32, v33, v34, v35, v36, v37, v38, v39, v40, v41, v42, v43, v44]))] (zQi (dC, dI) (zT cyI cyC) (fun r w => r = (-1) ∧ w = [])) := by
  refine zM.of (by decide +kernel) (Nat.le_of_ble_eq_true rfl) ?_
  intro p e s m below meth c hx hb hr hlocks hml hown hnm hts hK A hA H hP hD hS ls hl
  have hown : s.vm.findClass RX12 = some m.cls := hown
  have hl : lv_has ls 2 [(0, .ref h0), (1, .int p0)] := hl
  refine lv_iload_n hx hb dX12_at_0 rfl (lv_at hl 1 rfl) ?_
  refine lv_i2l hx hb dX12_at_1 rfl ?_
  refine lv_lconst (v := 0) hx hb dX12_at_2 (by decide) ?_
  refine lv_aload_n hx hb dX12_at_3 rfl (lv_at hl 0 rfl) ?_
  refine va_get (D := (dC, dI)) (ci := 9) (v := .int 0) (C := RX12) (T := TX12) (N := 46) hx hb hts inlX12 hown hK hP 0 rfl rfl 0 (by decide) (hts _ mw_162) (fun _ h9 => h9) rfl dX12_at_4 ?_
  refine lv_iconst (v := 1) hx hb dX12_at_7 (by decide) ?_
  refine lv_isub hx hb dX12_at_8 ?_
  refine zl_i (y := (-1)) (by decide) ?_
  refine lv_i2l (v := (-1)) hx hb dX12_at_9 (by decide) ?_
  refine zcSi (wr := [(h0, .inr (9, [.int 0, v0, v1, v2, v3, v4, v5, v6, v7, v8, v9, v10, v11, v12, v13, v14, v15, v16, v17, v18, v19, v20, v21, v22, v23, v24, v25, v26, v27, v28, v29, v30, v31, v32, v33, v34, v35, v36, v37, v38, v39, v40, v41, v42, v43, v44]))]) (rest := []) hx hb hml hown hts (k_X12_in_1 l dC dI cyI cyC p0.toInt64) zo_X12_in mw_165 mw_164 ⟨by decide, by decide⟩ hK hP hD hS hA [] [0] rfl rfl rfl rfl (by decide) hl.1 rfl rfl (Nat.le_of_ble_eq_true rfl) dX12_at_10 ⟨by decide, by decide⟩ (fun r_141 w1 H locs hw hP hD hS => ?_)
  obtain ⟨rfl, rfl⟩ := hw
  have hP : va_P (dC, dI) vwCl [(h0, .inr (9, [.int 0, v0, v1, v2, v3, v4, v5, v6, v7, v8, v9, v10, v11, v12, v13, v14, v15, v16, v17, v18, v19, v20, v21, v22, v23, v24, v25, v26, v27, v28, v29, v30, v31, v32, v33, v34, v35, v36, v37, v38, v39, v40, v41, v42, v43, v44]))] H := hP
  have hD : va_D A [(h0, .inr (9, [.int 0, v0, v1, v2, v3, v4, v5, v6, v7, v8, v9, v10, v11, v12, v13, v14, v15, v16, v17, v18, v19, v20, v21, v22, v23, v24, v25, v26, v27, v28, v29, v30, v31, v32, v33, v34, v35, v36, v37, v38, v39, v40, v41, v42, v43, v44]))] := hD
  refine lv_if_eq (tgt := 25) hx hb dX12_at_13 (by decide) (fun _ => ?_) (fun h9 => absurd (by decide) h9)
  refine lv_iconst (v := (-1)) hx hb dX12_at_25 (by decide) ?_
  exact zr_i hx hb hr hlocks hK znilP znilD hS (by decide) (by decide) dX12_at_26 rfl ⟨rfl, rfl⟩
set_option maxRecDepth 100000 in
set_option maxHeartbeats 4000000 in
theorem k_X11_alter_1 (l : Launch) (dC : Nat → ClassId) (dI : Nat → Nat → Nat) (cyI cyC : ClassId) (h0 : Nat) (h1 : Nat) (v0 : Value) (v1 : Value) (v2 : Value) (v3 : Value) (v4 : Value) (v5 : Value) (v6 : Value) (v7 : Value) (v8 : Value) (p0 : Int32) (p1 : Int32) : zM l (dC, dI) (zT cyI cyC) yX11_alter cX11_alter 4 (some .int) { frames := 2, cells := 0, slots := 0, locals := 128 } [.ref h0, .int p0, .int p1] [(h0, .inr (8, [.ref h1, v0, v1, v2, v3, v4, v5, v6, v7])), (h1, .inr (5, [v8, .int 0]))] (zQi (dC, dI) (zT cyI cyC) (fun r w => r = (-2) ∧ w = [])) := by
  refine zM.of (by decide +kernel) (Nat.le_of_ble_eq_true rfl) ?_
  intro p e s m below meth c hx hb hr hlocks hml hown hnm hts hK A hA H hP hD hS ls hl
  have hown : s.vm.findClass RX11 = some m.cls := hown
  have hl : lv_has ls 4 [(0, .ref h0), (1, .int p0), (2, .int p1)] := hl
  refine lv_aload_n hx hb dX11_alter_0 rfl (lv_at hl 0 rfl) ?_
  refine va_get (D := (dC, dI)) (ci := 8) (v := .ref h1) (C := RX11) (T := TX11) (N := 9) hx hb hts inlX11 hown hK hP 0 rfl rfl 0 (by decide) (hts _ mw_16) (fun _ h9 => h9) rfl dX11_alter_1 ?_
  refine lv_iload_n hx hb dX11_alter_4 rfl (lv_at hl 1 rfl) ?_
  refine zcVi (wr := [(h0, .inr (8, [.ref h1, v0, v1, v2, v3, v4, v5, v6, v7]))]) (rest := []) hx hb hml hown hts (k_X8_byteAt_1 l dC dI cyI cyC h1 (v8) p0) zo_X8_byteAt zv_X8_byteAt mw_192 ⟨by decide, by decide⟩ hK hP hD hS hA [1] [0] rfl rfl rfl rfl (by decide) rfl rfl hl.1 rfl rfl (Nat.le_of_ble_eq_true rfl) dX11_alter_5 ⟨by decide, by decide⟩ (fun r_142 w1 H locs hw hP hD hS => ?_)
  obtain ⟨rfl, rfl⟩ := hw
  have hP : va_P (dC, dI) vwCl [(h0, .inr (8, [.ref h1, v0, v1, v2, v3, v4, v5, v6, v7])), (h1, .inr (5, [v8, .int 0]))] H := hP
  have hD : va_D A [(h0, .inr (8, [.ref h1, v0, v1, v2, v3, v4, v5, v6, v7])), (h1, .inr (5, [v8, .int 0]))] := hD
  refine lv_istore_n (lv' := [(3, .int (-1)), (0, .ref h0), (1, .int p0), (2, .int p1)]) hx hb dX11_alter_8 rfl hl (by decide) rfl (fun ls hl => ?_)
  refine lv_iload_n hx hb dX11_alter_9 rfl (lv_at hl 0 rfl) ?_
  refine lv_iconst (v := (-1)) hx hb dX11_alter_10 (by decide) ?_
  refine lv_icmp_eq (tgt := 25) hx hb dX11_alter_11 (by decide) (fun _ => ?_) (fun h9 => absurd (by decide) h9)
  refine lv_bipush (v := (-2)) hx hb dX11_alter_25 (by decide) ?_
  exact zr_i hx hb hr hlocks hK znilP znilD hS (by decide) (by decide) dX11_alter_27 rfl ⟨rfl, rfl⟩
set_option maxRecDepth 100000 in
set_option maxHeartbeats 4000000 in
theorem k_X12_alter_1 (l : Launch) (dC : Nat → ClassId) (dI : Nat → Nat → Nat) (cyI cyC : ClassId) (h0 : Nat) (v0 : Value) (v1 : Value) (v2 : Value) (v3 : Value) (v4 : Value) (v5 : Value) (v6 : Value) (v7 : Value) (v8 : Value) (v9 : Value) (v10 : Value) (v11 : Value) (v12 : Value) (v13 : Value) (v14 : Value) (v15 : Value) (v16 : Value) (v17 : Value) (v18 : Value) (v19 : Value) (v20 : Value) (v21 : Value) (v22 : Value) (v23 : Value) (v24 : Value) (v25 : Value) (v26 : Value) (v27 : Value) (v28 : Value) (v29 : Value) (v30 : Value) (v31 : Value) (v32 : Value) (v33 : Value) (v34 : Value) (v35 : Value) (v36 : Value) (v37 : Value) (v38 : Value) (v39 : Value) (v40 : Value) (v41 : Value) (v42 : Value) (v43 : Value) (v44 : Value) (p0 : Int32) (p1 : Int32) : zM l (dC, dI) (zT cyI cyC) yX12_alter cX12_alter 4 (some .int) { frames := 2, cells := 0, slots := 0, locals := 128 } [.ref h0, .int p0, .int p1] [(h0, .inr (9, [.int 0, v0, v1, v2, v3, v4, v5, v6, v7, v8, v9, v10, v11, v12, v13, v14, v15, v16, v17, v18, v19, v20, v21, v22, v23, v24, v25, v26, v27, v28, v29, v30, v31, v32, v33, v34, v35, v36, v37, v38, v39, v40, v41, v42, v43, v44]))] (zQi (dC, dI) (zT cyI cyC) (fun r w => r = (-2) ∧ w = [])) := by
  refine zM.of (by decide +kernel) (Nat.le_of_ble_eq_true rfl) ?_
  intro p e s m below meth c hx hb hr hlocks hml hown hnm hts hK A hA H hP hD hS ls hl
  have hown : s.vm.findClass RX12 = some m.cls := hown
  have hl : lv_has ls 4 [(0, .ref h0), (1, .int p0), (2, .int p1)] := hl
  refine lv_iload_n hx hb dX12_alter_0 rfl (lv_at hl 1 rfl) ?_
  refine lv_i2l hx hb dX12_alter_1 rfl ?_
  refine lv_lconst (v := 0) hx hb dX12_alter_2 (by decide) ?_
  refine lv_aload_n hx hb dX12_alter_3 rfl (lv_at hl 0 rfl) ?_
  refine va_get (D := (dC, dI)) (ci := 9) (v := .int 0) (C := RX12) (T := TX12) (N := 46) hx hb hts inlX12 hown hK hP 0 rfl rfl 0 (by decide) (hts _ mw_162) (fun _ h9 => h9) rfl dX12_alter_4 ?_
  refine lv_iconst (v := 1) hx hb dX12_alter_7 (by decide) ?_
  refine lv_isub hx hb dX12_alter_8 ?_
  refine zl_i (y := (-1)) (by decide) ?_
  refine lv_i2l (v := (-1)) hx hb dX12_alter_9 (by decide) ?_
  refine zcSi (wr := [(h0, .inr (9, [.int 0, v0, v1, v2, v3, v4, v5, v6, v7, v8, v9, v10, v11, v12, v13, v14, v15, v16, v17, v18, v19, v20, v21, v22, v23, v24, v25, v26, v27, v28, v29, v30, v31, v32, v33, v34, v35, v36, v37, v38, v39, v40, v41, v42, v43, v44]))]) (rest := []) hx hb hml hown hts (k_X12_in_1 l dC dI cyI cyC p0.toInt64) zo_X12_in mw_165 mw_164 ⟨by decide, by decide⟩ hK hP hD hS hA [] [0] rfl rfl rfl rfl (by decide) hl.1 rfl rfl (Nat.le_of_ble_eq_true rfl) dX12_alter_10 ⟨by decide, by decide⟩ (fun r_143 w1 H locs hw hP hD hS => ?_)
  obtain ⟨rfl, rfl⟩ := hw
  have hP : va_P (dC, dI) vwCl [(h0, .inr (9, [.int 0, v0, v1, v2, v3, v4, v5, v6, v7, v8, v9, v10, v11, v12, v13, v14, v15, v16, v17, v18, v19, v20, v21, v22, v23, v24, v25, v26, v27, v28, v29, v30, v31, v32, v33, v34, v35, v36, v37, v38, v39, v40, v41, v42, v43, v44]))] H := hP
  have hD : va_D A [(h0, .inr (9, [.int 0, v0, v1, v2, v3, v4, v5, v6, v7, v8, v9, v10, v11, v12, v13, v14, v15, v16, v17, v18, v19, v20, v21, v22, v23, v24, v25, v26, v27, v28, v29, v30, v31, v32, v33, v34, v35, v36, v37, v38, v39, v40, v41, v42, v43, v44]))] := hD
  refine lv_if_eq (tgt := 28) hx hb dX12_alter_13 (by decide) (fun _ => ?_) (fun h9 => absurd (by decide) h9)
  refine lv_bipush (v := (-2)) hx hb dX12_alter_28 (by decide) ?_
  exact zr_i hx hb hr hlocks hK znilP znilD hS (by decide) (by decide) dX12_alter_30 rfl ⟨rfl, rfl⟩
set_option maxRecDepth 100000 in
set_option maxHeartbeats 4000000 in
theorem k_X11_fault_1 (l : Launch) (dC : Nat → ClassId) (dI : Nat → Nat → Nat) (cyI cyC : ClassId) (h0 : Nat) (v0 : Value) (v1 : Value) (v2 : Value) (v3 : Value) (v4 : Value) (v5 : Value) (v6 : Value) (v7 : Value) : zM l (dC, dI) (zT cyI cyC) yX11_fault cX11_fault 1 (some .int) { frames := 1, cells := 0, slots := 0, locals := 64 } [.ref h0] [(h0, .inr (8, [v0, v1, v2, v3, v4, v5, v6, v7, .int 0]))] (zQi (dC, dI) (zT cyI cyC) (fun r w => r = 0 ∧ w = [])) := by
  refine zM.of (by decide +kernel) (Nat.le_of_ble_eq_true rfl) ?_
  intro p e s m below meth c hx hb hr hlocks hml hown hnm hts hK A hA H hP hD hS ls hl
  have hown : s.vm.findClass RX11 = some m.cls := hown
  have hl : lv_has ls 1 [(0, .ref h0)] := hl
  refine lv_aload_n hx hb dX11_fault_0 rfl (lv_at hl 0 rfl) ?_
  refine va_get (D := (dC, dI)) (ci := 8) (v := .int 0) (C := RX11) (T := TX11) (N := 9) hx hb hts inlX11 hown hK hP 0 rfl rfl 8 (by decide) (hts _ mw_217) (fun _ h9 => h9) rfl dX11_fault_1 ?_
  exact zr_i hx hb hr hlocks hK znilP znilD hS (by decide) (by decide) dX11_fault_4 rfl ⟨rfl, rfl⟩
set_option maxRecDepth 100000 in
set_option maxHeartbeats 4000000 in
theorem k_X12_fault_1 (l : Launch) (dC : Nat → ClassId) (dI : Nat → Nat → Nat) (cyI cyC : ClassId) (h0 : Nat) (v0 : Value) (v1 : Value) (v2 : Value) (v3 : Value) (v4 : Value) (v5 : Value) (v6 : Value) (v7 : Value) (v8 : Value) (v9 : Value) (v10 : Value) (v11 : Value) (v12 : Value) (v13 : Value) (v14 : Value) (v15 : Value) (v16 : Value) (v17 : Value) (v18 : Value) (v19 : Value) (v20 : Value) (v21 : Value) (v22 : Value) (v23 : Value) (v24 : Value) (v25 : Value) (v26 : Value) (v27 : Value) (v28 : Value) (v29 : Value) (v30 : Value) (v31 : Value) (v32 : Value) (v33 : Value) (v34 : Value) (v35 : Value) (v36 : Value) (v37 : Value) (v38 : Value) (v39 : Value) (v40 : Value) (v41 : Value) (v42 : Value) (v43 : Value) (v44 : Value) : zM l (dC, dI) (zT cyI cyC) yX12_fault cX12_fault 1 (some .int) { frames := 1, cells := 0, slots := 0, locals := 64 } [.ref h0] [(h0, .inr (9, [v0, v1, v2, v3, v4, v5, v6, v7, v8, v9, v10, v11, .int 0, v12, v13, v14, v15, v16, v17, v18, v19, v20, v21, v22, v23, v24, v25, v26, v27, v28, v29, v30, v31, v32, v33, v34, v35, v36, v37, v38, v39, v40, v41, v42, v43, v44]))] (zQi (dC, dI) (zT cyI cyC) (fun r w => r = 0 ∧ w = [])) := by
  refine zM.of (by decide +kernel) (Nat.le_of_ble_eq_true rfl) ?_
  intro p e s m below meth c hx hb hr hlocks hml hown hnm hts hK A hA H hP hD hS ls hl
  have hown : s.vm.findClass RX12 = some m.cls := hown
  have hl : lv_has ls 1 [(0, .ref h0)] := hl
  refine lv_aload_n hx hb dX12_fault_0 rfl (lv_at hl 0 rfl) ?_
  refine va_get (D := (dC, dI)) (ci := 9) (v := .int 0) (C := RX12) (T := TX12) (N := 46) hx hb hts inlX12 hown hK hP 0 rfl rfl 12 (by decide) (hts _ mw_837) (fun _ h9 => h9) rfl dX12_fault_1 ?_
  exact zr_i hx hb hr hlocks hK znilP znilD hS (by decide) (by decide) dX12_fault_4 rfl ⟨rfl, rfl⟩
set_option maxRecDepth 100000 in
set_option maxHeartbeats 4000000 in
theorem k_X11_lexeme_1 (l : Launch) (dC : Nat → ClassId) (dI : Nat → Nat → Nat) (cyI cyC : ClassId) (h0 : Nat) (h1 : Nat) (v0 : Value) (v1 : Value) (v2 : Value) (v3 : Value) (v4 : Value) (v5 : Value) (v6 : Value) (v7 : Value) (v8 : Value) (v9 : Value) (v10 : Value) (v11 : Value) (v12 : Value) (v13 : Value) (v14 : Value) (v15 : Value) (v16 : Value) (v17 : Value) (v18 : Value) (v19 : Value) (v20 : Value) (p0 : Int32) (p1 : Int32) : zM l (dC, dI) (zT cyI cyC) yX11_lexeme cX11_lexeme 3 (some .int) { frames := 2, cells := 0, slots := 0, locals := 128 } [.ref h0, .int p0, .int p1] [(h0, .inr (8, [v0, .ref h1, v1, v2, v3, v4, v5, v6, v7])), (h1, .inr (1, [v8, v9, v10, v11, v12, v13, v14, .int 0, v15, v16, v17, v18, v19, v20]))] (zQi (dC, dI) (zT cyI cyC) (fun r w => r = zs_lexeme p1 ∧ w = [])) := by
  refine zM.of (by decide +kernel) (Nat.le_of_ble_eq_true rfl) ?_
  intro p e s m below meth c hx hb hr hlocks hml hown hnm hts hK A hA H hP hD hS ls hl
  have hown : s.vm.findClass RX11 = some m.cls := hown
  have hl : lv_has ls 3 [(0, .ref h0), (1, .int p0), (2, .int p1)] := hl
  refine lv_iload_n hx hb dX11_lexeme_0 rfl (lv_at hl 2 rfl) ?_
  refine lv_if_lt (tgt := 9) hx hb dX11_lexeme_1 (by decide) (fun c_1 => ?_) (fun c_1 => ?_)
  · refine lv_bipush (v := (-2)) hx hb dX11_lexeme_9 (by decide) ?_
    exact zr_i hx hb hr hlocks hK znilP znilD hS (by decide) (by decide) dX11_lexeme_11 rfl ⟨(by rw [zs_lexeme_eq, if_pos c_1]), rfl⟩
  · refine lv_iload_n hx hb dX11_lexeme_4 rfl (lv_at hl 2 rfl) ?_
    refine lv_iconst (v := 5) hx hb dX11_lexeme_5 (by decide) ?_
    refine lv_icmp_le (tgt := 12) hx hb dX11_lexeme_6 (by decide) (fun c_6 => ?_) (fun c_6 => ?_)
    · refine lv_iload_n hx hb dX11_lexeme_12 rfl (lv_at hl 1 rfl) ?_
      refine lv_if_lt (tgt := 27) hx hb dX11_lexeme_13 (by decide) (fun c_13 => ?_) (fun c_13 => ?_)
      · refine lv_iconst (v := (-1)) hx hb dX11_lexeme_27 (by decide) ?_
        exact zr_i hx hb hr hlocks hK znilP znilD hS (by decide) (by decide) dX11_lexeme_28 rfl ⟨(by rw [zs_lexeme_eq, if_neg c_1, if_pos c_6]), rfl⟩
      · refine lv_iload_n hx hb dX11_lexeme_16 rfl (lv_at hl 1 rfl) ?_
        refine lv_aload_n hx hb dX11_lexeme_17 rfl (lv_at hl 0 rfl) ?_
        refine va_get (D := (dC, dI)) (ci := 8) (v := .ref h1) (C := RX11) (T := TX11) (N := 9) hx hb hts inlX11 hown hK hP 0 rfl rfl 1 (by decide) (hts _ mw_20) (fun _ h9 => h9) rfl dX11_lexeme_18 ?_
        refine zcVi (wr := [(h0, .inr (8, [v0, .ref h1, v1, v2, v3, v4, v5, v6, v7]))]) (rest := [.int p0]) hx hb hml hown hts (k_X3_size_1 l dC dI cyI cyC h1 (v8) (v9) (v10) (v11) (v12) (v13) (v14) (v15) (v16) (v17) (v18) (v19) (v20)) zo_X3_size zv_X3_size mw_1034 ⟨by decide, by decide⟩ hK hP hD hS hA [1] [0] rfl rfl rfl rfl (by decide) rfl rfl hl.1 rfl rfl (Nat.le_of_ble_eq_true rfl) dX11_lexeme_21 ⟨by decide, by decide⟩ (fun r_144 w1 H locs hw hP hD hS => ?_)
        obtain ⟨rfl, rfl⟩ := hw
        have hP : va_P (dC, dI) vwCl [(h0, .inr (8, [v0, .ref h1, v1, v2, v3, v4, v5, v6, v7])), (h1, .inr (1, [v8, v9, v10, v11, v12, v13, v14, .int 0, v15, v16, v17, v18, v19, v20]))] H := hP
        have hD : va_D A [(h0, .inr (8, [v0, .ref h1, v1, v2, v3, v4, v5, v6, v7])), (h1, .inr (1, [v8, v9, v10, v11, v12, v13, v14, .int 0, v15, v16, v17, v18, v19, v20]))] := hD
        refine lv_icmp_lt (tgt := 29) hx hb dX11_lexeme_24 (by decide) (fun h9 => absurd h9 c_13) (fun _ => ?_)
        refine lv_iconst (v := (-1)) hx hb dX11_lexeme_27 (by decide) ?_
        exact zr_i hx hb hr hlocks hK znilP znilD hS (by decide) (by decide) dX11_lexeme_28 rfl ⟨(by rw [zs_lexeme_eq, if_neg c_1, if_pos c_6]), rfl⟩
    · refine lv_bipush (v := (-2)) hx hb dX11_lexeme_9 (by decide) ?_
      exact zr_i hx hb hr hlocks hK znilP znilD hS (by decide) (by decide) dX11_lexeme_11 rfl ⟨(by rw [zs_lexeme_eq, if_neg c_1, if_neg c_6]), rfl⟩
set_option maxRecDepth 100000 in
set_option maxHeartbeats 4000000 in
theorem k_X12_in_2 (l : Launch) (dC : Nat → ClassId) (dI : Nat → Nat → Nat) (cyI cyC : ClassId) (p0 : Int64) : zM l (dC, dI) (zT cyI cyC) yX12_in cX12_in 6 (some .boolean) { frames := 1, cells := 0, slots := 0, locals := 64 } [.long p0, .long 0, .long 5] [] (zQi (dC, dI) (zT cyI cyC) (fun r w => r = zs_in p0 0 5 ∧ w = [])) := by
  refine zM.of (by decide +kernel) (Nat.le_of_ble_eq_true rfl) ?_
  intro p e s m below meth c hx hb hr hlocks hml hown hnm hts hK A hA H hP hD hS ls hl
  have hown : s.vm.findClass RX12 = some m.cls := hown
  have hl : lv_has ls 6 [(0, .long p0), (2, .long 0), (4, .long 5)] := hl
  refine lv_lload_n hx hb dX12_in_0 rfl (lv_at hl 0 rfl) ?_
  refine lv_lload_n hx hb dX12_in_1 rfl (lv_at hl 1 rfl) ?_
  refine W.lcmp hx hb dX12_in_2 ?_
  refine lv_if_lt (tgt := 17) hx hb dX12_in_3 (by decide) (fun c_3 => ?_) (fun c_3 => ?_)
  · refine lv_iconst (v := 0) hx hb dX12_in_17 (by decide) ?_
    exact zr_i hx hb hr hlocks hK hP hD hS (by decide) (by decide) dX12_in_18 rfl ⟨zin_1 c_3, rfl⟩
  · refine lv_lload_n hx hb dX12_in_6 rfl (lv_at hl 0 rfl) ?_
    refine lv_lload hx hb dX12_in_7 (lv_at hl 2 rfl) ?_
    refine W.lcmp hx hb dX12_in_9 ?_
    refine lv_if_gt (tgt := 17) hx hb dX12_in_10 (by decide) (fun c_10 => ?_) (fun c_10 => ?_)
    · refine lv_iconst (v := 0) hx hb dX12_in_17 (by decide) ?_
      exact zr_i hx hb hr hlocks hK hP hD hS (by decide) (by decide) dX12_in_18 rfl ⟨zin_2 c_3 c_10, rfl⟩
    · refine lv_iconst (v := 1) hx hb dX12_in_13 (by decide) ?_
      refine lv_goto (tgt := 18) hx hb dX12_in_14 (by decide) ?_
      exact zr_i hx hb hr hlocks hK hP hD hS (by decide) (by decide) dX12_in_18 rfl ⟨zin_3 c_3 c_10, rfl⟩
set_option maxRecDepth 100000 in
set_option maxHeartbeats 4000000 in
theorem k_X12_lexeme_1 (l : Launch) (dC : Nat → ClassId) (dI : Nat → Nat → Nat) (cyI cyC : ClassId) (h0 : Nat) (v0 : Value) (v1 : Value) (v2 : Value) (v3 : Value) (v4 : Value) (v5 : Value) (v6 : Value) (v7 : Value) (v8 : Value) (v9 : Value) (v10 : Value) (v11 : Value) (v12 : Value) (v13 : Value) (v14 : Value) (v15 : Value) (v16 : Value) (v17 : Value) (v18 : Value) (v19 : Value) (v20 : Value) (v21 : Value) (v22 : Value) (v23 : Value) (v24 : Value) (v25 : Value) (v26 : Value) (v27 : Value) (v28 : Value) (v29 : Value) (v30 : Value) (v31 : Value) (v32 : Value) (v33 : Value) (v34 : Value) (v35 : Value) (v36 : Value) (v37 : Value) (v38 : Value) (v39 : Value) (v40 : Value) (v41 : Value) (v42 : Value) (v43 : Value) (v44 : Value) (p0 : Int32) (p1 : Int32) : zM l (dC, dI) (zT cyI cyC) yX12_lexeme cX12_lexeme 3 (some .int) { frames := 2, cells := 0, slots := 0, locals := 128 } [.ref h0, .int p0, .int p1] [(h0, .inr (9, [v0, v1, .int 0, v2, v3, v4, v5, v6, v7, v8, v9, v10, v11, v12, v13, v14, v15, v16, v17, v18, v19, v20, v21, v22, v23, v24, v25, v26, v27, v28, v29, v30, v31, v32, v33, v34, v35, v36, v37, v38, v39, v40, v41, v42, v43, v44]))] (zQi (dC, dI) (zT cyI cyC) (fun r w => r = zs_lexeme p1 ∧ w = [])) := by
  refine zM.of (by decide +kernel) (Nat.le_of_ble_eq_true rfl) ?_
  intro p e s m below meth c hx hb hr hlocks hml hown hnm hts hK A hA H hP hD hS ls hl
  have hown : s.vm.findClass RX12 = some m.cls := hown
  have hl : lv_has ls 3 [(0, .ref h0), (1, .int p0), (2, .int p1)] := hl
  refine lv_iload_n hx hb dX12_lexeme_0 rfl (lv_at hl 2 rfl) ?_
  refine lv_i2l hx hb dX12_lexeme_1 rfl ?_
  refine lv_lconst (v := 0) hx hb dX12_lexeme_2 (by decide) ?_
  refine lv_ldc2 (v := 5) hx hb hown (hts _ mw_1054) dX12_lexeme_3 ?_
  refine zcSi (wr := [(h0, .inr (9, [v0, v1, .int 0, v2, v3, v4, v5, v6, v7, v8, v9, v10, v11, v12, v13, v14, v15, v16, v17, v18, v19, v20, v21, v22, v23, v24, v25, v26, v27, v28, v29, v30, v31, v32, v33, v34, v35, v36, v37, v38, v39, v40, v41, v42, v43, v44]))]) (rest := []) hx hb hml hown hts (k_X12_in_2 l dC dI cyI cyC p1.toInt64) zo_X12_in mw_165 mw_164 ⟨by decide, by decide⟩ hK hP hD hS hA [] [0] rfl rfl rfl rfl (by decide) hl.1 rfl rfl (Nat.le_of_ble_eq_true rfl) dX12_lexeme_6 ⟨by decide, by decide⟩ (fun r_145 w1 H locs hw hP hD hS => ?_)
  obtain ⟨er_145, rfl⟩ := hw
  have hP : va_P (dC, dI) vwCl [(h0, .inr (9, [v0, v1, .int 0, v2, v3, v4, v5, v6, v7, v8, v9, v10, v11, v12, v13, v14, v15, v16, v17, v18, v19, v20, v21, v22, v23, v24, v25, v26, v27, v28, v29, v30, v31, v32, v33, v34, v35, v36, v37, v38, v39, v40, v41, v42, v43, v44]))] H := hP
  have hD : va_D A [(h0, .inr (9, [v0, v1, .int 0, v2, v3, v4, v5, v6, v7, v8, v9, v10, v11, v12, v13, v14, v15, v16, v17, v18, v19, v20, v21, v22, v23, v24, v25, v26, v27, v28, v29, v30, v31, v32, v33, v34, v35, v36, v37, v38, v39, v40, v41, v42, v43, v44]))] := hD
  refine lv_if_ne (tgt := 15) hx hb dX12_lexeme_9 (by decide) (fun c_9 => ?_) (fun c_9 => ?_)
  · refine lv_iload_n hx hb dX12_lexeme_15 rfl (lv_at hl 1 rfl) ?_
    refine lv_i2l hx hb dX12_lexeme_16 rfl ?_
    refine lv_lconst (v := 0) hx hb dX12_lexeme_17 (by decide) ?_
    refine lv_aload_n hx hb dX12_lexeme_18 rfl (lv_at hl 0 rfl) ?_
    refine va_get (D := (dC, dI)) (ci := 9) (v := .int 0) (C := RX12) (T := TX12) (N := 46) hx hb hts inlX12 hown hK hP 0 rfl rfl 2 (by decide) (hts _ mw_845) (fun _ h9 => h9) rfl dX12_lexeme_19 ?_
    refine lv_iconst (v := 1) hx hb dX12_lexeme_22 (by decide) ?_
    refine lv_isub hx hb dX12_lexeme_23 ?_
    refine zl_i (y := (-1)) (by decide) ?_
    refine lv_i2l (v := (-1)) hx hb dX12_lexeme_24 (by decide) ?_
    refine zcSi (wr := [(h0, .inr (9, [v0, v1, .int 0, v2, v3, v4, v5, v6, v7, v8, v9, v10, v11, v12, v13, v14, v15, v16, v17, v18, v19, v20, v21, v22, v23, v24, v25, v26, v27, v28, v29, v30, v31, v32, v33, v34, v35, v36, v37, v38, v39, v40, v41, v42, v43, v44]))]) (rest := []) hx hb hml hown hts (k_X12_in_1 l dC dI cyI cyC p0.toInt64) zo_X12_in mw_165 mw_164 ⟨by decide, by decide⟩ hK hP hD hS hA [] [0] rfl rfl rfl rfl (by decide) hl.1 rfl rfl (Nat.le_of_ble_eq_true rfl) dX12_lexeme_25 ⟨by decide, by decide⟩ (fun r_146 w1 H locs hw hP hD hS => ?_)
    obtain ⟨rfl, rfl⟩ := hw
    have hP : va_P (dC, dI) vwCl [(h0, .inr (9, [v0, v1, .int 0, v2, v3, v4, v5, v6, v7, v8, v9, v10, v11, v12, v13, v14, v15, v16, v17, v18, v19, v20, v21, v22, v23, v24, v25, v26, v27, v28, v29, v30, v31, v32, v33, v34, v35, v36, v37, v38, v39, v40, v41, v42, v43, v44]))] H := hP
    have hD : va_D A [(h0, .inr (9, [v0, v1, .int 0, v2, v3, v4, v5, v6, v7, v8, v9, v10, v11, v12, v13, v14, v15, v16, v17, v18, v19, v20, v21, v22, v23, v24, v25, v26, v27, v28, v29, v30, v31, v32, v33, v34, v35, v36, v37, v38, v39, v40, v41, v42, v43, v44]))] := hD
    refine lv_if_ne (tgt := 33) hx hb dX12_lexeme_28 (by decide) (fun h9 => absurd (by decide) h9) (fun _ => ?_)
    refine lv_iconst (v := (-1)) hx hb dX12_lexeme_31 (by decide) ?_
    exact zr_i hx hb hr hlocks hK znilP znilD hS (by decide) (by decide) dX12_lexeme_32 rfl ⟨(by rw [zs_lexeme, ← er_145, if_neg c_9]), rfl⟩
  · refine lv_bipush (v := (-2)) hx hb dX12_lexeme_12 (by decide) ?_
    exact zr_i hx hb hr hlocks hK znilP znilD hS (by decide) (by decide) dX12_lexeme_14 rfl ⟨(by rw [zs_lexeme, ← er_145, if_pos c_9]), rfl⟩
set_option maxRecDepth 100000 in
set_option maxHeartbeats 4000000 in
theorem k_X1_tokenAt_1 (l : Launch) (dC : Nat → ClassId) (dI : Nat → Nat → Nat) (cyI cyC : ClassId) (h0 : Nat) (v0 : Value) (v1 : Value) (v2 : Value) (v3 : Value) (v4 : Value) (v5 : Value) (v6 : Value) (v7 : Value) (p0 : Int32) : zM l (dC, dI) (zT cyI cyC) yX1_tokenAt cX1_tokenAt 2 (some .int) { frames := 1, cells := 0, slots := 0, locals := 64 } [.ref h0, .int p0] [(h0, .inr (0, [v0, v1, v2, .int 0, v3, v4, v5, v6, v7]))] (zQi (dC, dI) (zT cyI cyC) (fun r w => r = (-1) ∧ w = [(h0, .inr (0, [v0, v1, v2, .int 0, v3, v4, v5, v6, v7]))])) := by
  refine zM.of (by decide +kernel) (Nat.le_of_ble_eq_true rfl) ?_
  intro p e s m below meth c hx hb hr hlocks hml hown hnm hts hK A hA H hP hD hS ls hl
  have hown : s.vm.findClass RX1 = some m.cls := hown
  have hl : lv_has ls 2 [(0, .ref h0), (1, .int p0)] := hl
  refine lv_iload_n hx hb dX1_tokenAt_0 rfl (lv_at hl 1 rfl) ?_
  refine lv_if_lt (tgt := 21) hx hb dX1_tokenAt_1 (by decide) (fun c_1 => ?_) (fun c_1 => ?_)
  · refine lv_iconst (v := (-1)) hx hb dX1_tokenAt_21 (by decide) ?_
    exact zr_i hx hb hr hlocks hK hP hD hS (by decide) (by decide) dX1_tokenAt_22 rfl ⟨rfl, rfl⟩
  · refine lv_iload_n hx hb dX1_tokenAt_4 rfl (lv_at hl 1 rfl) ?_
    refine lv_aload_n hx hb dX1_tokenAt_5 rfl (lv_at hl 0 rfl) ?_
    refine va_get (D := (dC, dI)) (ci := 0) (v := .int 0) (C := RX1) (T := TX1) (N := 9) hx hb hts inlX1 hown hK hP 0 rfl rfl 3 (by decide) (hts _ mw_222) (fun _ h9 => h9) rfl dX1_tokenAt_6 ?_
    refine lv_icmp_ge (tgt := 21) hx hb dX1_tokenAt_9 (by decide) (fun _ => ?_) (fun h9 => absurd (Int32.not_lt.mp c_1) h9)
    refine lv_iconst (v := (-1)) hx hb dX1_tokenAt_21 (by decide) ?_
    exact zr_i hx hb hr hlocks hK hP hD hS (by decide) (by decide) dX1_tokenAt_22 rfl ⟨rfl, rfl⟩
set_option maxRecDepth 100000 in
set_option maxHeartbeats 4000000 in
theorem k_X11_token_1 (l : Launch) (dC : Nat → ClassId) (dI : Nat → Nat → Nat) (cyI cyC : ClassId) (h0 : Nat) (h1 : Nat) (v0 : Value) (v1 : Value) (v2 : Value) (v3 : Value) (v4 : Value) (v5 : Value) (v6 : Value) (v7 : Value) (v8 : Value) (v9 : Value) (v10 : Value) (v11 : Value) (v12 : Value) (v13 : Value) (v14 : Value) (v15 : Value) (p0 : Int32) : zM l (dC, dI) (zT cyI cyC) yX11_token cX11_token 2 (some .int) { frames := 2, cells := 0, slots := 0, locals := 128 } [.ref h0, .int p0] [(h0, .inr (8, [v0, v1, .ref h1, v2, v3, v4, v5, v6, v7])), (h1, .inr (0, [v8, v9, v10, .int 0, v11, v12, v13, v14, v15]))] (zQi (dC, dI) (zT cyI cyC) (fun r w => r = (-1) ∧ w = [])) := by
  refine zM.of (by decide +kernel) (Nat.le_of_ble_eq_true rfl) ?_
  intro p e s m below meth c hx hb hr hlocks hml hown hnm hts hK A hA H hP hD hS ls hl
  have hown : s.vm.findClass RX11 = some m.cls := hown
  have hl : lv_has ls 2 [(0, .ref h0), (1, .int p0)] := hl
  refine lv_aload_n hx hb dX11_token_0 rfl (lv_at hl 0 rfl) ?_
  refine va_get (D := (dC, dI)) (ci := 8) (v := .ref h1) (C := RX11) (T := TX11) (N := 9) hx hb hts inlX11 hown hK hP 0 rfl rfl 2 (by decide) (hts _ mw_24) (fun _ h9 => h9) rfl dX11_token_1 ?_
  refine lv_iload_n hx hb dX11_token_4 rfl (lv_at hl 1 rfl) ?_
  refine zcVi (wr := [(h0, .inr (8, [v0, v1, .ref h1, v2, v3, v4, v5, v6, v7]))]) (rest := []) hx hb hml hown hts (k_X1_tokenAt_1 l dC dI cyI cyC h1 (v8) (v9) (v10) (v11) (v12) (v13) (v14) (v15) p0) zo_X1_tokenAt zv_X1_tokenAt mw_1059 ⟨by decide, by decide⟩ hK hP hD hS hA [1] [0] rfl rfl rfl rfl (by decide) rfl rfl hl.1 rfl rfl (Nat.le_of_ble_eq_true rfl) dX11_token_5 ⟨by decide, by decide⟩ (fun r_147 w1 H locs hw hP hD hS => ?_)
  obtain ⟨rfl, rfl⟩ := hw
  have hP : va_P (dC, dI) vwCl [(h0, .inr (8, [v0, v1, .ref h1, v2, v3, v4, v5, v6, v7])), (h1, .inr (0, [v8, v9, v10, .int 0, v11, v12, v13, v14, v15]))] H := hP
  have hD : va_D A [(h0, .inr (8, [v0, v1, .ref h1, v2, v3, v4, v5, v6, v7])), (h1, .inr (0, [v8, v9, v10, .int 0, v11, v12, v13, v14, v15]))] := hD
  exact zr_i hx hb hr hlocks hK znilP znilD hS (by decide) (by decide) dX11_token_8 rfl ⟨rfl, rfl⟩
set_option maxRecDepth 100000 in
set_option maxHeartbeats 4000000 in
theorem k_X12_token_1 (l : Launch) (dC : Nat → ClassId) (dI : Nat → Nat → Nat) (cyI cyC : ClassId) (h0 : Nat) (v0 : Value) (v1 : Value) (v2 : Value) (v3 : Value) (v4 : Value) (v5 : Value) (v6 : Value) (v7 : Value) (v8 : Value) (v9 : Value) (v10 : Value) (v11 : Value) (v12 : Value) (v13 : Value) (v14 : Value) (v15 : Value) (v16 : Value) (v17 : Value) (v18 : Value) (v19 : Value) (v20 : Value) (v21 : Value) (v22 : Value) (v23 : Value) (v24 : Value) (v25 : Value) (v26 : Value) (v27 : Value) (v28 : Value) (v29 : Value) (v30 : Value) (v31 : Value) (v32 : Value) (v33 : Value) (v34 : Value) (v35 : Value) (v36 : Value) (v37 : Value) (v38 : Value) (v39 : Value) (v40 : Value) (v41 : Value) (v42 : Value) (v43 : Value) (v44 : Value) (p0 : Int32) : zM l (dC, dI) (zT cyI cyC) yX12_token cX12_token 2 (some .int) { frames := 2, cells := 0, slots := 0, locals := 128 } [.ref h0, .int p0] [(h0, .inr (9, [v0, v1, v2, v3, v4, v5, v6, v7, v8, v9, v10, v11, v12, v13, v14, v15, v16, v17, v18, v19, v20, v21, v22, v23, v24, .int 0, v25, v26, v27, v28, v29, v30, v31, v32, v33, v34, v35, v36, v37, v38, v39, v40, v41, v42, v43, v44]))] (zQi (dC, dI) (zT cyI cyC) (fun r w => r = (-1) ∧ w = [])) := by
  refine zM.of (by decide +kernel) (Nat.le_of_ble_eq_true rfl) ?_
  intro p e s m below meth c hx hb hr hlocks hml hown hnm hts hK A hA H hP hD hS ls hl
  have hown : s.vm.findClass RX12 = some m.cls := hown
  have hl : lv_has ls 2 [(0, .ref h0), (1, .int p0)] := hl
  refine lv_iload_n hx hb dX12_token_0 rfl (lv_at hl 1 rfl) ?_
  refine lv_i2l hx hb dX12_token_1 rfl ?_
  refine lv_lconst (v := 0) hx hb dX12_token_2 (by decide) ?_
  refine lv_aload_n hx hb dX12_token_3 rfl (lv_at hl 0 rfl) ?_
  refine va_get (D := (dC, dI)) (ci := 9) (v := .int 0) (C := RX12) (T := TX12) (N := 46) hx hb hts inlX12 hown hK hP 0 rfl rfl 25 (by decide) (hts _ mw_838) (fun _ h9 => h9) rfl dX12_token_4 ?_
  refine lv_iconst (v := 1) hx hb dX12_token_7 (by decide) ?_
  refine lv_isub hx hb dX12_token_8 ?_
  refine zl_i (y := (-1)) (by decide) ?_
  refine lv_i2l (v := (-1)) hx hb dX12_token_9 (by decide) ?_
  refine zcSi (wr := [(h0, .inr (9, [v0, v1, v2, v3, v4, v5, v6, v7, v8, v9, v10, v11, v12, v13, v14, v15, v16, v17, v18, v19, v20, v21, v22, v23, v24, .int 0, v25, v26, v27, v28, v29, v30, v31, v32, v33, v34, v35, v36, v37, v38, v39, v40, v41, v42, v43, v44]))]) (rest := []) hx hb hml hown hts (k_X12_in_1 l dC dI cyI cyC p0.toInt64) zo_X12_in mw_165 mw_164 ⟨by decide, by decide⟩ hK hP hD hS hA [] [0] rfl rfl rfl rfl (by decide) hl.1 rfl rfl (Nat.le_of_ble_eq_true rfl) dX12_token_10 ⟨by decide, by decide⟩ (fun r_148 w1 H locs hw hP hD hS => ?_)
  obtain ⟨rfl, rfl⟩ := hw
  have hP : va_P (dC, dI) vwCl [(h0, .inr (9, [v0, v1, v2, v3, v4, v5, v6, v7, v8, v9, v10, v11, v12, v13, v14, v15, v16, v17, v18, v19, v20, v21, v22, v23, v24, .int 0, v25, v26, v27, v28, v29, v30, v31, v32, v33, v34, v35, v36, v37, v38, v39, v40, v41, v42, v43, v44]))] H := hP
  have hD : va_D A [(h0, .inr (9, [v0, v1, v2, v3, v4, v5, v6, v7, v8, v9, v10, v11, v12, v13, v14, v15, v16, v17, v18, v19, v20, v21, v22, v23, v24, .int 0, v25, v26, v27, v28, v29, v30, v31, v32, v33, v34, v35, v36, v37, v38, v39, v40, v41, v42, v43, v44]))] := hD
  refine lv_if_eq (tgt := 25) hx hb dX12_token_13 (by decide) (fun _ => ?_) (fun h9 => absurd (by decide) h9)
  refine lv_iconst (v := (-1)) hx hb dX12_token_25 (by decide) ?_
  exact zr_i hx hb hr hlocks hK znilP znilD hS (by decide) (by decide) dX12_token_26 rfl ⟨rfl, rfl⟩
set_option maxRecDepth 100000 in
set_option maxHeartbeats 4000000 in
theorem k_X9_size_2 (l : Launch) (dC : Nat → ClassId) (dI : Nat → Nat → Nat) (cyI cyC : ClassId) (h0 : Nat) (v0 : Value) (v1 : Value) (v2 : Value) (v3 : Value) (v4 : Value) (v5 : Value) : zM l (dC, dI) (zT cyI cyC) yX9_size cX9_size 1 (some .int) { frames := 1, cells := 0, slots := 0, locals := 64 } [.ref h0] [(h0, .inr (6, [v0, v1, v2, v3, v4, v5, .int 0]))] (zQi (dC, dI) (zT cyI cyC) (fun r w => r = 0 ∧ w = [(h0, .inr (6, [v0, v1, v2, v3, v4, v5, .int 0]))])) := by
  refine zM.of (by decide +kernel) (Nat.le_of_ble_eq_true rfl) ?_
  intro p e s m below meth c hx hb hr hlocks hml hown hnm hts hK A hA H hP hD hS ls hl
  have hown : s.vm.findClass RX9 = some m.cls := hown
  have hl : lv_has ls 1 [(0, .ref h0)] := hl
  refine lv_aload_n hx hb dX9_size_0 rfl (lv_at hl 0 rfl) ?_
  refine va_get (D := (dC, dI)) (ci := 6) (v := .int 0) (C := RX9) (T := TX9) (N := 7) hx hb hts inlX9 hown hK hP 0 rfl rfl 6 (by decide) (hts _ mw_451) (fun _ h9 => h9) rfl dX9_size_1 ?_
  exact zr_i hx hb hr hlocks hK hP hD hS (by decide) (by decide) dX9_size_4 rfl ⟨rfl, rfl⟩
set_option maxRecDepth 100000 in
set_option maxHeartbeats 4000000 in
theorem k_X11_count_1 (l : Launch) (dC : Nat → ClassId) (dI : Nat → Nat → Nat) (cyI cyC : ClassId) (h0 : Nat) (h1 : Nat) (h2 : Nat) (h3 : Nat) (h4 : Nat) (v0 : Value) (v1 : Value) (v2 : Value) (v3 : Value) (v4 : Value) (v5 : Value) (v6 : Value) (v7 : Value) (v8 : Value) (v9 : Value) (v10 : Value) (v11 : Value) (v12 : Value) (v13 : Value) (v14 : Value) (v15 : Value) (v16 : Value) (v17 : Value) (v18 : Value) (v19 : Value) (v20 : Value) (v21 : Value) (v22 : Value) (v23 : Value) (v24 : Value) (v25 : Value) (v26 : Value) (v27 : Value) (v28 : Value) (v29 : Value) (v30 : Value) (v31 : Value) (p0 : Int32) : zM l (dC, dI) (zT cyI cyC) yX11_count cX11_count 2 (some .int) { frames := 2, cells := 0, slots := 0, locals := 128 } [.ref h0, .int p0] [(h0, .inr (8, [.ref h1, .ref h2, .ref h3, v0, v1, .ref h4, v2, .int 0, v3])), (h1, .inr (5, [v4, .int 0])), (h2, .inr (1, [v5, v6, v7, v8, v9, v10, v11, .int 0, v12, v13, v14, v15, v16, v17])), (h3, .inr (0, [v18, v19, v20, .int 0, v21, v22, v23, v24, v25])), (h4, .inr (6, [v26, v27, v28, v29, v30, v31, .int 0]))] (zQi (dC, dI) (zT cyI cyC) (fun r w => r = zs_count p0 ∧ w = [])) := by
  refine zM.of (by decide +kernel) (Nat.le_of_ble_eq_true rfl) ?_
  intro p e s m below meth c hx hb hr hlocks hml hown hnm hts hK A hA H hP hD hS ls hl
  have hown : s.vm.findClass RX11 = some m.cls := hown
  have hl : lv_has ls 2 [(0, .ref h0), (1, .int p0)] := hl
  refine lv_iload_n hx hb dX11_count_0 rfl (lv_at hl 1 rfl) ?_
  rcases zsw4 p0 with h_1 | h_1 | h_1 | h_1 | h_1 | h_1
  · subst h_1
    refine lv_tableIn (off := 35) (tgt := 36) hx hb dX11_count_1 (by decide) (by decide) rfl (by decide) ?_
    refine lv_aload_n hx hb dX11_count_36 rfl (lv_at hl 0 rfl) ?_
    refine va_get (D := (dC, dI)) (ci := 8) (v := .ref h1) (C := RX11) (T := TX11) (N := 9) hx hb hts inlX11 hown hK hP 0 rfl rfl 0 (by decide) (hts _ mw_16) (fun _ h9 => h9) rfl dX11_count_37 ?_
    refine zcVi (wr := [(h0, .inr (8, [.ref h1, .ref h2, .ref h3, v0, v1, .ref h4, v2, .int 0, v3])), (h2, .inr (1, [v5, v6, v7, v8, v9, v10, v11, .int 0, v12, v13, v14, v15, v16, v17])), (h3, .inr (0, [v18, v19, v20, .int 0, v21, v22, v23, v24, v25])), (h4, .inr (6, [v26, v27, v28, v29, v30, v31, .int 0]))]) (rest := []) hx hb hml hown hts (k_X8_length_1 l dC dI cyI cyC h1 (v4)) zo_X8_length zv_X8_length mw_153 ⟨by decide, by decide⟩ hK hP hD hS hA [1] [0, 2, 3, 4] rfl rfl rfl rfl (by decide) rfl rfl hl.1 rfl rfl (Nat.le_of_ble_eq_true rfl) dX11_count_40 ⟨by decide, by decide⟩ (fun r_149 w1 H locs hw hP hD hS => ?_)
    obtain ⟨rfl, rfl⟩ := hw
    have hP : va_P (dC, dI) vwCl [(h0, .inr (8, [.ref h1, .ref h2, .ref h3, v0, v1, .ref h4, v2, .int 0, v3])), (h2, .inr (1, [v5, v6, v7, v8, v9, v10, v11, .int 0, v12, v13, v14, v15, v16, v17])), (h3, .inr (0, [v18, v19, v20, .int 0, v21, v22, v23, v24, v25])), (h4, .inr (6, [v26, v27, v28, v29, v30, v31, .int 0])), (h1, .inr (5, [v4, .int 0]))] H := hP
    have hD : va_D A [(h0, .inr (8, [.ref h1, .ref h2, .ref h3, v0, v1, .ref h4, v2, .int 0, v3])), (h2, .inr (1, [v5, v6, v7, v8, v9, v10, v11, .int 0, v12, v13, v14, v15, v16, v17])), (h3, .inr (0, [v18, v19, v20, .int 0, v21, v22, v23, v24, v25])), (h4, .inr (6, [v26, v27, v28, v29, v30, v31, .int 0])), (h1, .inr (5, [v4, .int 0]))] := hD
    exact zr_i hx hb hr hlocks hK znilP znilD hS (by decide) (by decide) dX11_count_43 rfl ⟨(by decide), rfl⟩
  · subst h_1
    refine lv_tableIn (off := 43) (tgt := 44) hx hb dX11_count_1 (by decide) (by decide) rfl (by decide) ?_
    refine lv_aload_n hx hb dX11_count_44 rfl (lv_at hl 0 rfl) ?_
    refine va_get (D := (dC, dI)) (ci := 8) (v := .ref h2) (C := RX11) (T := TX11) (N := 9) hx hb hts inlX11 hown hK hP 0 rfl rfl 1 (by decide) (hts _ mw_20) (fun _ h9 => h9) rfl dX11_count_45 ?_
    refine zcVi (wr := [(h0, .inr (8, [.ref h1, .ref h2, .ref h3, v0, v1, .ref h4, v2, .int 0, v3])), (h1, .inr (5, [v4, .int 0])), (h3, .inr (0, [v18, v19, v20, .int 0, v21, v22, v23, v24, v25])), (h4, .inr (6, [v26, v27, v28, v29, v30, v31, .int 0]))]) (rest := []) hx hb hml hown hts (k_X3_size_1 l dC dI cyI cyC h2 (v5) (v6) (v7) (v8) (v9) (v10) (v11) (v12) (v13) (v14) (v15) (v16) (v17)) zo_X3_size zv_X3_size mw_1034 ⟨by decide, by decide⟩ hK hP hD hS hA [2] [0, 1, 3, 4] rfl rfl rfl rfl (by decide) rfl rfl hl.1 rfl rfl (Nat.le_of_ble_eq_true rfl) dX11_count_48 ⟨by decide, by decide⟩ (fun r_150 w1 H locs hw hP hD hS => ?_)
    obtain ⟨rfl, rfl⟩ := hw
    have hP : va_P (dC, dI) vwCl [(h0, .inr (8, [.ref h1, .ref h2, .ref h3, v0, v1, .ref h4, v2, .int 0, v3])), (h1, .inr (5, [v4, .int 0])), (h3, .inr (0, [v18, v19, v20, .int 0, v21, v22, v23, v24, v25])), (h4, .inr (6, [v26, v27, v28, v29, v30, v31, .int 0])), (h2, .inr (1, [v5, v6, v7, v8, v9, v10, v11, .int 0, v12, v13, v14, v15, v16, v17]))] H := hP
    have hD : va_D A [(h0, .inr (8, [.ref h1, .ref h2, .ref h3, v0, v1, .ref h4, v2, .int 0, v3])), (h1, .inr (5, [v4, .int 0])), (h3, .inr (0, [v18, v19, v20, .int 0, v21, v22, v23, v24, v25])), (h4, .inr (6, [v26, v27, v28, v29, v30, v31, .int 0])), (h2, .inr (1, [v5, v6, v7, v8, v9, v10, v11, .int 0, v12, v13, v14, v15, v16, v17]))] := hD
    exact zr_i hx hb hr hlocks hK znilP znilD hS (by decide) (by decide) dX11_count_51 rfl ⟨(by decide), rfl⟩
  · subst h_1
    refine lv_tableIn (off := 51) (tgt := 52) hx hb dX11_count_1 (by decide) (by decide) rfl (by decide) ?_
    refine lv_aload_n hx hb dX11_count_52 rfl (lv_at hl 0 rfl) ?_
    refine va_get (D := (dC, dI)) (ci := 8) (v := .ref h3) (C := RX11) (T := TX11) (N := 9) hx hb hts inlX11 hown hK hP 0 rfl rfl 2 (by decide) (hts _ mw_24) (fun _ h9 => h9) rfl dX11_count_53 ?_
    refine zcVi (wr := [(h0, .inr (8, [.ref h1, .ref h2, .ref h3, v0, v1, .ref h4, v2, .int 0, v3])), (h1, .inr (5, [v4, .int 0])), (h2, .inr (1, [v5, v6, v7, v8, v9, v10, v11, .int 0, v12, v13, v14, v15, v16, v17])), (h4, .inr (6, [v26, v27, v28, v29, v30, v31, .int 0]))]) (rest := []) hx hb hml hown hts (k_X1_size_1 l dC dI cyI cyC h3 (v18) (v19) (v20) (v21) (v22) (v23) (v24) (v25)) zo_X1_size zv_X1_size mw_1071 ⟨by decide, by decide⟩ hK hP hD hS hA [3] [0, 1, 2, 4] rfl rfl rfl rfl (by decide) rfl rfl hl.1 rfl rfl (Nat.le_of_ble_eq_true rfl) dX11_count_56 ⟨by decide, by decide⟩ (fun r_151 w1 H locs hw hP hD hS => ?_)
    obtain ⟨rfl, rfl⟩ := hw
    have hP : va_P (dC, dI) vwCl [(h0, .inr (8, [.ref h1, .ref h2, .ref h3, v0, v1, .ref h4, v2, .int 0, v3])), (h1, .inr (5, [v4, .int 0])), (h2, .inr (1, [v5, v6, v7, v8, v9, v10, v11, .int 0, v12, v13, v14, v15, v16, v17])), (h4, .inr (6, [v26, v27, v28, v29, v30, v31, .int 0])), (h3, .inr (0, [v18, v19, v20, .int 0, v21, v22, v23, v24, v25]))] H := hP
    have hD : va_D A [(h0, .inr (8, [.ref h1, .ref h2, .ref h3, v0, v1, .ref h4, v2, .int 0, v3])), (h1, .inr (5, [v4, .int 0])), (h2, .inr (1, [v5, v6, v7, v8, v9, v10, v11, .int 0, v12, v13, v14, v15, v16, v17])), (h4, .inr (6, [v26, v27, v28, v29, v30, v31, .int 0])), (h3, .inr (0, [v18, v19, v20, .int 0, v21, v22, v23, v24, v25]))] := hD
    exact zr_i hx hb hr hlocks hK znilP znilD hS (by decide) (by decide) dX11_count_59 rfl ⟨(by decide), rfl⟩
  · subst h_1
    refine lv_tableIn (off := 59) (tgt := 60) hx hb dX11_count_1 (by decide) (by decide) rfl (by decide) ?_
    refine lv_aload_n hx hb dX11_count_60 rfl (lv_at hl 0 rfl) ?_
    refine va_get (D := (dC, dI)) (ci := 8) (v := .ref h4) (C := RX11) (T := TX11) (N := 9) hx hb hts inlX11 hown hK hP 0 rfl rfl 5 (by decide) (hts _ mw_28) (fun _ h9 => h9) rfl dX11_count_61 ?_
    refine zcVi (wr := [(h0, .inr (8, [.ref h1, .ref h2, .ref h3, v0, v1, .ref h4, v2, .int 0, v3])), (h1, .inr (5, [v4, .int 0])), (h2, .inr (1, [v5, v6, v7, v8, v9, v10, v11, .int 0, v12, v13, v14, v15, v16, v17])), (h3, .inr (0, [v18, v19, v20, .int 0, v21, v22, v23, v24, v25]))]) (rest := []) hx hb hml hown hts (k_X9_size_2 l dC dI cyI cyC h4 (v26) (v27) (v28) (v29) (v30) (v31)) zo_X9_size zv_X9_size mw_831 ⟨by decide, by decide⟩ hK hP hD hS hA [4] [0, 1, 2, 3] rfl rfl rfl rfl (by decide) rfl rfl hl.1 rfl rfl (Nat.le_of_ble_eq_true rfl) dX11_count_64 ⟨by decide, by decide⟩ (fun r_152 w1 H locs hw hP hD hS => ?_)
    obtain ⟨rfl, rfl⟩ := hw
    have hP : va_P (dC, dI) vwCl [(h0, .inr (8, [.ref h1, .ref h2, .ref h3, v0, v1, .ref h4, v2, .int 0, v3])), (h1, .inr (5, [v4, .int 0])), (h2, .inr (1, [v5, v6, v7, v8, v9, v10, v11, .int 0, v12, v13, v14, v15, v16, v17])), (h3, .inr (0, [v18, v19, v20, .int 0, v21, v22, v23, v24, v25])), (h4, .inr (6, [v26, v27, v28, v29, v30, v31, .int 0]))] H := hP
    have hD : va_D A [(h0, .inr (8, [.ref h1, .ref h2, .ref h3, v0, v1, .ref h4, v2, .int 0, v3])), (h1, .inr (5, [v4, .int 0])), (h2, .inr (1, [v5, v6, v7, v8, v9, v10, v11, .int 0, v12, v13, v14, v15, v16, v17])), (h3, .inr (0, [v18, v19, v20, .int 0, v21, v22, v23, v24, v25])), (h4, .inr (6, [v26, v27, v28, v29, v30, v31, .int 0]))] := hD
    exact zr_i hx hb hr hlocks hK znilP znilD hS (by decide) (by decide) dX11_count_67 rfl ⟨(by decide), rfl⟩
  · subst h_1
    refine lv_tableIn (off := 67) (tgt := 68) hx hb dX11_count_1 (by decide) (by decide) rfl (by decide) ?_
    refine lv_aload_n hx hb dX11_count_68 rfl (lv_at hl 0 rfl) ?_
    refine va_get (D := (dC, dI)) (ci := 8) (v := .int 0) (C := RX11) (T := TX11) (N := 9) hx hb hts inlX11 hown hK hP 0 rfl rfl 7 (by decide) (hts _ mw_216) (fun _ h9 => h9) rfl dX11_count_69 ?_
    exact zr_i hx hb hr hlocks hK znilP znilD hS (by decide) (by decide) dX11_count_72 rfl ⟨(by decide), rfl⟩
  · refine lv_tableOut (tgt := 73) hx hb dX11_count_1 h_1 (by decide) ?_
    refine lv_bipush (v := (-2)) hx hb dX11_count_73 (by decide) ?_
    exact zr_i hx hb hr hlocks hK znilP znilD hS (by decide) (by decide) dX11_count_75 rfl ⟨(zs_count_out h_1), rfl⟩
set_option maxRecDepth 100000 in
set_option maxHeartbeats 4000000 in
theorem k_X12_count_1 (l : Launch) (dC : Nat → ClassId) (dI : Nat → Nat → Nat) (cyI cyC : ClassId) (h0 : Nat) (v0 : Value) (v1 : Value) (v2 : Value) (v3 : Value) (v4 : Value) (v5 : Value) (v6 : Value) (v7 : Value) (v8 : Value) (v9 : Value) (v10 : Value) (v11 : Value) (v12 : Value) (v13 : Value) (v14 : Value) (v15 : Value) (v16 : Value) (v17 : Value) (v18 : Value) (v19 : Value) (v20 : Value) (v21 : Value) (v22 : Value) (v23 : Value) (v24 : Value) (v25 : Value) (v26 : Value) (v27 : Value) (v28 : Value) (v29 : Value) (v30 : Value) (v31 : Value) (v32 : Value) (v33 : Value) (v34 : Value) (v35 : Value) (v36 : Value) (v37 : Value) (v38 : Value) (v39 : Value) (v40 : Value) (p0 : Int32) : zM l (dC, dI) (zT cyI cyC) yX12_count cX12_count 2 (some .int) { frames := 1, cells := 0, slots := 0, locals := 64 } [.ref h0, .int p0] [(h0, .inr (9, [.int 0, v0, .int 0, v1, v2, v3, v4, v5, v6, v7, v8, v9, v10, v11, v12, v13, v14, v15, v16, v17, v18, v19, v20, v21, v22, .int 0, v23, v24, v25, .int 0, v26, v27, v28, v29, v30, v31, v32, .int 0, v33, v34, v35, v36, v37, v38, v39, v40]))] (zQi (dC, dI) (zT cyI cyC) (fun r w => r = zs_count p0 ∧ w = [])) := by
  refine zM.of (by decide +kernel) (Nat.le_of_ble_eq_true rfl) ?_
  intro p e s m below meth c hx hb hr hlocks hml hown hnm hts hK A hA H hP hD hS ls hl
  have hown : s.vm.findClass RX12 = some m.cls := hown
  have hl : lv_has ls 2 [(0, .ref h0), (1, .int p0)] := hl
  refine lv_iload_n hx hb dX12_count_0 rfl (lv_at hl 1 rfl) ?_
  rcases zsw4 p0 with h_1 | h_1 | h_1 | h_1 | h_1 | h_1
  · subst h_1
    refine lv_tableIn (off := 35) (tgt := 36) hx hb dX12_count_1 (by decide) (by decide) rfl (by decide) ?_
    refine lv_aload_n hx hb dX12_count_36 rfl (lv_at hl 0 rfl) ?_
    refine va_get (D := (dC, dI)) (ci := 9) (v := .int 0) (C := RX12) (T := TX12) (N := 46) hx hb hts inlX12 hown hK hP 0 rfl rfl 0 (by decide) (hts _ mw_162) (fun _ h9 => h9) rfl dX12_count_37 ?_
    exact zr_i hx hb hr hlocks hK znilP znilD hS (by decide) (by decide) dX12_count_40 rfl ⟨(by decide), rfl⟩
  · subst h_1
    refine lv_tableIn (off := 40) (tgt := 41) hx hb dX12_count_1 (by decide) (by decide) rfl (by decide) ?_
    refine lv_aload_n hx hb dX12_count_41 rfl (lv_at hl 0 rfl) ?_
    refine va_get (D := (dC, dI)) (ci := 9) (v := .int 0) (C := RX12) (T := TX12) (N := 46) hx hb hts inlX12 hown hK hP 0 rfl rfl 2 (by decide) (hts _ mw_845) (fun _ h9 => h9) rfl dX12_count_42 ?_
    exact zr_i hx hb hr hlocks hK znilP znilD hS (by decide) (by decide) dX12_count_45 rfl ⟨(by decide), rfl⟩
  · subst h_1
    refine lv_tableIn (off := 45) (tgt := 46) hx hb dX12_count_1 (by decide) (by decide) rfl (by decide) ?_
    refine lv_aload_n hx hb dX12_count_46 rfl (lv_at hl 0 rfl) ?_
    refine va_get (D := (dC, dI)) (ci := 9) (v := .int 0) (C := RX12) (T := TX12) (N := 46) hx hb hts inlX12 hown hK hP 0 rfl rfl 25 (by decide) (hts _ mw_838) (fun _ h9 => h9) rfl dX12_count_47 ?_
    exact zr_i hx hb hr hlocks hK znilP znilD hS (by decide) (by decide) dX12_count_50 rfl ⟨(by decide), rfl⟩
  · subst h_1
    refine lv_tableIn (off := 50) (tgt := 51) hx hb dX12_count_1 (by decide) (by decide) rfl (by decide) ?_
    refine lv_aload_n hx hb dX12_count_51 rfl (lv_at hl 0 rfl) ?_
    refine va_get (D := (dC, dI)) (ci := 9) (v := .int 0) (C := RX12) (T := TX12) (N := 46) hx hb hts inlX12 hown hK hP 0 rfl rfl 29 (by decide) (hts _ mw_1021) (fun _ h9 => h9) rfl dX12_count_52 ?_
    refine lv_if_eq (tgt := 65) hx hb dX12_count_55 (by decide) (fun _ => ?_) (fun h9 => absurd (by decide) h9)
    refine lv_iconst (v := 0) hx hb dX12_count_65 (by decide) ?_
    exact zr_i hx hb hr hlocks hK znilP znilD hS (by decide) (by decide) dX12_count_66 rfl ⟨(by decide), rfl⟩
  · subst h_1
    refine lv_tableIn (off := 66) (tgt := 67) hx hb dX12_count_1 (by decide) (by decide) rfl (by decide) ?_
    refine lv_aload_n hx hb dX12_count_67 rfl (lv_at hl 0 rfl) ?_
    refine va_get (D := (dC, dI)) (ci := 9) (v := .int 0) (C := RX12) (T := TX12) (N := 46) hx hb hts inlX12 hown hK hP 0 rfl rfl 37 (by decide) (hts _ mw_836) (fun _ h9 => h9) rfl dX12_count_68 ?_
    exact zr_i hx hb hr hlocks hK znilP znilD hS (by decide) (by decide) dX12_count_71 rfl ⟨(by decide), rfl⟩
  · refine lv_tableOut (tgt := 72) hx hb dX12_count_1 h_1 (by decide) ?_
    refine lv_bipush (v := (-2)) hx hb dX12_count_72 (by decide) ?_
    exact zr_i hx hb hr hlocks hK znilP znilD hS (by decide) (by decide) dX12_count_74 rfl ⟨(zs_count_out h_1), rfl⟩
set_option maxRecDepth 100000 in
set_option maxHeartbeats 4000000 in
theorem k_X9_has_2 (l : Launch) (dC : Nat → ClassId) (dI : Nat → Nat → Nat) (cyI cyC : ClassId) (h0 : Nat) (v0 : Value) (v1 : Value) (v2 : Value) (v3 : Value) (v4 : Value) (v5 : Value) (p0 : Int32) : zM l (dC, dI) (zT cyI cyC) yX9_has cX9_has 2 (some .boolean) { frames := 1, cells := 0, slots := 0, locals := 64 } [.ref h0, .int p0] [(h0, .inr (6, [v0, v1, v2, v3, v4, v5, .int 0]))] (zQi (dC, dI) (zT cyI cyC) (fun r w => r = 0 ∧ w = [(h0, .inr (6, [v0, v1, v2, v3, v4, v5, .int 0]))])) := by
  refine zM.of (by decide +kernel) (Nat.le_of_ble_eq_true rfl) ?_
  intro p e s m below meth c hx hb hr hlocks hml hown hnm hts hK A hA H hP hD hS ls hl
  have hown : s.vm.findClass RX9 = some m.cls := hown
  have hl : lv_has ls 2 [(0, .ref h0), (1, .int p0)] := hl
  refine lv_iload_n hx hb dX9_has_0 rfl (lv_at hl 1 rfl) ?_
  refine lv_if_lt (tgt := 16) hx hb dX9_has_1 (by decide) (fun c_1 => ?_) (fun c_1 => ?_)
  · refine lv_iconst (v := 0) hx hb dX9_has_16 (by decide) ?_
    exact zr_i hx hb hr hlocks hK hP hD hS (by decide) (by decide) dX9_has_17 rfl ⟨rfl, rfl⟩
  · refine lv_iload_n hx hb dX9_has_4 rfl (lv_at hl 1 rfl) ?_
    refine lv_aload_n hx hb dX9_has_5 rfl (lv_at hl 0 rfl) ?_
    refine va_get (D := (dC, dI)) (ci := 6) (v := .int 0) (C := RX9) (T := TX9) (N := 7) hx hb hts inlX9 hown hK hP 0 rfl rfl 6 (by decide) (hts _ mw_451) (fun _ h9 => h9) rfl dX9_has_6 ?_
    refine lv_icmp_ge (tgt := 16) hx hb dX9_has_9 (by decide) (fun _ => ?_) (fun h9 => absurd (Int32.not_lt.mp c_1) h9)
    refine lv_iconst (v := 0) hx hb dX9_has_16 (by decide) ?_
    exact zr_i hx hb hr hlocks hK hP hD hS (by decide) (by decide) dX9_has_17 rfl ⟨rfl, rfl⟩
set_option maxRecDepth 100000 in
set_option maxHeartbeats 4000000 in
theorem k_X11_node_1 (l : Launch) (dC : Nat → ClassId) (dI : Nat → Nat → Nat) (cyI cyC : ClassId) (h0 : Nat) (h1 : Nat) (v0 : Value) (v1 : Value) (v2 : Value) (v3 : Value) (v4 : Value) (v5 : Value) (v6 : Value) (v7 : Value) (v8 : Value) (v9 : Value) (v10 : Value) (v11 : Value) (v12 : Value) (v13 : Value) (p0 : Int32) (p1 : Int32) : zM l (dC, dI) (zT cyI cyC) yX11_node cX11_node 3 (some .int) { frames := 2, cells := 0, slots := 0, locals := 128 } [.ref h0, .int p0, .int p1] [(h0, .inr (8, [v0, v1, v2, v3, v4, .ref h1, v5, v6, v7])), (h1, .inr (6, [v8, v9, v10, v11, v12, v13, .int 0]))] (zQi (dC, dI) (zT cyI cyC) (fun r w => r = (-2147483648) ∧ w = [])) := by
  refine zM.of (by decide +kernel) (Nat.le_of_ble_eq_true rfl) ?_
  intro p e s m below meth c hx hb hr hlocks hml hown hnm hts hK A hA H hP hD hS ls hl
  have hown : s.vm.findClass RX11 = some m.cls := hown
  have hl : lv_has ls 3 [(0, .ref h0), (1, .int p0), (2, .int p1)] := hl
  refine lv_aload_n hx hb dX11_node_0 rfl (lv_at hl 0 rfl) ?_
  refine va_get (D := (dC, dI)) (ci := 8) (v := .ref h1) (C := RX11) (T := TX11) (N := 9) hx hb hts inlX11 hown hK hP 0 rfl rfl 5 (by decide) (hts _ mw_28) (fun _ h9 => h9) rfl dX11_node_1 ?_
  refine lv_iload_n hx hb dX11_node_4 rfl (lv_at hl 1 rfl) ?_
  refine zcVi (wr := [(h0, .inr (8, [v0, v1, v2, v3, v4, .ref h1, v5, v6, v7]))]) (rest := []) hx hb hml hown hts (k_X9_has_2 l dC dI cyI cyC h1 (v8) (v9) (v10) (v11) (v12) (v13) p0) zo_X9_has zv_X9_has mw_1081 ⟨by decide, by decide⟩ hK hP hD hS hA [1] [0] rfl rfl rfl rfl (by decide) rfl rfl hl.1 rfl rfl (Nat.le_of_ble_eq_true rfl) dX11_node_5 ⟨by decide, by decide⟩ (fun r_153 w1 H locs hw hP hD hS => ?_)
  obtain ⟨rfl, rfl⟩ := hw
  have hP : va_P (dC, dI) vwCl [(h0, .inr (8, [v0, v1, v2, v3, v4, .ref h1, v5, v6, v7])), (h1, .inr (6, [v8, v9, v10, v11, v12, v13, .int 0]))] H := hP
  have hD : va_D A [(h0, .inr (8, [v0, v1, v2, v3, v4, .ref h1, v5, v6, v7])), (h1, .inr (6, [v8, v9, v10, v11, v12, v13, .int 0]))] := hD
  refine lv_if_ne (tgt := 14) hx hb dX11_node_8 (by decide) (fun h9 => absurd (by decide) h9) (fun _ => ?_)
  refine lv_ldc (v := (-2147483648)) hx hb hown (hts _ mw_1080) dX11_node_11 ?_
  exact zr_i hx hb hr hlocks hK znilP znilD hS (by decide) (by decide) dX11_node_13 rfl ⟨rfl, rfl⟩
set_option maxRecDepth 100000 in
set_option maxHeartbeats 4000000 in
theorem k_X12_isNode_1 (l : Launch) (dC : Nat → ClassId) (dI : Nat → Nat → Nat) (cyI cyC : ClassId) (h0 : Nat) (v0 : Value) (v1 : Value) (v2 : Value) (v3 : Value) (v4 : Value) (v5 : Value) (v6 : Value) (v7 : Value) (v8 : Value) (v9 : Value) (v10 : Value) (v11 : Value) (v12 : Value) (v13 : Value) (v14 : Value) (v15 : Value) (v16 : Value) (v17 : Value) (v18 : Value) (v19 : Value) (v20 : Value) (v21 : Value) (v22 : Value) (v23 : Value) (v24 : Value) (v25 : Value) (v26 : Value) (v27 : Value) (v28 : Value) (v29 : Value) (v30 : Value) (v31 : Value) (v32 : Value) (v33 : Value) (v34 : Value) (v35 : Value) (v36 : Value) (v37 : Value) (v38 : Value) (v39 : Value) (v40 : Value) (v41 : Value) (v42 : Value) (v43 : Value) (v44 : Value) (p0 : Int32) : zM l (dC, dI) (zT cyI cyC) yX12_isNode cX12_isNode 2 (some .boolean) { frames := 1, cells := 0, slots := 0, locals := 64 } [.ref h0, .int p0] [(h0, .inr (9, [v0, v1, v2, v3, v4, v5, v6, v7, v8, v9, v10, v11, v12, v13, v14, v15, v16, v17, v18, v19, v20, v21, v22, v23, v24, v25, v26, v27, v28, .int 0, v29, v30, v31, v32, v33, v34, v35, v36, v37, v38, v39, v40, v41, v42, v43, v44]))] (zQi (dC, dI) (zT cyI cyC) (fun r w => r = 0 ∧ w = [(h0, .inr (9, [v0, v1, v2, v3, v4, v5, v6, v7, v8, v9, v10, v11, v12, v13, v14, v15, v16, v17, v18, v19, v20, v21, v22, v23, v24, v25, v26, v27, v28, .int 0, v29, v30, v31, v32, v33, v34, v35, v36, v37, v38, v39, v40, v41, v42, v43, v44]))])) := by
  refine zM.of (by decide +kernel) (Nat.le_of_ble_eq_true rfl) ?_
  intro p e s m below meth c hx hb hr hlocks hml hown hnm hts hK A hA H hP hD hS ls hl
  have hown : s.vm.findClass RX12 = some m.cls := hown
  have hl : lv_has ls 2 [(0, .ref h0), (1, .int p0)] := hl
  refine lv_aload_n hx hb dX12_isNode_0 rfl (lv_at hl 0 rfl) ?_
  refine va_get (D := (dC, dI)) (ci := 9) (v := .int 0) (C := RX12) (T := TX12) (N := 46) hx hb hts inlX12 hown hK hP 0 rfl rfl 29 (by decide) (hts _ mw_1021) (fun _ h9 => h9) rfl dX12_isNode_1 ?_
  refine lv_if_eq (tgt := 27) hx hb dX12_isNode_4 (by decide) (fun _ => ?_) (fun h9 => absurd (by decide) h9)
  refine lv_iconst (v := 0) hx hb dX12_isNode_27 (by decide) ?_
  exact zr_i hx hb hr hlocks hK hP hD hS (by decide) (by decide) dX12_isNode_28 rfl ⟨rfl, rfl⟩
set_option maxRecDepth 100000 in
set_option maxHeartbeats 4000000 in
theorem k_X12_node__1 (l : Launch) (dC : Nat → ClassId) (dI : Nat → Nat → Nat) (cyI cyC : ClassId) (h0 : Nat) (v0 : Value) (v1 : Value) (v2 : Value) (v3 : Value) (v4 : Value) (v5 : Value) (v6 : Value) (v7 : Value) (v8 : Value) (v9 : Value) (v10 : Value) (v11 : Value) (v12 : Value) (v13 : Value) (v14 : Value) (v15 : Value) (v16 : Value) (v17 : Value) (v18 : Value) (v19 : Value) (v20 : Value) (v21 : Value) (v22 : Value) (v23 : Value) (v24 : Value) (v25 : Value) (v26 : Value) (v27 : Value) (v28 : Value) (v29 : Value) (v30 : Value) (v31 : Value) (v32 : Value) (v33 : Value) (v34 : Value) (v35 : Value) (v36 : Value) (v37 : Value) (v38 : Value) (v39 : Value) (v40 : Value) (v41 : Value) (v42 : Value) (v43 : Value) (v44 : Value) (p0 : Int32) (p1 : Int32) : zM l (dC, dI) (zT cyI cyC) yX12_node_ cX12_node_ 3 (some .int) { frames := 2, cells := 0, slots := 0, locals := 128 } [.ref h0, .int p0, .int p1] [(h0, .inr (9, [v0, v1, v2, v3, v4, v5, v6, v7, v8, v9, v10, v11, v12, v13, v14, v15, v16, v17, v18, v19, v20, v21, v22, v23, v24, v25, v26, v27, v28, .int 0, v29, v30, v31, v32, v33, v34, v35, v36, v37, v38, v39, v40, v41, v42, v43, v44]))] (zQi (dC, dI) (zT cyI cyC) (fun r w => r = (-2147483648) ∧ w = [])) := by
  refine zM.of (by decide +kernel) (Nat.le_of_ble_eq_true rfl) ?_
  intro p e s m below meth c hx hb hr hlocks hml hown hnm hts hK A hA H hP hD hS ls hl
  have hown : s.vm.findClass RX12 = some m.cls := hown
  have hl : lv_has ls 3 [(0, .ref h0), (1, .int p0), (2, .int p1)] := hl
  refine lv_aload_n hx hb dX12_node__0 rfl (lv_at hl 0 rfl) ?_
  refine lv_iload_n hx hb dX12_node__1 rfl (lv_at hl 1 rfl) ?_
  refine zcVi (wr := []) (rest := []) hx hb hml hown hts (k_X12_isNode_1 l dC dI cyI cyC h0 (v0) (v1) (v2) (v3) (v4) (v5) (v6) (v7) (v8) (v9) (v10) (v11) (v12) (v13) (v14) (v15) (v16) (v17) (v18) (v19) (v20) (v21) (v22) (v23) (v24) (v25) (v26) (v27) (v28) (v29) (v30) (v31) (v32) (v33) (v34) (v35) (v36) (v37) (v38) (v39) (v40) (v41) (v42) (v43) (v44) p0) zo_X12_isNode zv_X12_isNode mw_1108 ⟨by decide, by decide⟩ hK hP hD hS hA [0] [] rfl rfl rfl rfl (by decide) rfl rfl hl.1 rfl rfl (Nat.le_of_ble_eq_true rfl) dX12_node__2 ⟨by decide, by decide⟩ (fun r_154 w1 H locs hw hP hD hS => ?_)
  obtain ⟨rfl, rfl⟩ := hw
  have hP : va_P (dC, dI) vwCl [(h0, .inr (9, [v0, v1, v2, v3, v4, v5, v6, v7, v8, v9, v10, v11, v12, v13, v14, v15, v16, v17, v18, v19, v20, v21, v22, v23, v24, v25, v26, v27, v28, .int 0, v29, v30, v31, v32, v33, v34, v35, v36, v37, v38, v39, v40, v41, v42, v43, v44]))] H := hP
  have hD : va_D A [(h0, .inr (9, [v0, v1, v2, v3, v4, v5, v6, v7, v8, v9, v10, v11, v12, v13, v14, v15, v16, v17, v18, v19, v20, v21, v22, v23, v24, v25, v26, v27, v28, .int 0, v29, v30, v31, v32, v33, v34, v35, v36, v37, v38, v39, v40, v41, v42, v43, v44]))] := hD
  refine lv_if_ne (tgt := 12) hx hb dX12_node__5 (by decide) (fun h9 => absurd (by decide) h9) (fun _ => ?_)
  refine lv_ldcw (v := (-2147483648)) hx hb hown (hts _ mw_1107) dX12_node__8 ?_
  exact zr_i hx hb hr hlocks hK znilP znilD hS (by decide) (by decide) dX12_node__11 rfl ⟨rfl, rfl⟩
set_option maxRecDepth 100000 in
set_option maxHeartbeats 4000000 in
theorem k_X11_letter_1 (l : Launch) (dC : Nat → ClassId) (dI : Nat → Nat → Nat) (cyI cyC : ClassId) (h0 : Nat) (h1 : Nat) (v0 : Value) (v1 : Value) (v2 : Value) (v3 : Value) (v4 : Value) (v5 : Value) (v6 : Value) (v7 : Value) (v8 : Value) (v9 : Value) (v10 : Value) (v11 : Value) (v12 : Value) (v13 : Value) (p0 : Int32) (p1 : Int32) : zM l (dC, dI) (zT cyI cyC) yX11_letter cX11_letter 3 (some .int) { frames := 2, cells := 0, slots := 0, locals := 128 } [.ref h0, .int p0, .int p1] [(h0, .inr (8, [v0, v1, v2, v3, v4, .ref h1, v5, v6, v7])), (h1, .inr (6, [v8, v9, v10, v11, v12, v13, .int 0]))] (zQi (dC, dI) (zT cyI cyC) (fun r w => r = (-2) ∧ w = [])) := by
  refine zM.of (by decide +kernel) (Nat.le_of_ble_eq_true rfl) ?_
  intro p e s m below meth c hx hb hr hlocks hml hown hnm hts hK A hA H hP hD hS ls hl
  have hown : s.vm.findClass RX11 = some m.cls := hown
  have hl : lv_has ls 3 [(0, .ref h0), (1, .int p0), (2, .int p1)] := hl
  refine lv_aload_n hx hb dX11_letter_0 rfl (lv_at hl 0 rfl) ?_
  refine va_get (D := (dC, dI)) (ci := 8) (v := .ref h1) (C := RX11) (T := TX11) (N := 9) hx hb hts inlX11 hown hK hP 0 rfl rfl 5 (by decide) (hts _ mw_28) (fun _ h9 => h9) rfl dX11_letter_1 ?_
  refine lv_iload_n hx hb dX11_letter_4 rfl (lv_at hl 1 rfl) ?_
  refine zcVi (wr := [(h0, .inr (8, [v0, v1, v2, v3, v4, .ref h1, v5, v6, v7]))]) (rest := []) hx hb hml hown hts (k_X9_has_2 l dC dI cyI cyC h1 (v8) (v9) (v10) (v11) (v12) (v13) p0) zo_X9_has zv_X9_has mw_1081 ⟨by decide, by decide⟩ hK hP hD hS hA [1] [0] rfl rfl rfl rfl (by decide) rfl rfl hl.1 rfl rfl (Nat.le_of_ble_eq_true rfl) dX11_letter_5 ⟨by decide, by decide⟩ (fun r_155 w1 H locs hw hP hD hS => ?_)
  obtain ⟨rfl, rfl⟩ := hw
  have hP : va_P (dC, dI) vwCl [(h0, .inr (8, [v0, v1, v2, v3, v4, .ref h1, v5, v6, v7])), (h1, .inr (6, [v8, v9, v10, v11, v12, v13, .int 0]))] H := hP
  have hD : va_D A [(h0, .inr (8, [v0, v1, v2, v3, v4, .ref h1, v5, v6, v7])), (h1, .inr (6, [v8, v9, v10, v11, v12, v13, .int 0]))] := hD
  refine lv_if_eq (tgt := 23) hx hb dX11_letter_8 (by decide) (fun _ => ?_) (fun h9 => absurd (by decide) h9)
  refine lv_bipush (v := (-2)) hx hb dX11_letter_23 (by decide) ?_
  exact zr_i hx hb hr hlocks hK znilP znilD hS (by decide) (by decide) dX11_letter_25 rfl ⟨rfl, rfl⟩
set_option maxRecDepth 100000 in
set_option maxHeartbeats 4000000 in
theorem k_X12_letter_1 (l : Launch) (dC : Nat → ClassId) (dI : Nat → Nat → Nat) (cyI cyC : ClassId) (h0 : Nat) (v0 : Value) (v1 : Value) (v2 : Value) (v3 : Value) (v4 : Value) (v5 : Value) (v6 : Value) (v7 : Value) (v8 : Value) (v9 : Value) (v10 : Value) (v11 : Value) (v12 : Value) (v13 : Value) (v14 : Value) (v15 : Value) (v16 : Value) (v17 : Value) (v18 : Value) (v19 : Value) (v20 : Value) (v21 : Value) (v22 : Value) (v23 : Value) (v24 : Value) (v25 : Value) (v26 : Value) (v27 : Value) (v28 : Value) (v29 : Value) (v30 : Value) (v31 : Value) (v32 : Value) (v33 : Value) (v34 : Value) (v35 : Value) (v36 : Value) (v37 : Value) (v38 : Value) (v39 : Value) (v40 : Value) (v41 : Value) (v42 : Value) (v43 : Value) (v44 : Value) (p0 : Int32) (p1 : Int32) : zM l (dC, dI) (zT cyI cyC) yX12_letter cX12_letter 3 (some .int) { frames := 2, cells := 0, slots := 0, locals := 128 } [.ref h0, .int p0, .int p1] [(h0, .inr (9, [v0, v1, v2, v3, v4, v5, v6, v7, v8, v9, v10, v11, v12, v13, v14, v15, v16, v17, v18, v19, v20, v21, v22, v23, v24, v25, v26, v27, v28, .int 0, v29, v30, v31, v32, v33, v34, v35, v36, v37, v38, v39, v40, v41, v42, v43, v44]))] (zQi (dC, dI) (zT cyI cyC) (fun r w => r = (-2) ∧ w = [])) := by
  refine zM.of (by decide +kernel) (Nat.le_of_ble_eq_true rfl) ?_
  intro p e s m below meth c hx hb hr hlocks hml hown hnm hts hK A hA H hP hD hS ls hl
  have hown : s.vm.findClass RX12 = some m.cls := hown
  have hl : lv_has ls 3 [(0, .ref h0), (1, .int p0), (2, .int p1)] := hl
  refine lv_aload_n hx hb dX12_letter_0 rfl (lv_at hl 0 rfl) ?_
  refine lv_iload_n hx hb dX12_letter_1 rfl (lv_at hl 1 rfl) ?_
  refine zcVi (wr := []) (rest := []) hx hb hml hown hts (k_X12_isNode_1 l dC dI cyI cyC h0 (v0) (v1) (v2) (v3) (v4) (v5) (v6) (v7) (v8) (v9) (v10) (v11) (v12) (v13) (v14) (v15) (v16) (v17) (v18) (v19) (v20) (v21) (v22) (v23) (v24) (v25) (v26) (v27) (v28) (v29) (v30) (v31) (v32) (v33) (v34) (v35) (v36) (v37) (v38) (v39) (v40) (v41) (v42) (v43) (v44) p0) zo_X12_isNode zv_X12_isNode mw_1108 ⟨by decide, by decide⟩ hK hP hD hS hA [0] [] rfl rfl rfl rfl (by decide) rfl rfl hl.1 rfl rfl (Nat.le_of_ble_eq_true rfl) dX12_letter_2 ⟨by decide, by decide⟩ (fun r_156 w1 H locs hw hP hD hS => ?_)
  obtain ⟨rfl, rfl⟩ := hw
  have hP : va_P (dC, dI) vwCl [(h0, .inr (9, [v0, v1, v2, v3, v4, v5, v6, v7, v8, v9, v10, v11, v12, v13, v14, v15, v16, v17, v18, v19, v20, v21, v22, v23, v24, v25, v26, v27, v28, .int 0, v29, v30, v31, v32, v33, v34, v35, v36, v37, v38, v39, v40, v41, v42, v43, v44]))] H := hP
  have hD : va_D A [(h0, .inr (9, [v0, v1, v2, v3, v4, v5, v6, v7, v8, v9, v10, v11, v12, v13, v14, v15, v16, v17, v18, v19, v20, v21, v22, v23, v24, v25, v26, v27, v28, .int 0, v29, v30, v31, v32, v33, v34, v35, v36, v37, v38, v39, v40, v41, v42, v43, v44]))] := hD
  refine lv_if_ne (tgt := 11) hx hb dX12_letter_5 (by decide) (fun h9 => absurd (by decide) h9) (fun _ => ?_)
  refine lv_bipush (v := (-2)) hx hb dX12_letter_8 (by decide) ?_
  exact zr_i hx hb hr hlocks hK znilP znilD hS (by decide) (by decide) dX12_letter_10 rfl ⟨rfl, rfl⟩
set_option maxRecDepth 100000 in
set_option maxHeartbeats 4000000 in
theorem k_X11_child_1 (l : Launch) (dC : Nat → ClassId) (dI : Nat → Nat → Nat) (cyI cyC : ClassId) (h0 : Nat) (h1 : Nat) (v0 : Value) (v1 : Value) (v2 : Value) (v3 : Value) (v4 : Value) (v5 : Value) (v6 : Value) (v7 : Value) (v8 : Value) (v9 : Value) (v10 : Value) (v11 : Value) (v12 : Value) (v13 : Value) (p0 : Int32) (p1 : Int32) : zM l (dC, dI) (zT cyI cyC) yX11_child cX11_child 3 (some .int) { frames := 2, cells := 0, slots := 0, locals := 128 } [.ref h0, .int p0, .int p1] [(h0, .inr (8, [v0, v1, v2, v3, v4, .ref h1, v5, v6, v7])), (h1, .inr (6, [v8, v9, v10, v11, v12, v13, .int 0]))] (zQi (dC, dI) (zT cyI cyC) (fun r w => r = (-2) ∧ w = [])) := by
  refine zM.of (by decide +kernel) (Nat.le_of_ble_eq_true rfl) ?_
  intro p e s m below meth c hx hb hr hlocks hml hown hnm hts hK A hA H hP hD hS ls hl
  have hown : s.vm.findClass RX11 = some m.cls := hown
  have hl : lv_has ls 3 [(0, .ref h0), (1, .int p0), (2, .int p1)] := hl
  refine lv_aload_n hx hb dX11_child_0 rfl (lv_at hl 0 rfl) ?_
  refine va_get (D := (dC, dI)) (ci := 8) (v := .ref h1) (C := RX11) (T := TX11) (N := 9) hx hb hts inlX11 hown hK hP 0 rfl rfl 5 (by decide) (hts _ mw_28) (fun _ h9 => h9) rfl dX11_child_1 ?_
  refine lv_iload_n hx hb dX11_child_4 rfl (lv_at hl 1 rfl) ?_
  refine zcVi (wr := [(h0, .inr (8, [v0, v1, v2, v3, v4, .ref h1, v5, v6, v7]))]) (rest := []) hx hb hml hown hts (k_X9_has_2 l dC dI cyI cyC h1 (v8) (v9) (v10) (v11) (v12) (v13) p0) zo_X9_has zv_X9_has mw_1081 ⟨by decide, by decide⟩ hK hP hD hS hA [1] [0] rfl rfl rfl rfl (by decide) rfl rfl hl.1 rfl rfl (Nat.le_of_ble_eq_true rfl) dX11_child_5 ⟨by decide, by decide⟩ (fun r_157 w1 H locs hw hP hD hS => ?_)
  obtain ⟨rfl, rfl⟩ := hw
  have hP : va_P (dC, dI) vwCl [(h0, .inr (8, [v0, v1, v2, v3, v4, .ref h1, v5, v6, v7])), (h1, .inr (6, [v8, v9, v10, v11, v12, v13, .int 0]))] H := hP
  have hD : va_D A [(h0, .inr (8, [v0, v1, v2, v3, v4, .ref h1, v5, v6, v7])), (h1, .inr (6, [v8, v9, v10, v11, v12, v13, .int 0]))] := hD
  refine lv_if_eq (tgt := 23) hx hb dX11_child_8 (by decide) (fun _ => ?_) (fun h9 => absurd (by decide) h9)
  refine lv_bipush (v := (-2)) hx hb dX11_child_23 (by decide) ?_
  exact zr_i hx hb hr hlocks hK znilP znilD hS (by decide) (by decide) dX11_child_25 rfl ⟨rfl, rfl⟩
set_option maxRecDepth 100000 in
set_option maxHeartbeats 4000000 in
theorem k_X12_child_1 (l : Launch) (dC : Nat → ClassId) (dI : Nat → Nat → Nat) (cyI cyC : ClassId) (h0 : Nat) (v0 : Value) (v1 : Value) (v2 : Value) (v3 : Value) (v4 : Value) (v5 : Value) (v6 : Value) (v7 : Value) (v8 : Value) (v9 : Value) (v10 : Value) (v11 : Value) (v12 : Value) (v13 : Value) (v14 : Value) (v15 : Value) (v16 : Value) (v17 : Value) (v18 : Value) (v19 : Value) (v20 : Value) (v21 : Value) (v22 : Value) (v23 : Value) (v24 : Value) (v25 : Value) (v26 : Value) (v27 : Value) (v28 : Value) (v29 : Value) (v30 : Value) (v31 : Value) (v32 : Value) (v33 : Value) (v34 : Value) (v35 : Value) (v36 : Value) (v37 : Value) (v38 : Value) (v39 : Value) (v40 : Value) (v41 : Value) (v42 : Value) (v43 : Value) (v44 : Value) (p0 : Int32) (p1 : Int32) : zM l (dC, dI) (zT cyI cyC) yX12_child cX12_child 3 (some .int) { frames := 2, cells := 0, slots := 0, locals := 128 } [.ref h0, .int p0, .int p1] [(h0, .inr (9, [v0, v1, v2, v3, v4, v5, v6, v7, v8, v9, v10, v11, v12, v13, v14, v15, v16, v17, v18, v19, v20, v21, v22, v23, v24, v25, v26, v27, v28, .int 0, v29, v30, v31, v32, v33, v34, v35, v36, v37, v38, v39, v40, v41, v42, v43, v44]))] (zQi (dC, dI) (zT cyI cyC) (fun r w => r = (-2) ∧ w = [])) := by
  refine zM.of (by decide +kernel) (Nat.le_of_ble_eq_true rfl) ?_
  intro p e s m below meth c hx hb hr hlocks hml hown hnm hts hK A hA H hP hD hS ls hl
  have hown : s.vm.findClass RX12 = some m.cls := hown
  have hl : lv_has ls 3 [(0, .ref h0), (1, .int p0), (2, .int p1)] := hl
  refine lv_aload_n hx hb dX12_child_0 rfl (lv_at hl 0 rfl) ?_
  refine lv_iload_n hx hb dX12_child_1 rfl (lv_at hl 1 rfl) ?_
  refine zcVi (wr := []) (rest := []) hx hb hml hown hts (k_X12_isNode_1 l dC dI cyI cyC h0 (v0) (v1) (v2) (v3) (v4) (v5) (v6) (v7) (v8) (v9) (v10) (v11) (v12) (v13) (v14) (v15) (v16) (v17) (v18) (v19) (v20) (v21) (v22) (v23) (v24) (v25) (v26) (v27) (v28) (v29) (v30) (v31) (v32) (v33) (v34) (v35) (v36) (v37) (v38) (v39) (v40) (v41) (v42) (v43) (v44) p0) zo_X12_isNode zv_X12_isNode mw_1108 ⟨by decide, by decide⟩ hK hP hD hS hA [0] [] rfl rfl rfl rfl (by decide) rfl rfl hl.1 rfl rfl (Nat.le_of_ble_eq_true rfl) dX12_child_2 ⟨by decide, by decide⟩ (fun r_158 w1 H locs hw hP hD hS => ?_)
  obtain ⟨rfl, rfl⟩ := hw
  have hP : va_P (dC, dI) vwCl [(h0, .inr (9, [v0, v1, v2, v3, v4, v5, v6, v7, v8, v9, v10, v11, v12, v13, v14, v15, v16, v17, v18, v19, v20, v21, v22, v23, v24, v25, v26, v27, v28, .int 0, v29, v30, v31, v32, v33, v34, v35, v36, v37, v38, v39, v40, v41, v42, v43, v44]))] H := hP
  have hD : va_D A [(h0, .inr (9, [v0, v1, v2, v3, v4, v5, v6, v7, v8, v9, v10, v11, v12, v13, v14, v15, v16, v17, v18, v19, v20, v21, v22, v23, v24, v25, v26, v27, v28, .int 0, v29, v30, v31, v32, v33, v34, v35, v36, v37, v38, v39, v40, v41, v42, v43, v44]))] := hD
  refine lv_if_ne (tgt := 11) hx hb dX12_child_5 (by decide) (fun h9 => absurd (by decide) h9) (fun _ => ?_)
  refine lv_bipush (v := (-2)) hx hb dX12_child_8 (by decide) ?_
  exact zr_i hx hb hr hlocks hK znilP znilD hS (by decide) (by decide) dX12_child_10 rfl ⟨rfl, rfl⟩
set_option maxRecDepth 100000 in
set_option maxHeartbeats 4000000 in
theorem k_X11_write_1 (l : Launch) (dC : Nat → ClassId) (dI : Nat → Nat → Nat) (cyI cyC : ClassId) (h0 : Nat) (h1 : Nat) (v0 : Value) (v1 : Value) (v2 : Value) (v3 : Value) (v4 : Value) (v5 : Value) (v6 : Value) (v7 : Value) (v8 : Value) (v9 : Value) (v10 : Value) (v11 : Value) (v12 : Value) (v13 : Value) (p0 : Int32) : zM l (dC, dI) (zT cyI cyC) yX11_write cX11_write 2 (some .int) { frames := 2, cells := 0, slots := 0, locals := 128 } [.ref h0, .int p0] [(h0, .inr (8, [v0, v1, v2, v3, v4, .ref h1, v5, v6, v7])), (h1, .inr (6, [v8, v9, v10, v11, v12, v13, .int 0]))] (zQi (dC, dI) (zT cyI cyC) (fun r w => r = zs_write p0 ∧ w = [])) := by
  refine zM.of (by decide +kernel) (Nat.le_of_ble_eq_true rfl) ?_
  intro p e s m below meth c hx hb hr hlocks hml hown hnm hts hK A hA H hP hD hS ls hl
  have hown : s.vm.findClass RX11 = some m.cls := hown
  have hl : lv_has ls 2 [(0, .ref h0), (1, .int p0)] := hl
  refine lv_iload_n hx hb dX11_write_0 rfl (lv_at hl 1 rfl) ?_
  refine lv_if_eq (tgt := 12) hx hb dX11_write_1 (by decide) (fun c_1 => ?_) (fun c_1 => ?_)
  · refine lv_aload_n hx hb dX11_write_12 rfl (lv_at hl 0 rfl) ?_
    refine va_get (D := (dC, dI)) (ci := 8) (v := .ref h1) (C := RX11) (T := TX11) (N := 9) hx hb hts inlX11 hown hK hP 0 rfl rfl 5 (by decide) (hts _ mw_28) (fun _ h9 => h9) rfl dX11_write_13 ?_
    refine zcVi (wr := [(h0, .inr (8, [v0, v1, v2, v3, v4, .ref h1, v5, v6, v7]))]) (rest := []) hx hb hml hown hts (k_X9_size_2 l dC dI cyI cyC h1 (v8) (v9) (v10) (v11) (v12) (v13)) zo_X9_size zv_X9_size mw_831 ⟨by decide, by decide⟩ hK hP hD hS hA [1] [0] rfl rfl rfl rfl (by decide) rfl rfl hl.1 rfl rfl (Nat.le_of_ble_eq_true rfl) dX11_write_16 ⟨by decide, by decide⟩ (fun r_159 w1 H locs hw hP hD hS => ?_)
    obtain ⟨rfl, rfl⟩ := hw
    have hP : va_P (dC, dI) vwCl [(h0, .inr (8, [v0, v1, v2, v3, v4, .ref h1, v5, v6, v7])), (h1, .inr (6, [v8, v9, v10, v11, v12, v13, .int 0]))] H := hP
    have hD : va_D A [(h0, .inr (8, [v0, v1, v2, v3, v4, .ref h1, v5, v6, v7])), (h1, .inr (6, [v8, v9, v10, v11, v12, v13, .int 0]))] := hD
    refine lv_if_ne (tgt := 25) hx hb dX11_write_19 (by decide) (fun h9 => absurd (by decide) h9) (fun _ => ?_)
    refine lv_bipush (v := (-4)) hx hb dX11_write_22 (by decide) ?_
    exact zr_i hx hb hr hlocks hK znilP znilD hS (by decide) (by decide) dX11_write_24 rfl ⟨(by rw [zs_write_eq, if_pos c_1]), rfl⟩
  · refine lv_iload_n hx hb dX11_write_4 rfl (lv_at hl 1 rfl) ?_
    refine lv_iconst (v := 1) hx hb dX11_write_5 (by decide) ?_
    refine lv_icmp_eq (tgt := 12) hx hb dX11_write_6 (by decide) (fun c_6 => ?_) (fun c_6 => ?_)
    · refine lv_aload_n hx hb dX11_write_12 rfl (lv_at hl 0 rfl) ?_
      refine va_get (D := (dC, dI)) (ci := 8) (v := .ref h1) (C := RX11) (T := TX11) (N := 9) hx hb hts inlX11 hown hK hP 0 rfl rfl 5 (by decide) (hts _ mw_28) (fun _ h9 => h9) rfl dX11_write_13 ?_
      refine zcVi (wr := [(h0, .inr (8, [v0, v1, v2, v3, v4, .ref h1, v5, v6, v7]))]) (rest := []) hx hb hml hown hts (k_X9_size_2 l dC dI cyI cyC h1 (v8) (v9) (v10) (v11) (v12) (v13)) zo_X9_size zv_X9_size mw_831 ⟨by decide, by decide⟩ hK hP hD hS hA [1] [0] rfl rfl rfl rfl (by decide) rfl rfl hl.1 rfl rfl (Nat.le_of_ble_eq_true rfl) dX11_write_16 ⟨by decide, by decide⟩ (fun r_160 w1 H locs hw hP hD hS => ?_)
      obtain ⟨rfl, rfl⟩ := hw
      have hP : va_P (dC, dI) vwCl [(h0, .inr (8, [v0, v1, v2, v3, v4, .ref h1, v5, v6, v7])), (h1, .inr (6, [v8, v9, v10, v11, v12, v13, .int 0]))] H := hP
      have hD : va_D A [(h0, .inr (8, [v0, v1, v2, v3, v4, .ref h1, v5, v6, v7])), (h1, .inr (6, [v8, v9, v10, v11, v12, v13, .int 0]))] := hD
      refine lv_if_ne (tgt := 25) hx hb dX11_write_19 (by decide) (fun h9 => absurd (by decide) h9) (fun _ => ?_)
      refine lv_bipush (v := (-4)) hx hb dX11_write_22 (by decide) ?_
      exact zr_i hx hb hr hlocks hK znilP znilD hS (by decide) (by decide) dX11_write_24 rfl ⟨(by rw [zs_write_eq, if_neg c_1, if_pos c_6]), rfl⟩
    · refine lv_bipush (v := (-2)) hx hb dX11_write_9 (by decide) ?_
      exact zr_i hx hb hr hlocks hK znilP znilD hS (by decide) (by decide) dX11_write_11 rfl ⟨(by rw [zs_write_eq, if_neg c_1, if_neg c_6]), rfl⟩
set_option maxRecDepth 100000 in
set_option maxHeartbeats 4000000 in
theorem k_X12_in_3 (l : Launch) (dC : Nat → ClassId) (dI : Nat → Nat → Nat) (cyI cyC : ClassId) (p0 : Int64) : zM l (dC, dI) (zT cyI cyC) yX12_in cX12_in 6 (some .boolean) { frames := 1, cells := 0, slots := 0, locals := 64 } [.long p0, .long 0, .long 1] [] (zQi (dC, dI) (zT cyI cyC) (fun r w => r = zs_in p0 0 1 ∧ w = [])) := by
  refine zM.of (by decide +kernel) (Nat.le_of_ble_eq_true rfl) ?_
  intro p e s m below meth c hx hb hr hlocks hml hown hnm hts hK A hA H hP hD hS ls hl
  have hown : s.vm.findClass RX12 = some m.cls := hown
  have hl : lv_has ls 6 [(0, .long p0), (2, .long 0), (4, .long 1)] := hl
  refine lv_lload_n hx hb dX12_in_0 rfl (lv_at hl 0 rfl) ?_
  refine lv_lload_n hx hb dX12_in_1 rfl (lv_at hl 1 rfl) ?_
  refine W.lcmp hx hb dX12_in_2 ?_
  refine lv_if_lt (tgt := 17) hx hb dX12_in_3 (by decide) (fun c_3 => ?_) (fun c_3 => ?_)
  · refine lv_iconst (v := 0) hx hb dX12_in_17 (by decide) ?_
    exact zr_i hx hb hr hlocks hK hP hD hS (by decide) (by decide) dX12_in_18 rfl ⟨zin_1 c_3, rfl⟩
  · refine lv_lload_n hx hb dX12_in_6 rfl (lv_at hl 0 rfl) ?_
    refine lv_lload hx hb dX12_in_7 (lv_at hl 2 rfl) ?_
    refine W.lcmp hx hb dX12_in_9 ?_
    refine lv_if_gt (tgt := 17) hx hb dX12_in_10 (by decide) (fun c_10 => ?_) (fun c_10 => ?_)
    · refine lv_iconst (v := 0) hx hb dX12_in_17 (by decide) ?_
      exact zr_i hx hb hr hlocks hK hP hD hS (by decide) (by decide) dX12_in_18 rfl ⟨zin_2 c_3 c_10, rfl⟩
    · refine lv_iconst (v := 1) hx hb dX12_in_13 (by decide) ?_
      refine lv_goto (tgt := 18) hx hb dX12_in_14 (by decide) ?_
      exact zr_i hx hb hr hlocks hK hP hD hS (by decide) (by decide) dX12_in_18 rfl ⟨zin_3 c_3 c_10, rfl⟩
set_option maxRecDepth 100000 in
set_option maxHeartbeats 4000000 in
theorem k_X12_write_1 (l : Launch) (dC : Nat → ClassId) (dI : Nat → Nat → Nat) (cyI cyC : ClassId) (h0 : Nat) (v0 : Value) (v1 : Value) (v2 : Value) (v3 : Value) (v4 : Value) (v5 : Value) (v6 : Value) (v7 : Value) (v8 : Value) (v9 : Value) (v10 : Value) (v11 : Value) (v12 : Value) (v13 : Value) (v14 : Value) (v15 : Value) (v16 : Value) (v17 : Value) (v18 : Value) (v19 : Value) (v20 : Value) (v21 : Value) (v22 : Value) (v23 : Value) (v24 : Value) (v25 : Value) (v26 : Value) (v27 : Value) (v28 : Value) (v29 : Value) (v30 : Value) (v31 : Value) (v32 : Value) (v33 : Value) (v34 : Value) (v35 : Value) (v36 : Value) (v37 : Value) (v38 : Value) (v39 : Value) (v40 : Value) (v41 : Value) (v42 : Value) (v43 : Value) (v44 : Value) (p0 : Int32) : zM l (dC, dI) (zT cyI cyC) yX12_write cX12_write 3 (some .int) { frames := 2, cells := 0, slots := 0, locals := 128 } [.ref h0, .int p0] [(h0, .inr (9, [v0, v1, v2, v3, v4, v5, v6, v7, v8, v9, v10, v11, v12, v13, v14, v15, v16, v17, v18, v19, v20, v21, v22, v23, v24, v25, v26, v27, v28, .int 0, v29, v30, v31, v32, v33, v34, v35, v36, v37, v38, v39, v40, v41, v42, v43, v44]))] (zQi (dC, dI) (zT cyI cyC) (fun r w => r = zs_write p0 ∧ w = [])) := by
  refine zM.of (by decide +kernel) (Nat.le_of_ble_eq_true rfl) ?_
  intro p e s m below meth c hx hb hr hlocks hml hown hnm hts hK A hA H hP hD hS ls hl
  have hown : s.vm.findClass RX12 = some m.cls := hown
  have hl : lv_has ls 3 [(0, .ref h0), (1, .int p0)] := hl
  refine lv_iload_n hx hb dX12_write_0 rfl (lv_at hl 1 rfl) ?_
  refine lv_i2l hx hb dX12_write_1 rfl ?_
  refine lv_lconst (v := 0) hx hb dX12_write_2 (by decide) ?_
  refine lv_lconst (v := 1) hx hb dX12_write_3 (by decide) ?_
  refine zcSi (wr := [(h0, .inr (9, [v0, v1, v2, v3, v4, v5, v6, v7, v8, v9, v10, v11, v12, v13, v14, v15, v16, v17, v18, v19, v20, v21, v22, v23, v24, v25, v26, v27, v28, .int 0, v29, v30, v31, v32, v33, v34, v35, v36, v37, v38, v39, v40, v41, v42, v43, v44]))]) (rest := []) hx hb hml hown hts (k_X12_in_3 l dC dI cyI cyC p0.toInt64) zo_X12_in mw_165 mw_164 ⟨by decide, by decide⟩ hK hP hD hS hA [] [0] rfl rfl rfl rfl (by decide) hl.1 rfl rfl (Nat.le_of_ble_eq_true rfl) dX12_write_4 ⟨by decide, by decide⟩ (fun r_161 w1 H locs hw hP hD hS => ?_)
  obtain ⟨er_161, rfl⟩ := hw
  have hP : va_P (dC, dI) vwCl [(h0, .inr (9, [v0, v1, v2, v3, v4, v5, v6, v7, v8, v9, v10, v11, v12, v13, v14, v15, v16, v17, v18, v19, v20, v21, v22, v23, v24, v25, v26, v27, v28, .int 0, v29, v30, v31, v32, v33, v34, v35, v36, v37, v38, v39, v40, v41, v42, v43, v44]))] H := hP
  have hD : va_D A [(h0, .inr (9, [v0, v1, v2, v3, v4, v5, v6, v7, v8, v9, v10, v11, v12, v13, v14, v15, v16, v17, v18, v19, v20, v21, v22, v23, v24, v25, v26, v27, v28, .int 0, v29, v30, v31, v32, v33, v34, v35, v36, v37, v38, v39, v40, v41, v42, v43, v44]))] := hD
  refine lv_if_ne (tgt := 13) hx hb dX12_write_7 (by decide) (fun c_7 => ?_) (fun c_7 => ?_)
  · refine lv_aload_n hx hb dX12_write_13 rfl (lv_at hl 0 rfl) ?_
    refine va_get (D := (dC, dI)) (ci := 9) (v := .int 0) (C := RX12) (T := TX12) (N := 46) hx hb hts inlX12 hown hK hP 0 rfl rfl 29 (by decide) (hts _ mw_1021) (fun _ h9 => h9) rfl dX12_write_14 ?_
    refine lv_if_ne (tgt := 23) hx hb dX12_write_17 (by decide) (fun h9 => absurd (by decide) h9) (fun _ => ?_)
    refine lv_bipush (v := (-4)) hx hb dX12_write_20 (by decide) ?_
    exact zr_i hx hb hr hlocks hK znilP znilD hS (by decide) (by decide) dX12_write_22 rfl ⟨(by rw [zs_write, ← er_161, if_neg c_7]), rfl⟩
  · refine lv_bipush (v := (-2)) hx hb dX12_write_10 (by decide) ?_
    exact zr_i hx hb hr hlocks hK znilP znilD hS (by decide) (by decide) dX12_write_12 rfl ⟨(by rw [zs_write, ← er_161, if_pos c_7]), rfl⟩
set_option maxRecDepth 100000 in
set_option maxHeartbeats 4000000 in
theorem k_X11_digest_1 (l : Launch) (dC : Nat → ClassId) (dI : Nat → Nat → Nat) (cyI cyC : ClassId) (h0 : Nat) (h1 : Nat) (v0 : Value) (v1 : Value) (v2 : Value) (v3 : Value) (v4 : Value) (v5 : Value) (v6 : Value) (v7 : Value) (v8 : Value) (v9 : Value) (v10 : Value) (v11 : Value) (v12 : Value) (v13 : Value) : zM l (dC, dI) (zT cyI cyC) yX11_digest cX11_digest 6 (some .long) { frames := 2, cells := 0, slots := 0, locals := 128 } [.ref h0] [(h0, .inr (8, [v0, v1, v2, v3, v4, .ref h1, v5, v6, v7])), (h1, .inr (6, [v8, v9, v10, v11, v12, v13, .int 0]))] (zQl (dC, dI) (zT cyI cyC) (fun r w => r = 17 ∧ w = [])) := by
  refine zM.of (by decide +kernel) (Nat.le_of_ble_eq_true rfl) ?_
  intro p e s m below meth c hx hb hr hlocks hml hown hnm hts hK A hA H hP hD hS ls hl
  have hown : s.vm.findClass RX11 = some m.cls := hown
  have hl : lv_has ls 6 [(0, .ref h0)] := hl
  refine lv_ldc2 (v := 17) hx hb hown (hts _ mw_1304) dX11_digest_0 ?_
  refine lv_lstore_n (lv' := [(1, .long 17), (0, .ref h0)]) hx hb dX11_digest_3 rfl hl (by decide) rfl (fun ls hl => ?_)
  refine lv_iconst (v := 0) hx hb dX11_digest_4 (by decide) ?_
  refine lv_istore_n (lv' := [(3, .int 0), (1, .long 17), (0, .ref h0)]) hx hb dX11_digest_5 rfl hl (by decide) rfl (fun ls hl => ?_)
  refine lv_iload_n hx hb dX11_digest_6 rfl (lv_at hl 0 rfl) ?_
  refine lv_aload_n hx hb dX11_digest_7 rfl (lv_at hl 2 rfl) ?_
  refine va_get (D := (dC, dI)) (ci := 8) (v := .ref h1) (C := RX11) (T := TX11) (N := 9) hx hb hts inlX11 hown hK hP 0 rfl rfl 5 (by decide) (hts _ mw_28) (fun _ h9 => h9) rfl dX11_digest_8 ?_
  refine zcVi (wr := [(h0, .inr (8, [v0, v1, v2, v3, v4, .ref h1, v5, v6, v7]))]) (rest := [.int 0]) hx hb hml hown hts (k_X9_size_2 l dC dI cyI cyC h1 (v8) (v9) (v10) (v11) (v12) (v13)) zo_X9_size zv_X9_size mw_831 ⟨by decide, by decide⟩ hK hP hD hS hA [1] [0] rfl rfl rfl rfl (by decide) rfl rfl hl.1 rfl rfl (Nat.le_of_ble_eq_true rfl) dX11_digest_11 ⟨by decide, by decide⟩ (fun r_162 w1 H locs hw hP hD hS => ?_)
  obtain ⟨rfl, rfl⟩ := hw
  have hP : va_P (dC, dI) vwCl [(h0, .inr (8, [v0, v1, v2, v3, v4, .ref h1, v5, v6, v7])), (h1, .inr (6, [v8, v9, v10, v11, v12, v13, .int 0]))] H := hP
  have hD : va_D A [(h0, .inr (8, [v0, v1, v2, v3, v4, .ref h1, v5, v6, v7])), (h1, .inr (6, [v8, v9, v10, v11, v12, v13, .int 0]))] := hD
  refine lv_icmp_ge (tgt := 141) hx hb dX11_digest_14 (by decide) (fun _ => ?_) (fun h9 => absurd (by decide) h9)
  refine lv_lload_n hx hb dX11_digest_141 rfl (lv_at hl 1 rfl) ?_
  exact zr_l hx hb hr hlocks hK znilP znilD hS (by decide) (by decide) dX11_digest_142 ⟨rfl, rfl⟩
set_option maxRecDepth 100000 in
set_option maxHeartbeats 4000000 in
theorem k_X12_digest_1 (l : Launch) (dC : Nat → ClassId) (dI : Nat → Nat → Nat) (cyI cyC : ClassId) (h0 : Nat) (v0 : Value) (v1 : Value) (v2 : Value) (v3 : Value) (v4 : Value) (v5 : Value) (v6 : Value) (v7 : Value) (v8 : Value) (v9 : Value) (v10 : Value) (v11 : Value) (v12 : Value) (v13 : Value) (v14 : Value) (v15 : Value) (v16 : Value) (v17 : Value) (v18 : Value) (v19 : Value) (v20 : Value) (v21 : Value) (v22 : Value) (v23 : Value) (v24 : Value) (v25 : Value) (v26 : Value) (v27 : Value) (v28 : Value) (v29 : Value) (v30 : Value) (v31 : Value) (v32 : Value) (v33 : Value) (v34 : Value) (v35 : Value) (v36 : Value) (v37 : Value) (v38 : Value) (v39 : Value) (v40 : Value) (v41 : Value) (v42 : Value) (v43 : Value) (v44 : Value) : zM l (dC, dI) (zT cyI cyC) yX12_digest cX12_digest 5 (some .long) { frames := 1, cells := 0, slots := 0, locals := 64 } [.ref h0] [(h0, .inr (9, [v0, v1, v2, v3, v4, v5, v6, v7, v8, v9, v10, v11, v12, v13, v14, v15, v16, v17, v18, v19, v20, v21, v22, v23, v24, v25, v26, v27, v28, .int 0, v29, v30, v31, v32, v33, v34, v35, v36, v37, v38, v39, v40, v41, v42, v43, v44]))] (zQl (dC, dI) (zT cyI cyC) (fun r w => r = 17 ∧ w = [])) := by
  refine zM.of (by decide +kernel) (Nat.le_of_ble_eq_true rfl) ?_
  intro p e s m below meth c hx hb hr hlocks hml hown hnm hts hK A hA H hP hD hS ls hl
  have hown : s.vm.findClass RX12 = some m.cls := hown
  have hl : lv_has ls 5 [(0, .ref h0)] := hl
  refine lv_ldc2 (v := 17) hx hb hown (hts _ mw_1310) dX12_digest_0 ?_
  refine lv_lstore_n (lv' := [(1, .long 17), (0, .ref h0)]) hx hb dX12_digest_3 rfl hl (by decide) rfl (fun ls hl => ?_)
  refine lv_iconst (v := 0) hx hb dX12_digest_4 (by decide) ?_
  refine lv_istore_n (lv' := [(3, .int 0), (1, .long 17), (0, .ref h0)]) hx hb dX12_digest_5 rfl hl (by decide) rfl (fun ls hl => ?_)
  refine lv_aload_n hx hb dX12_digest_6 rfl (lv_at hl 2 rfl) ?_
  refine va_get (D := (dC, dI)) (ci := 9) (v := .int 0) (C := RX12) (T := TX12) (N := 46) hx hb hts inlX12 hown hK hP 0 rfl rfl 29 (by decide) (hts _ mw_1021) (fun _ h9 => h9) rfl dX12_digest_7 ?_
  refine lv_if_eq (tgt := 97) hx hb dX12_digest_10 (by decide) (fun _ => ?_) (fun h9 => absurd (by decide) h9)
  refine lv_lload_n hx hb dX12_digest_97 rfl (lv_at hl 1 rfl) ?_
  exact zr_l hx hb hr hlocks hK znilP znilD hS (by decide) (by decide) dX12_digest_98 ⟨rfl, rfl⟩
