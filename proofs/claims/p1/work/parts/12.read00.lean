set_option maxRecDepth 100000 in
set_option maxHeartbeats 4000000 in
theorem k_X1_empty_1 (l : Launch) (dC : Nat → ClassId) (dI : Nat → Nat → Nat) (cyI cyC : ClassId) (h0 : Nat) (v0 : Value) (v1 : Value) (v2 : Value) (v3 : Value) (v4 : Value) (v5 : Value) (v6 : Value) (v7 : Value) (v8 : Value) : zM l (dC, dI) (zT cyI cyC) yX1_empty cX1_empty 1 none { frames := 1, cells := 0, slots := 0, locals := 64 } [.ref h0] [(h0, .inr (0, [v0, v1, v2, v3, v4, v5, v6, v7, v8]))] (zQv (dC, dI) (zT cyI cyC) (fun w => w = [(h0, .inr (0, [v0, v1, v2, .int 0, v4, v5, v6, v7, v8]))])) := by
  refine zM.of (by decide +kernel) (Nat.le_of_ble_eq_true rfl) ?_
  intro p e s m below meth c hx hb hr hlocks hml hown hnm hts hK A hA H hP hD hS ls hl
  have hown : s.vm.findClass RX1 = some m.cls := hown
  have hl : lv_has ls 1 [(0, .ref h0)] := hl
  refine lv_aload_n hx hb dX1_empty_0 rfl (lv_at hl 0 rfl) ?_
  refine lv_iconst (v := 0) hx hb dX1_empty_1 (by decide) ?_
  refine va_put (D := (dC, dI)) (ci := 0) (v := .int 0) (ty := .int) (C := RX1) (T := TX1) (N := 9) hx hb hts inlX1 tyX1 tyX1_ok nmX1 hown hK hP hD hS 0 rfl rfl 3 (by decide) (hts _ mw_222) (fun _ h9 => h9) rfl (by decide +kernel) rfl rfl (Nat.le_of_ble_eq_true rfl) dX1_empty_2 (fun H locs hP hD hS => ?_)
  have hP : va_P (dC, dI) vwCl [(h0, .inr (0, [v0, v1, v2, .int 0, v4, v5, v6, v7, v8]))] H := hP
  have hD : va_D A [(h0, .inr (0, [v0, v1, v2, .int 0, v4, v5, v6, v7, v8]))] := hD
  exact zr_v hx hb hr hlocks hK hP hD hS (by decide) (by decide) dX1_empty_5 rfl
set_option maxRecDepth 100000 in
set_option maxHeartbeats 4000000 in
theorem k_X8_length_1 (l : Launch) (dC : Nat → ClassId) (dI : Nat → Nat → Nat) (cyI cyC : ClassId) (h0 : Nat) (v0 : Value) : zM l (dC, dI) (zT cyI cyC) yX8_length cX8_length 1 (some .int) { frames := 1, cells := 0, slots := 0, locals := 64 } [.ref h0] [(h0, .inr (5, [v0, .int 0]))] (zQi (dC, dI) (zT cyI cyC) (fun r w => r = 0 ∧ w = [(h0, .inr (5, [v0, .int 0]))])) := by
  refine zM.of (by decide +kernel) (Nat.le_of_ble_eq_true rfl) ?_
  intro p e s m below meth c hx hb hr hlocks hml hown hnm hts hK A hA H hP hD hS ls hl
  have hown : s.vm.findClass RX8 = some m.cls := hown
  have hl : lv_has ls 1 [(0, .ref h0)] := hl
  refine lv_aload_n hx hb dX8_length_0 rfl (lv_at hl 0 rfl) ?_
  refine va_get (D := (dC, dI)) (ci := 5) (v := .int 0) (C := RX8) (T := TX8) (N := 2) hx hb hts inlX8 hown hK hP 0 rfl rfl 1 (by decide) (hts _ mw_148) (fun _ h9 => h9) rfl dX8_length_1 ?_
  exact zr_i hx hb hr hlocks hK hP hD hS (by decide) (by decide) dX8_length_4 rfl ⟨rfl, rfl⟩
set_option maxRecDepth 100000 in
set_option maxHeartbeats 4000000 in
theorem k_X3_isBlockDue_1 (l : Launch) (dC : Nat → ClassId) (dI : Nat → Nat → Nat) (cyI cyC : ClassId) (h0 : Nat) (v0 : Value) (v1 : Value) (v2 : Value) (v3 : Value) (v4 : Value) (v5 : Value) (v6 : Value) (v7 : Value) (v8 : Value) (v9 : Value) (v10 : Value) (v11 : Value) (v12 : Value) : zM l (dC, dI) (zT cyI cyC) yX3_isBlockDue cX3_isBlockDue 1 (some .boolean) { frames := 1, cells := 0, slots := 0, locals := 64 } [.ref h0] [(h0, .inr (1, [v0, v1, v2, v3, v4, v5, v6, .int 0, v7, v8, v9, v10, v11, v12]))] (zQi (dC, dI) (zT cyI cyC) (fun r w => r = 1 ∧ w = [(h0, .inr (1, [v0, v1, v2, v3, v4, v5, v6, .int 0, v7, v8, v9, v10, v11, v12]))])) := by
  refine zM.of (by decide +kernel) (Nat.le_of_ble_eq_true rfl) ?_
  intro p e s m below meth c hx hb hr hlocks hml hown hnm hts hK A hA H hP hD hS ls hl
  have hown : s.vm.findClass RX3 = some m.cls := hown
  have hl : lv_has ls 1 [(0, .ref h0)] := hl
  refine lv_aload_n hx hb dX3_isBlockDue_0 rfl (lv_at hl 0 rfl) ?_
  refine va_get (D := (dC, dI)) (ci := 1) (v := .int 0) (C := RX3) (T := TX3) (N := 14) hx hb hts inlX3 hown hK hP 0 rfl rfl 7 (by decide) (hts _ mw_227) (fun _ h9 => h9) rfl dX3_isBlockDue_1 ?_
  refine lv_if_eq (tgt := 23) hx hb dX3_isBlockDue_4 (by decide) (fun _ => ?_) (fun h9 => absurd (by decide) h9)
  refine lv_iconst (v := 1) hx hb dX3_isBlockDue_23 (by decide) ?_
  refine lv_goto (tgt := 28) hx hb dX3_isBlockDue_24 (by decide) ?_
  exact zr_i hx hb hr hlocks hK hP hD hS (by decide) (by decide) dX3_isBlockDue_28 rfl ⟨rfl, rfl⟩
set_option maxRecDepth 100000 in
set_option maxHeartbeats 4000000 in
theorem k_X3_scan_1 (l : Launch) (dC : Nat → ClassId) (dI : Nat → Nat → Nat) (cyI cyC : ClassId) (h0 : Nat) (h1 : Nat) (v0 : Value) (v1 : Value) (v2 : Value) (v3 : Value) (v4 : Value) (v5 : Value) (v6 : Value) (v7 : Value) (v8 : Value) (v9 : Value) (v10 : Value) (v11 : Value) (v12 : Value) (v13 : Value) : zM l (dC, dI) (zT cyI cyC) yX3_scan cX3_scan 3 none { frames := 2, cells := 0, slots := 0, locals := 128 } [.ref h0] [(h0, .inr (1, [.ref h1, v0, v1, v2, v3, v4, v5, v6, v7, v8, v9, v10, v11, v12])), (h1, .inr (5, [v13, .int 0]))] (zQv (dC, dI) (zT cyI cyC) (fun w => w = [(h1, .inr (5, [v13, .int 0])), (h0, .inr (1, [.ref h1, v0, v1, v2, v3, v4, v5, .int 0, .int 0, .int 0, .int 0, .int 0, .int 0, .int 0]))])) := by
  refine zM.of (by decide +kernel) (Nat.le_of_ble_eq_true rfl) ?_
  intro p e s m below meth c hx hb hr hlocks hml hown hnm hts hK A hA H hP hD hS ls hl
  have hown : s.vm.findClass RX3 = some m.cls := hown
  have hl : lv_has ls 3 [(0, .ref h0)] := hl
  refine lv_aload_n hx hb dX3_scan_0 rfl (lv_at hl 0 rfl) ?_
  refine lv_iconst (v := 0) hx hb dX3_scan_1 (by decide) ?_
  refine va_put (D := (dC, dI)) (ci := 1) (v := .int 0) (ty := .int) (C := RX3) (T := TX3) (N := 14) hx hb hts inlX3 tyX3 tyX3_ok nmX3 hown hK hP hD hS 0 rfl rfl 7 (by decide) (hts _ mw_227) (fun _ h9 => h9) rfl (by decide +kernel) rfl rfl (Nat.le_of_ble_eq_true rfl) dX3_scan_2 (fun H locs hP hD hS => ?_)
  have hP : va_P (dC, dI) vwCl [(h0, .inr (1, [.ref h1, v0, v1, v2, v3, v4, v5, .int 0, v7, v8, v9, v10, v11, v12])), (h1, .inr (5, [v13, .int 0]))] H := hP
  have hD : va_D A [(h0, .inr (1, [.ref h1, v0, v1, v2, v3, v4, v5, .int 0, v7, v8, v9, v10, v11, v12])), (h1, .inr (5, [v13, .int 0]))] := hD
  refine lv_aload_n hx hb dX3_scan_5 rfl (lv_at hl 0 rfl) ?_
  refine lv_iconst (v := 0) hx hb dX3_scan_6 (by decide) ?_
  refine va_put (D := (dC, dI)) (ci := 1) (v := .int 0) (ty := .int) (C := RX3) (T := TX3) (N := 14) hx hb hts inlX3 tyX3 tyX3_ok nmX3 hown hK hP hD hS 0 rfl rfl 8 (by decide) (hts _ mw_228) (fun _ h9 => h9) rfl (by decide +kernel) rfl rfl (Nat.le_of_ble_eq_true rfl) dX3_scan_7 (fun H locs hP hD hS => ?_)
  have hP : va_P (dC, dI) vwCl [(h0, .inr (1, [.ref h1, v0, v1, v2, v3, v4, v5, .int 0, .int 0, v8, v9, v10, v11, v12])), (h1, .inr (5, [v13, .int 0]))] H := hP
  have hD : va_D A [(h0, .inr (1, [.ref h1, v0, v1, v2, v3, v4, v5, .int 0, .int 0, v8, v9, v10, v11, v12])), (h1, .inr (5, [v13, .int 0]))] := hD
  refine lv_aload_n hx hb dX3_scan_10 rfl (lv_at hl 0 rfl) ?_
  refine lv_iconst (v := 0) hx hb dX3_scan_11 (by decide) ?_
  refine va_put (D := (dC, dI)) (ci := 1) (v := .int 0) (ty := .int) (C := RX3) (T := TX3) (N := 14) hx hb hts inlX3 tyX3 tyX3_ok nmX3 hown hK hP hD hS 0 rfl rfl 9 (by decide) (hts _ mw_229) (fun _ h9 => h9) rfl (by decide +kernel) rfl rfl (Nat.le_of_ble_eq_true rfl) dX3_scan_12 (fun H locs hP hD hS => ?_)
  have hP : va_P (dC, dI) vwCl [(h0, .inr (1, [.ref h1, v0, v1, v2, v3, v4, v5, .int 0, .int 0, .int 0, v9, v10, v11, v12])), (h1, .inr (5, [v13, .int 0]))] H := hP
  have hD : va_D A [(h0, .inr (1, [.ref h1, v0, v1, v2, v3, v4, v5, .int 0, .int 0, .int 0, v9, v10, v11, v12])), (h1, .inr (5, [v13, .int 0]))] := hD
  refine lv_aload_n hx hb dX3_scan_15 rfl (lv_at hl 0 rfl) ?_
  refine lv_iconst (v := 0) hx hb dX3_scan_16 (by decide) ?_
  refine va_put (D := (dC, dI)) (ci := 1) (v := .int 0) (ty := .int) (C := RX3) (T := TX3) (N := 14) hx hb hts inlX3 tyX3 tyX3_ok nmX3 hown hK hP hD hS 0 rfl rfl 11 (by decide) (hts _ mw_230) (fun _ h9 => h9) rfl (by decide +kernel) rfl rfl (Nat.le_of_ble_eq_true rfl) dX3_scan_17 (fun H locs hP hD hS => ?_)
  have hP : va_P (dC, dI) vwCl [(h0, .inr (1, [.ref h1, v0, v1, v2, v3, v4, v5, .int 0, .int 0, .int 0, v9, .int 0, v11, v12])), (h1, .inr (5, [v13, .int 0]))] H := hP
  have hD : va_D A [(h0, .inr (1, [.ref h1, v0, v1, v2, v3, v4, v5, .int 0, .int 0, .int 0, v9, .int 0, v11, v12])), (h1, .inr (5, [v13, .int 0]))] := hD
  refine lv_aload_n hx hb dX3_scan_20 rfl (lv_at hl 0 rfl) ?_
  refine lv_iconst (v := 0) hx hb dX3_scan_21 (by decide) ?_
  refine va_put (D := (dC, dI)) (ci := 1) (v := .int 0) (ty := .int) (C := RX3) (T := TX3) (N := 14) hx hb hts inlX3 tyX3 tyX3_ok nmX3 hown hK hP hD hS 0 rfl rfl 12 (by decide) (hts _ mw_231) (fun _ h9 => h9) rfl (by decide +kernel) rfl rfl (Nat.le_of_ble_eq_true rfl) dX3_scan_22 (fun H locs hP hD hS => ?_)
  have hP : va_P (dC, dI) vwCl [(h0, .inr (1, [.ref h1, v0, v1, v2, v3, v4, v5, .int 0, .int 0, .int 0, v9, .int 0, .int 0, v12])), (h1, .inr (5, [v13, .int 0]))] H := hP
  have hD : va_D A [(h0, .inr (1, [.ref h1, v0, v1, v2, v3, v4, v5, .int 0, .int 0, .int 0, v9, .int 0, .int 0, v12])), (h1, .inr (5, [v13, .int 0]))] := hD
  refine lv_aload_n hx hb dX3_scan_25 rfl (lv_at hl 0 rfl) ?_
  refine lv_iconst (v := 0) hx hb dX3_scan_26 (by decide) ?_
  refine va_put (D := (dC, dI)) (ci := 1) (v := .int 0) (ty := .boolean) (C := RX3) (T := TX3) (N := 14) hx hb hts inlX3 tyX3 tyX3_ok nmX3 hown hK hP hD hS 0 rfl rfl 13 (by decide) (hts _ mw_232) (fun _ h9 => h9) rfl (by decide +kernel) rfl rfl (Nat.le_of_ble_eq_true rfl) dX3_scan_27 (fun H locs hP hD hS => ?_)
  have hP : va_P (dC, dI) vwCl [(h0, .inr (1, [.ref h1, v0, v1, v2, v3, v4, v5, .int 0, .int 0, .int 0, v9, .int 0, .int 0, .int 0])), (h1, .inr (5, [v13, .int 0]))] H := hP
  have hD : va_D A [(h0, .inr (1, [.ref h1, v0, v1, v2, v3, v4, v5, .int 0, .int 0, .int 0, v9, .int 0, .int 0, .int 0])), (h1, .inr (5, [v13, .int 0]))] := hD
  refine lv_aload_n hx hb dX3_scan_30 rfl (lv_at hl 0 rfl) ?_
  refine va_get (D := (dC, dI)) (ci := 1) (v := .ref h1) (C := RX3) (T := TX3) (N := 14) hx hb hts inlX3 hown hK hP 0 rfl rfl 0 (by decide) (hts _ mw_48) (fun _ h9 => h9) rfl dX3_scan_31 ?_
  refine zcVi (wr := [(h0, .inr (1, [.ref h1, v0, v1, v2, v3, v4, v5, .int 0, .int 0, .int 0, v9, .int 0, .int 0, .int 0]))]) (rest := []) hx hb hml hown hts (k_X8_length_1 l dC dI cyI cyC h1 (v13)) zo_X8_length zv_X8_length mw_234 ⟨by decide, by decide⟩ hK hP hD hS hA [1] [0] rfl rfl rfl rfl (by decide) rfl rfl hl.1 rfl rfl (Nat.le_of_ble_eq_true rfl) dX3_scan_34 ⟨by decide, by decide⟩ (fun r_95 w1 H locs hw hP hD hS => ?_)
  obtain ⟨rfl, rfl⟩ := hw
  have hP : va_P (dC, dI) vwCl [(h0, .inr (1, [.ref h1, v0, v1, v2, v3, v4, v5, .int 0, .int 0, .int 0, v9, .int 0, .int 0, .int 0])), (h1, .inr (5, [v13, .int 0]))] H := hP
  have hD : va_D A [(h0, .inr (1, [.ref h1, v0, v1, v2, v3, v4, v5, .int 0, .int 0, .int 0, v9, .int 0, .int 0, .int 0])), (h1, .inr (5, [v13, .int 0]))] := hD
  refine lv_istore_n (lv' := [(1, .int 0), (0, .ref h0)]) hx hb dX3_scan_37 rfl hl (by decide) rfl (fun ls hl => ?_)
  refine lv_iconst (v := 0) hx hb dX3_scan_38 (by decide) ?_
  refine lv_istore_n (lv' := [(2, .int 0), (1, .int 0), (0, .ref h0)]) hx hb dX3_scan_39 rfl hl (by decide) rfl (fun ls hl => ?_)
  refine lv_iload_n hx hb dX3_scan_40 rfl (lv_at hl 0 rfl) ?_
  refine lv_iload_n hx hb dX3_scan_41 rfl (lv_at hl 1 rfl) ?_
  refine lv_icmp_ge (tgt := 81) hx hb dX3_scan_42 (by decide) (fun _ => ?_) (fun h9 => absurd (by decide) h9)
  refine lv_aload_n hx hb dX3_scan_81 rfl (lv_at hl 2 rfl) ?_
  refine lv_aload_n hx hb dX3_scan_82 rfl (lv_at hl 2 rfl) ?_
  refine zcVi (wr := [(h1, .inr (5, [v13, .int 0]))]) (rest := [.ref h0]) hx hb hml hown hts (k_X3_isBlockDue_1 l dC dI cyI cyC h0 (.ref h1) (v0) (v1) (v2) (v3) (v4) (v5) (.int 0) (.int 0) (v9) (.int 0) (.int 0) (.int 0)) zo_X3_isBlockDue zv_X3_isBlockDue mw_405 ⟨by decide, by decide⟩ hK hP hD hS hA [0] [1] rfl rfl rfl rfl (by decide) rfl rfl hl.1 rfl rfl (Nat.le_of_ble_eq_true rfl) dX3_scan_83 ⟨by decide, by decide⟩ (fun r_96 w1 H locs hw hP hD hS => ?_)
  obtain ⟨rfl, rfl⟩ := hw
  have hP : va_P (dC, dI) vwCl [(h1, .inr (5, [v13, .int 0])), (h0, .inr (1, [.ref h1, v0, v1, v2, v3, v4, v5, .int 0, .int 0, .int 0, v9, .int 0, .int 0, .int 0]))] H := hP
  have hD : va_D A [(h1, .inr (5, [v13, .int 0])), (h0, .inr (1, [.ref h1, v0, v1, v2, v3, v4, v5, .int 0, .int 0, .int 0, v9, .int 0, .int 0, .int 0]))] := hD
  refine lv_if_eq (tgt := 93) hx hb dX3_scan_86 (by decide) (fun h9 => absurd h9 (by decide)) (fun _ => ?_)
  refine lv_iconst (v := 0) hx hb dX3_scan_89 (by decide) ?_
  refine lv_goto (tgt := 94) hx hb dX3_scan_90 (by decide) ?_
  refine va_put (D := (dC, dI)) (ci := 1) (v := .int 0) (ty := .int) (C := RX3) (T := TX3) (N := 14) hx hb hts inlX3 tyX3 tyX3_ok nmX3 hown hK hP hD hS 1 rfl rfl 10 (by decide) (hts _ mw_233) (fun _ h9 => h9) rfl (by decide +kernel) rfl rfl (Nat.le_of_ble_eq_true rfl) dX3_scan_94 (fun H locs hP hD hS => ?_)
  have hP : va_P (dC, dI) vwCl [(h1, .inr (5, [v13, .int 0])), (h0, .inr (1, [.ref h1, v0, v1, v2, v3, v4, v5, .int 0, .int 0, .int 0, .int 0, .int 0, .int 0, .int 0]))] H := hP
  have hD : va_D A [(h1, .inr (5, [v13, .int 0])), (h0, .inr (1, [.ref h1, v0, v1, v2, v3, v4, v5, .int 0, .int 0, .int 0, .int 0, .int 0, .int 0, .int 0]))] := hD
  exact zr_v hx hb hr hlocks hK hP hD hS (by decide) (by decide) dX3_scan_97 rfl
set_option maxRecDepth 100000 in
set_option maxHeartbeats 4000000 in
theorem k_X3_faultNumber_1 (l : Launch) (dC : Nat → ClassId) (dI : Nat → Nat → Nat) (cyI cyC : ClassId) (h0 : Nat) (v0 : Value) (v1 : Value) (v2 : Value) (v3 : Value) (v4 : Value) (v5 : Value) (v6 : Value) (v7 : Value) (v8 : Value) (v9 : Value) (v10 : Value) (v11 : Value) (v12 : Value) : zM l (dC, dI) (zT cyI cyC) yX3_faultNumber cX3_faultNumber 1 (some .int) { frames := 1, cells := 0, slots := 0, locals := 64 } [.ref h0] [(h0, .inr (1, [v0, v1, v2, v3, v4, v5, v6, v7, .int 0, v8, v9, v10, v11, v12]))] (zQi (dC, dI) (zT cyI cyC) (fun r w => r = 0 ∧ w = [(h0, .inr (1, [v0, v1, v2, v3, v4, v5, v6, v7, .int 0, v8, v9, v10, v11, v12]))])) := by
  refine zM.of (by decide +kernel) (Nat.le_of_ble_eq_true rfl) ?_
  intro p e s m below meth c hx hb hr hlocks hml hown hnm hts hK A hA H hP hD hS ls hl
  have hown : s.vm.findClass RX3 = some m.cls := hown
  have hl : lv_has ls 1 [(0, .ref h0)] := hl
  refine lv_aload_n hx hb dX3_faultNumber_0 rfl (lv_at hl 0 rfl) ?_
  refine va_get (D := (dC, dI)) (ci := 1) (v := .int 0) (C := RX3) (T := TX3) (N := 14) hx hb hts inlX3 hown hK hP 0 rfl rfl 8 (by decide) (hts _ mw_228) (fun _ h9 => h9) rfl dX3_faultNumber_1 ?_
  exact zr_i hx hb hr hlocks hK hP hD hS (by decide) (by decide) dX3_faultNumber_4 rfl ⟨rfl, rfl⟩
set_option maxRecDepth 100000 in
set_option maxHeartbeats 4000000 in
theorem k_X9_empty_1 (l : Launch) (dC : Nat → ClassId) (dI : Nat → Nat → Nat) (cyI cyC : ClassId) (h0 : Nat) (v0 : Value) (v1 : Value) (v2 : Value) (v3 : Value) (v4 : Value) (v5 : Value) (v6 : Value) : zM l (dC, dI) (zT cyI cyC) yX9_empty cX9_empty 1 none { frames := 1, cells := 0, slots := 0, locals := 64 } [.ref h0] [(h0, .inr (6, [v0, v1, v2, v3, v4, v5, v6]))] (zQv (dC, dI) (zT cyI cyC) (fun w => w = [(h0, .inr (6, [v0, v1, v2, v3, v4, v5, .int 0]))])) := by
  refine zM.of (by decide +kernel) (Nat.le_of_ble_eq_true rfl) ?_
  intro p e s m below meth c hx hb hr hlocks hml hown hnm hts hK A hA H hP hD hS ls hl
  have hown : s.vm.findClass RX9 = some m.cls := hown
  have hl : lv_has ls 1 [(0, .ref h0)] := hl
  refine lv_aload_n hx hb dX9_empty_0 rfl (lv_at hl 0 rfl) ?_
  refine lv_iconst (v := 0) hx hb dX9_empty_1 (by decide) ?_
  refine va_put (D := (dC, dI)) (ci := 6) (v := .int 0) (ty := .int) (C := RX9) (T := TX9) (N := 7) hx hb hts inlX9 tyX9 tyX9_ok nmX9 hown hK hP hD hS 0 rfl rfl 6 (by decide) (hts _ mw_451) (fun _ h9 => h9) rfl (by decide +kernel) rfl rfl (Nat.le_of_ble_eq_true rfl) dX9_empty_2 (fun H locs hP hD hS => ?_)
  have hP : va_P (dC, dI) vwCl [(h0, .inr (6, [v0, v1, v2, v3, v4, v5, .int 0]))] H := hP
  have hD : va_D A [(h0, .inr (6, [v0, v1, v2, v3, v4, v5, .int 0]))] := hD
  exact zr_v hx hb hr hlocks hK hP hD hS (by decide) (by decide) dX9_empty_5 rfl
set_option maxRecDepth 100000 in
set_option maxHeartbeats 4000000 in
theorem k_X4_empty_1 (l : Launch) (dC : Nat → ClassId) (dI : Nat → Nat → Nat) (cyI cyC : ClassId) (h0 : Nat) (v0 : Value) (v1 : Value) (v2 : Value) (v3 : Value) (v4 : Value) (v5 : Value) (v6 : Value) : zM l (dC, dI) (zT cyI cyC) yX4_empty cX4_empty 1 none { frames := 1, cells := 0, slots := 0, locals := 64 } [.ref h0] [(h0, .inr (2, [v0, v1, v2, v3, v4, v5, v6]))] (zQv (dC, dI) (zT cyI cyC) (fun w => w = [(h0, .inr (2, [v0, v1, v2, v3, .int 0, .int 0, .int 0]))])) := by
  refine zM.of (by decide +kernel) (Nat.le_of_ble_eq_true rfl) ?_
  intro p e s m below meth c hx hb hr hlocks hml hown hnm hts hK A hA H hP hD hS ls hl
  have hown : s.vm.findClass RX4 = some m.cls := hown
  have hl : lv_has ls 1 [(0, .ref h0)] := hl
  refine lv_aload_n hx hb dX4_empty_0 rfl (lv_at hl 0 rfl) ?_
  refine lv_iconst (v := 0) hx hb dX4_empty_1 (by decide) ?_
  refine va_put (D := (dC, dI)) (ci := 2) (v := .int 0) (ty := .int) (C := RX4) (T := TX4) (N := 7) hx hb hts inlX4 tyX4 tyX4_ok nmX4 hown hK hP hD hS 0 rfl rfl 4 (by decide) (hts _ mw_456) (fun _ h9 => h9) rfl (by decide +kernel) rfl rfl (Nat.le_of_ble_eq_true rfl) dX4_empty_2 (fun H locs hP hD hS => ?_)
  have hP : va_P (dC, dI) vwCl [(h0, .inr (2, [v0, v1, v2, v3, .int 0, v5, v6]))] H := hP
  have hD : va_D A [(h0, .inr (2, [v0, v1, v2, v3, .int 0, v5, v6]))] := hD
  refine lv_aload_n hx hb dX4_empty_5 rfl (lv_at hl 0 rfl) ?_
  refine lv_iconst (v := 0) hx hb dX4_empty_6 (by decide) ?_
  refine va_put (D := (dC, dI)) (ci := 2) (v := .int 0) (ty := .int) (C := RX4) (T := TX4) (N := 7) hx hb hts inlX4 tyX4 tyX4_ok nmX4 hown hK hP hD hS 0 rfl rfl 5 (by decide) (hts _ mw_457) (fun _ h9 => h9) rfl (by decide +kernel) rfl rfl (Nat.le_of_ble_eq_true rfl) dX4_empty_7 (fun H locs hP hD hS => ?_)
  have hP : va_P (dC, dI) vwCl [(h0, .inr (2, [v0, v1, v2, v3, .int 0, .int 0, v6]))] H := hP
  have hD : va_D A [(h0, .inr (2, [v0, v1, v2, v3, .int 0, .int 0, v6]))] := hD
  refine lv_aload_n hx hb dX4_empty_10 rfl (lv_at hl 0 rfl) ?_
  refine lv_iconst (v := 0) hx hb dX4_empty_11 (by decide) ?_
  refine va_put (D := (dC, dI)) (ci := 2) (v := .int 0) (ty := .int) (C := RX4) (T := TX4) (N := 7) hx hb hts inlX4 tyX4 tyX4_ok nmX4 hown hK hP hD hS 0 rfl rfl 6 (by decide) (hts _ mw_458) (fun _ h9 => h9) rfl (by decide +kernel) rfl rfl (Nat.le_of_ble_eq_true rfl) dX4_empty_12 (fun H locs hP hD hS => ?_)
  have hP : va_P (dC, dI) vwCl [(h0, .inr (2, [v0, v1, v2, v3, .int 0, .int 0, .int 0]))] H := hP
  have hD : va_D A [(h0, .inr (2, [v0, v1, v2, v3, .int 0, .int 0, .int 0]))] := hD
  exact zr_v hx hb hr hlocks hK hP hD hS (by decide) (by decide) dX4_empty_15 rfl
set_option maxRecDepth 100000 in
set_option maxHeartbeats 4000000 in
theorem k_X6_empty_1 (l : Launch) (dC : Nat → ClassId) (dI : Nat → Nat → Nat) (cyI cyC : ClassId) (h0 : Nat) (v0 : Value) (v1 : Value) (v2 : Value) : zM l (dC, dI) (zT cyI cyC) yX6_empty cX6_empty 1 none { frames := 1, cells := 0, slots := 0, locals := 64 } [.ref h0] [(h0, .inr (4, [v0, v1, v2]))] (zQv (dC, dI) (zT cyI cyC) (fun w => w = [(h0, .inr (4, [v0, v1, .int 0]))])) := by
  refine zM.of (by decide +kernel) (Nat.le_of_ble_eq_true rfl) ?_
  intro p e s m below meth c hx hb hr hlocks hml hown hnm hts hK A hA H hP hD hS ls hl
  have hown : s.vm.findClass RX6 = some m.cls := hown
  have hl : lv_has ls 1 [(0, .ref h0)] := hl
  refine lv_aload_n hx hb dX6_empty_0 rfl (lv_at hl 0 rfl) ?_
  refine lv_iconst (v := 0) hx hb dX6_empty_1 (by decide) ?_
  refine va_put (D := (dC, dI)) (ci := 4) (v := .int 0) (ty := .int) (C := RX6) (T := TX6) (N := 3) hx hb hts inlX6 tyX6 tyX6_ok nmX6 hown hK hP hD hS 0 rfl rfl 2 (by decide) (hts _ mw_463) (fun _ h9 => h9) rfl (by decide +kernel) rfl rfl (Nat.le_of_ble_eq_true rfl) dX6_empty_2 (fun H locs hP hD hS => ?_)
  have hP : va_P (dC, dI) vwCl [(h0, .inr (4, [v0, v1, .int 0]))] H := hP
  have hD : va_D A [(h0, .inr (4, [v0, v1, .int 0]))] := hD
  exact zr_v hx hb hr hlocks hK hP hD hS (by decide) (by decide) dX6_empty_5 rfl
set_option maxRecDepth 100000 in
set_option maxHeartbeats 4000000 in
theorem k_X3_openingOf_1 (l : Launch) (dC : Nat → ClassId) (dI : Nat → Nat → Nat) (cyI cyC : ClassId) (h0 : Nat) (v0 : Value) (v1 : Value) (v2 : Value) (v3 : Value) (v4 : Value) (v5 : Value) (v6 : Value) (v7 : Value) (v8 : Value) (v9 : Value) (v10 : Value) (v11 : Value) : zM l (dC, dI) (zT cyI cyC) yX3_openingOf cX3_openingOf 2 (some .int) { frames := 1, cells := 0, slots := 0, locals := 64 } [.ref h0, .int 0] [(h0, .inr (1, [v0, v1, v2, v3, v4, v5, v6, .int 0, v7, v8, .int 0, v9, v10, v11]))] (zQi (dC, dI) (zT cyI cyC) (fun r w => r = 0 ∧ w = [(h0, .inr (1, [v0, v1, v2, v3, v4, v5, v6, .int 0, v7, v8, .int 0, v9, v10, v11]))])) := by
  refine zM.of (by decide +kernel) (Nat.le_of_ble_eq_true rfl) ?_
  intro p e s m below meth c hx hb hr hlocks hml hown hnm hts hK A hA H hP hD hS ls hl
  have hown : s.vm.findClass RX3 = some m.cls := hown
  have hl : lv_has ls 2 [(0, .ref h0), (1, .int 0)] := hl
  refine lv_iload_n hx hb dX3_openingOf_0 rfl (lv_at hl 1 rfl) ?_
  refine lv_if_lt (tgt := 21) hx hb dX3_openingOf_1 (by decide) (fun h9 => absurd h9 (by decide)) (fun _ => ?_)
  refine lv_iload_n hx hb dX3_openingOf_4 rfl (lv_at hl 1 rfl) ?_
  refine lv_aload_n hx hb dX3_openingOf_5 rfl (lv_at hl 0 rfl) ?_
  refine va_get (D := (dC, dI)) (ci := 1) (v := .int 0) (C := RX3) (T := TX3) (N := 14) hx hb hts inlX3 hown hK hP 0 rfl rfl 7 (by decide) (hts _ mw_227) (fun _ h9 => h9) rfl dX3_openingOf_6 ?_
  refine lv_icmp_ge (tgt := 21) hx hb dX3_openingOf_9 (by decide) (fun _ => ?_) (fun h9 => absurd (by decide) h9)
  refine lv_aload_n hx hb dX3_openingOf_21 rfl (lv_at hl 0 rfl) ?_
  refine va_get (D := (dC, dI)) (ci := 1) (v := .int 0) (C := RX3) (T := TX3) (N := 14) hx hb hts inlX3 hown hK hP 0 rfl rfl 10 (by decide) (hts _ mw_233) (fun _ h9 => h9) rfl dX3_openingOf_22 ?_
  exact zr_i hx hb hr hlocks hK hP hD hS (by decide) (by decide) dX3_openingOf_25 rfl ⟨rfl, rfl⟩
set_option maxRecDepth 100000 in
set_option maxHeartbeats 4000000 in
theorem k_X3_indentOf_1 (l : Launch) (dC : Nat → ClassId) (dI : Nat → Nat → Nat) (cyI cyC : ClassId) (h0 : Nat) (v0 : Value) (v1 : Value) (v2 : Value) (v3 : Value) (v4 : Value) (v5 : Value) (v6 : Value) (v7 : Value) (v8 : Value) (v9 : Value) (v10 : Value) (v11 : Value) (v12 : Value) : zM l (dC, dI) (zT cyI cyC) yX3_indentOf cX3_indentOf 2 (some .int) { frames := 1, cells := 0, slots := 0, locals := 64 } [.ref h0, .int 0] [(h0, .inr (1, [v0, v1, v2, v3, v4, v5, v6, .int 0, v7, v8, v9, v10, v11, v12]))] (zQi (dC, dI) (zT cyI cyC) (fun r w => r = (-1) ∧ w = [(h0, .inr (1, [v0, v1, v2, v3, v4, v5, v6, .int 0, v7, v8, v9, v10, v11, v12]))])) := by
  refine zM.of (by decide +kernel) (Nat.le_of_ble_eq_true rfl) ?_
  intro p e s m below meth c hx hb hr hlocks hml hown hnm hts hK A hA H hP hD hS ls hl
  have hown : s.vm.findClass RX3 = some m.cls := hown
  have hl : lv_has ls 2 [(0, .ref h0), (1, .int 0)] := hl
  refine lv_iload_n hx hb dX3_indentOf_0 rfl (lv_at hl 1 rfl) ?_
  refine lv_if_lt (tgt := 21) hx hb dX3_indentOf_1 (by decide) (fun h9 => absurd h9 (by decide)) (fun _ => ?_)
  refine lv_iload_n hx hb dX3_indentOf_4 rfl (lv_at hl 1 rfl) ?_
  refine lv_aload_n hx hb dX3_indentOf_5 rfl (lv_at hl 0 rfl) ?_
  refine va_get (D := (dC, dI)) (ci := 1) (v := .int 0) (C := RX3) (T := TX3) (N := 14) hx hb hts inlX3 hown hK hP 0 rfl rfl 7 (by decide) (hts _ mw_227) (fun _ h9 => h9) rfl dX3_indentOf_6 ?_
  refine lv_icmp_ge (tgt := 21) hx hb dX3_indentOf_9 (by decide) (fun _ => ?_) (fun h9 => absurd (by decide) h9)
  refine lv_iconst (v := (-1)) hx hb dX3_indentOf_21 (by decide) ?_
  exact zr_i hx hb hr hlocks hK hP hD hS (by decide) (by decide) dX3_indentOf_22 rfl ⟨rfl, rfl⟩
set_option maxRecDepth 100000 in
set_option maxHeartbeats 4000000 in
theorem k_X1_meetLexeme_1 (l : Launch) (dC : Nat → ClassId) (dI : Nat → Nat → Nat) (cyI cyC : ClassId) (h0 : Nat) (h1 : Nat) (v0 : Value) (v1 : Value) (v2 : Value) (v3 : Value) (v4 : Value) (v5 : Value) (v6 : Value) (v7 : Value) (v8 : Value) (v9 : Value) (v10 : Value) (v11 : Value) (v12 : Value) (v13 : Value) (v14 : Value) (v15 : Value) (v16 : Value) (v17 : Value) (v18 : Value) : zM l (dC, dI) (zT cyI cyC) yX1_meetLexeme cX1_meetLexeme 3 none { frames := 2, cells := 0, slots := 0, locals := 128 } [.ref h0] [(h0, .inr (0, [.ref h1, v0, v1, v2, v3, v4, .int 0, v5, v6])), (h1, .inr (1, [v7, v8, v9, v10, v11, v12, v13, .int 0, v14, v15, .int 0, v16, v17, v18]))] (zQv (dC, dI) (zT cyI cyC) (fun w => w = [(h0, .inr (0, [.ref h1, v0, v1, v2, v3, v4, .int 0, .int 2, .int 0])), (h1, .inr (1, [v7, v8, v9, v10, v11, v12, v13, .int 0, v14, v15, .int 0, v16, v17, v18]))])) := by
  refine zM.of (by decide +kernel) (Nat.le_of_ble_eq_true rfl) ?_
  intro p e s m below meth c hx hb hr hlocks hml hown hnm hts hK A hA H hP hD hS ls hl
  have hown : s.vm.findClass RX1 = some m.cls := hown
  have hl : lv_has ls 3 [(0, .ref h0)] := hl
  refine lv_aload_n hx hb dX1_meetLexeme_0 rfl (lv_at hl 0 rfl) ?_
  refine va_get (D := (dC, dI)) (ci := 0) (v := .ref h1) (C := RX1) (T := TX1) (N := 9) hx hb hts inlX1 hown hK hP 0 rfl rfl 0 (by decide) (hts _ mw_60) (fun _ h9 => h9) rfl dX1_meetLexeme_1 ?_
  refine lv_aload_n hx hb dX1_meetLexeme_4 rfl (lv_at hl 0 rfl) ?_
  refine va_get (D := (dC, dI)) (ci := 0) (v := .int 0) (C := RX1) (T := TX1) (N := 9) hx hb hts inlX1 hown hK hP 0 rfl rfl 6 (by decide) (hts _ mw_470) (fun _ h9 => h9) rfl dX1_meetLexeme_5 ?_
  refine zcVi (wr := [(h0, .inr (0, [.ref h1, v0, v1, v2, v3, v4, .int 0, v5, v6]))]) (rest := []) hx hb hml hown hts (k_X3_openingOf_1 l dC dI cyI cyC h1 (v7) (v8) (v9) (v10) (v11) (v12) (v13) (v14) (v15) (v16) (v17) (v18)) zo_X3_openingOf zv_X3_openingOf mw_477 ⟨by decide, by decide⟩ hK hP hD hS hA [1] [0] rfl rfl rfl rfl (by decide) rfl rfl hl.1 rfl rfl (Nat.le_of_ble_eq_true rfl) dX1_meetLexeme_8 ⟨by decide, by decide⟩ (fun r_98 w1 H locs hw hP hD hS => ?_)
  obtain ⟨rfl, rfl⟩ := hw
  have hP : va_P (dC, dI) vwCl [(h0, .inr (0, [.ref h1, v0, v1, v2, v3, v4, .int 0, v5, v6])), (h1, .inr (1, [v7, v8, v9, v10, v11, v12, v13, .int 0, v14, v15, .int 0, v16, v17, v18]))] H := hP
  have hD : va_D A [(h0, .inr (0, [.ref h1, v0, v1, v2, v3, v4, .int 0, v5, v6])), (h1, .inr (1, [v7, v8, v9, v10, v11, v12, v13, .int 0, v14, v15, .int 0, v16, v17, v18]))] := hD
  refine lv_istore_n (lv' := [(1, .int 0), (0, .ref h0)]) hx hb dX1_meetLexeme_11 rfl hl (by decide) rfl (fun ls hl => ?_)
  refine lv_aload_n hx hb dX1_meetLexeme_12 rfl (lv_at hl 1 rfl) ?_
  refine va_get (D := (dC, dI)) (ci := 0) (v := .ref h1) (C := RX1) (T := TX1) (N := 9) hx hb hts inlX1 hown hK hP 0 rfl rfl 0 (by decide) (hts _ mw_60) (fun _ h9 => h9) rfl dX1_meetLexeme_13 ?_
  refine lv_aload_n hx hb dX1_meetLexeme_16 rfl (lv_at hl 1 rfl) ?_
  refine va_get (D := (dC, dI)) (ci := 0) (v := .int 0) (C := RX1) (T := TX1) (N := 9) hx hb hts inlX1 hown hK hP 0 rfl rfl 6 (by decide) (hts _ mw_470) (fun _ h9 => h9) rfl dX1_meetLexeme_17 ?_
  refine zcVi (wr := [(h0, .inr (0, [.ref h1, v0, v1, v2, v3, v4, .int 0, v5, v6]))]) (rest := []) hx hb hml hown hts (k_X3_indentOf_1 l dC dI cyI cyC h1 (v7) (v8) (v9) (v10) (v11) (v12) (v13) (v14) (v15) (.int 0) (v16) (v17) (v18)) zo_X3_indentOf zv_X3_indentOf mw_481 ⟨by decide, by decide⟩ hK hP hD hS hA [1] [0] rfl rfl rfl rfl (by decide) rfl rfl hl.1 rfl rfl (Nat.le_of_ble_eq_true rfl) dX1_meetLexeme_20 ⟨by decide, by decide⟩ (fun r_99 w1 H locs hw hP hD hS => ?_)
  obtain ⟨rfl, rfl⟩ := hw
  have hP : va_P (dC, dI) vwCl [(h0, .inr (0, [.ref h1, v0, v1, v2, v3, v4, .int 0, v5, v6])), (h1, .inr (1, [v7, v8, v9, v10, v11, v12, v13, .int 0, v14, v15, .int 0, v16, v17, v18]))] H := hP
  have hD : va_D A [(h0, .inr (0, [.ref h1, v0, v1, v2, v3, v4, .int 0, v5, v6])), (h1, .inr (1, [v7, v8, v9, v10, v11, v12, v13, .int 0, v14, v15, .int 0, v16, v17, v18]))] := hD
  refine lv_istore_n (lv' := [(2, .int (-1)), (1, .int 0), (0, .ref h0)]) hx hb dX1_meetLexeme_23 rfl hl (by decide) rfl (fun ls hl => ?_)
  refine lv_iload_n hx hb dX1_meetLexeme_24 rfl (lv_at hl 1 rfl) ?_
  refine lv_iconst (v := (-1)) hx hb dX1_meetLexeme_25 (by decide) ?_
  refine lv_icmp_eq (tgt := 42) hx hb dX1_meetLexeme_26 (by decide) (fun h9 => absurd h9 (by decide)) (fun _ => ?_)
  refine lv_aload_n hx hb dX1_meetLexeme_29 rfl (lv_at hl 2 rfl) ?_
  refine lv_iconst (v := 2) hx hb dX1_meetLexeme_30 (by decide) ?_
  refine va_put (D := (dC, dI)) (ci := 0) (v := .int 2) (ty := .int) (C := RX1) (T := TX1) (N := 9) hx hb hts inlX1 tyX1 tyX1_ok nmX1 hown hK hP hD hS 0 rfl rfl 7 (by decide) (hts _ mw_475) (fun _ h9 => h9) rfl (by decide +kernel) rfl rfl (Nat.le_of_ble_eq_true rfl) dX1_meetLexeme_31 (fun H locs hP hD hS => ?_)
  have hP : va_P (dC, dI) vwCl [(h0, .inr (0, [.ref h1, v0, v1, v2, v3, v4, .int 0, .int 2, v6])), (h1, .inr (1, [v7, v8, v9, v10, v11, v12, v13, .int 0, v14, v15, .int 0, v16, v17, v18]))] H := hP
  have hD : va_D A [(h0, .inr (0, [.ref h1, v0, v1, v2, v3, v4, .int 0, .int 2, v6])), (h1, .inr (1, [v7, v8, v9, v10, v11, v12, v13, .int 0, v14, v15, .int 0, v16, v17, v18]))] := hD
  refine lv_aload_n hx hb dX1_meetLexeme_34 rfl (lv_at hl 2 rfl) ?_
  refine lv_iload_n hx hb dX1_meetLexeme_35 rfl (lv_at hl 1 rfl) ?_
  refine va_put (D := (dC, dI)) (ci := 0) (v := .int 0) (ty := .int) (C := RX1) (T := TX1) (N := 9) hx hb hts inlX1 tyX1 tyX1_ok nmX1 hown hK hP hD hS 0 rfl rfl 8 (by decide) (hts _ mw_476) (fun _ h9 => h9) rfl (by decide +kernel) rfl rfl (Nat.le_of_ble_eq_true rfl) dX1_meetLexeme_36 (fun H locs hP hD hS => ?_)
  have hP : va_P (dC, dI) vwCl [(h0, .inr (0, [.ref h1, v0, v1, v2, v3, v4, .int 0, .int 2, .int 0])), (h1, .inr (1, [v7, v8, v9, v10, v11, v12, v13, .int 0, v14, v15, .int 0, v16, v17, v18]))] H := hP
  have hD : va_D A [(h0, .inr (0, [.ref h1, v0, v1, v2, v3, v4, .int 0, .int 2, .int 0])), (h1, .inr (1, [v7, v8, v9, v10, v11, v12, v13, .int 0, v14, v15, .int 0, v16, v17, v18]))] := hD
  refine lv_goto (tgt := 69) hx hb dX1_meetLexeme_39 (by decide) ?_
  exact zr_v hx hb hr hlocks hK hP hD hS (by decide) (by decide) dX1_meetLexeme_69 rfl
set_option maxRecDepth 100000 in
set_option maxHeartbeats 4000000 in
theorem k_X1_start_1 (l : Launch) (dC : Nat → ClassId) (dI : Nat → Nat → Nat) (cyI cyC : ClassId) (h0 : Nat) (h1 : Nat) (v0 : Value) (v1 : Value) (v2 : Value) (v3 : Value) (v4 : Value) (v5 : Value) (v6 : Value) (v7 : Value) (v8 : Value) (v9 : Value) (v10 : Value) (v11 : Value) (v12 : Value) (v13 : Value) (v14 : Value) (v15 : Value) (v16 : Value) (v17 : Value) (v18 : Value) (v19 : Value) : zM l (dC, dI) (zT cyI cyC) yX1_start cX1_start 1 none { frames := 3, cells := 0, slots := 0, locals := 192 } [.ref h0] [(h0, .inr (0, [.ref h1, v0, v1, v2, v3, v4, v5, v6, v7])), (h1, .inr (1, [v8, v9, v10, v11, v12, v13, v14, .int 0, v15, v16, .int 0, v17, v18, v19]))] (zQv (dC, dI) (zT cyI cyC) (fun w => w = [(h0, .inr (0, [.ref h1, v0, v1, .int 0, .int 0, .int (-1), .int 0, .int 2, .int 0])), (h1, .inr (1, [v8, v9, v10, v11, v12, v13, v14, .int 0, v15, v16, .int 0, v17, v18, v19]))])) := by
  refine zM.of (by decide +kernel) (Nat.le_of_ble_eq_true rfl) ?_
  intro p e s m below meth c hx hb hr hlocks hml hown hnm hts hK A hA H hP hD hS ls hl
  have hown : s.vm.findClass RX1 = some m.cls := hown
  have hl : lv_has ls 1 [(0, .ref h0)] := hl
  refine lv_aload_n hx hb dX1_start_0 rfl (lv_at hl 0 rfl) ?_
  refine lv_iconst (v := 0) hx hb dX1_start_1 (by decide) ?_
  refine va_put (D := (dC, dI)) (ci := 0) (v := .int 0) (ty := .int) (C := RX1) (T := TX1) (N := 9) hx hb hts inlX1 tyX1 tyX1_ok nmX1 hown hK hP hD hS 0 rfl rfl 3 (by decide) (hts _ mw_222) (fun _ h9 => h9) rfl (by decide +kernel) rfl rfl (Nat.le_of_ble_eq_true rfl) dX1_start_2 (fun H locs hP hD hS => ?_)
  have hP : va_P (dC, dI) vwCl [(h0, .inr (0, [.ref h1, v0, v1, .int 0, v3, v4, v5, v6, v7])), (h1, .inr (1, [v8, v9, v10, v11, v12, v13, v14, .int 0, v15, v16, .int 0, v17, v18, v19]))] H := hP
  have hD : va_D A [(h0, .inr (0, [.ref h1, v0, v1, .int 0, v3, v4, v5, v6, v7])), (h1, .inr (1, [v8, v9, v10, v11, v12, v13, v14, .int 0, v15, v16, .int 0, v17, v18, v19]))] := hD
  refine lv_aload_n hx hb dX1_start_5 rfl (lv_at hl 0 rfl) ?_
  refine lv_iconst (v := 0) hx hb dX1_start_6 (by decide) ?_
  refine va_put (D := (dC, dI)) (ci := 0) (v := .int 0) (ty := .int) (C := RX1) (T := TX1) (N := 9) hx hb hts inlX1 tyX1 tyX1_ok nmX1 hown hK hP hD hS 0 rfl rfl 4 (by decide) (hts _ mw_468) (fun _ h9 => h9) rfl (by decide +kernel) rfl rfl (Nat.le_of_ble_eq_true rfl) dX1_start_7 (fun H locs hP hD hS => ?_)
  have hP : va_P (dC, dI) vwCl [(h0, .inr (0, [.ref h1, v0, v1, .int 0, .int 0, v4, v5, v6, v7])), (h1, .inr (1, [v8, v9, v10, v11, v12, v13, v14, .int 0, v15, v16, .int 0, v17, v18, v19]))] H := hP
  have hD : va_D A [(h0, .inr (0, [.ref h1, v0, v1, .int 0, .int 0, v4, v5, v6, v7])), (h1, .inr (1, [v8, v9, v10, v11, v12, v13, v14, .int 0, v15, v16, .int 0, v17, v18, v19]))] := hD
  refine lv_aload_n hx hb dX1_start_10 rfl (lv_at hl 0 rfl) ?_
  refine lv_iconst (v := (-1)) hx hb dX1_start_11 (by decide) ?_
  refine va_put (D := (dC, dI)) (ci := 0) (v := .int (-1)) (ty := .int) (C := RX1) (T := TX1) (N := 9) hx hb hts inlX1 tyX1 tyX1_ok nmX1 hown hK hP hD hS 0 rfl rfl 5 (by decide) (hts _ mw_469) (fun _ h9 => h9) rfl (by decide +kernel) rfl rfl (Nat.le_of_ble_eq_true rfl) dX1_start_12 (fun H locs hP hD hS => ?_)
  have hP : va_P (dC, dI) vwCl [(h0, .inr (0, [.ref h1, v0, v1, .int 0, .int 0, .int (-1), v5, v6, v7])), (h1, .inr (1, [v8, v9, v10, v11, v12, v13, v14, .int 0, v15, v16, .int 0, v17, v18, v19]))] H := hP
  have hD : va_D A [(h0, .inr (0, [.ref h1, v0, v1, .int 0, .int 0, .int (-1), v5, v6, v7])), (h1, .inr (1, [v8, v9, v10, v11, v12, v13, v14, .int 0, v15, v16, .int 0, v17, v18, v19]))] := hD
  refine lv_aload_n hx hb dX1_start_15 rfl (lv_at hl 0 rfl) ?_
  refine lv_iconst (v := 0) hx hb dX1_start_16 (by decide) ?_
  refine va_put (D := (dC, dI)) (ci := 0) (v := .int 0) (ty := .int) (C := RX1) (T := TX1) (N := 9) hx hb hts inlX1 tyX1 tyX1_ok nmX1 hown hK hP hD hS 0 rfl rfl 6 (by decide) (hts _ mw_470) (fun _ h9 => h9) rfl (by decide +kernel) rfl rfl (Nat.le_of_ble_eq_true rfl) dX1_start_17 (fun H locs hP hD hS => ?_)
  have hP : va_P (dC, dI) vwCl [(h0, .inr (0, [.ref h1, v0, v1, .int 0, .int 0, .int (-1), .int 0, v6, v7])), (h1, .inr (1, [v8, v9, v10, v11, v12, v13, v14, .int 0, v15, v16, .int 0, v17, v18, v19]))] H := hP
  have hD : va_D A [(h0, .inr (0, [.ref h1, v0, v1, .int 0, .int 0, .int (-1), .int 0, v6, v7])), (h1, .inr (1, [v8, v9, v10, v11, v12, v13, v14, .int 0, v15, v16, .int 0, v17, v18, v19]))] := hD
  refine lv_aload_n hx hb dX1_start_20 rfl (lv_at hl 0 rfl) ?_
  refine zcVv (wr := []) (rest := []) hx hb hml hown hts (k_X1_meetLexeme_1 l dC dI cyI cyC h0 h1 (v0) (v1) (.int 0) (.int 0) (.int (-1)) (v6) (v7) (v8) (v9) (v10) (v11) (v12) (v13) (v14) (v15) (v16) (v17) (v18) (v19)) zo_X1_meetLexeme zv_X1_meetLexeme mw_471 ⟨by decide, by decide⟩ hK hP hD hS hA [0, 1] [] rfl rfl rfl rfl (by decide) rfl rfl hl.1 rfl rfl (Nat.le_of_ble_eq_true rfl) dX1_start_21 ⟨by decide, by decide⟩ (fun w1 H locs hw hP hD hS => ?_)
  subst hw
  have hP : va_P (dC, dI) vwCl [(h0, .inr (0, [.ref h1, v0, v1, .int 0, .int 0, .int (-1), .int 0, .int 2, .int 0])), (h1, .inr (1, [v8, v9, v10, v11, v12, v13, v14, .int 0, v15, v16, .int 0, v17, v18, v19]))] H := hP
  have hD : va_D A [(h0, .inr (0, [.ref h1, v0, v1, .int 0, .int 0, .int (-1), .int 0, .int 2, .int 0])), (h1, .inr (1, [v8, v9, v10, v11, v12, v13, v14, .int 0, v15, v16, .int 0, v17, v18, v19]))] := hD
  exact zr_v hx hb hr hlocks hK hP hD hS (by decide) (by decide) dX1_start_24 rfl
set_option maxRecDepth 100000 in
set_option maxHeartbeats 4000000 in
theorem k_X9_addWritten_1 (l : Launch) (dC : Nat → ClassId) (dI : Nat → Nat → Nat) (cyI cyC : ClassId) (h0 : Nat) (h1 : Nat) (h2 : Nat) (h3 : Nat) (h4 : Nat) (v0 : Value) (v1 : Value) (f0 : Nat → Int32) (f1 : Nat → Int32) (f2 : Nat → Int32) (f3 : Nat → Int32) : zM l (dC, dI) (zT cyI cyC) yX9_addWritten cX9_addWritten 5 (some .int) { frames := 1, cells := 0, slots := 0, locals := 64 } [.ref h0, .int 0, .int 0, .int 0] [(h0, .inr (6, [.ref h1, .ref h2, v0, .ref h3, .ref h4, v1, .int 0])), (h1, .inl (cyI, 1601, .inl f0)), (h2, .inl (cyI, 1601, .inl f1)), (h3, .inl (cyI, 1601, .inl f2)), (h4, .inl (cyI, 1601, .inl f3))] (zQi (dC, dI) (zT cyI cyC) (fun r w => r = 0 ∧ w = [(h0, .inr (6, [.ref h1, .ref h2, v0, .ref h3, .ref h4, v1, .int 1])), (h1, .inl (cyI, 1601, .inl (upd f0 0 0))), (h2, .inl (cyI, 1601, .inl (upd f1 0 1))), (h3, .inl (cyI, 1601, .inl (upd f2 0 0))), (h4, .inl (cyI, 1601, .inl (upd f3 0 0)))])) := by
  refine zM.of (by decide +kernel) (Nat.le_of_ble_eq_true rfl) ?_
  intro p e s m below meth c hx hb hr hlocks hml hown hnm hts hK A hA H hP hD hS ls hl
  have hown : s.vm.findClass RX9 = some m.cls := hown
  have hl : lv_has ls 5 [(0, .ref h0), (1, .int 0), (2, .int 0), (3, .int 0)] := hl
  refine lv_aload_n hx hb dX9_addWritten_0 rfl (lv_at hl 0 rfl) ?_
  refine va_get (D := (dC, dI)) (ci := 6) (v := .int 0) (C := RX9) (T := TX9) (N := 7) hx hb hts inlX9 hown hK hP 0 rfl rfl 6 (by decide) (hts _ mw_451) (fun _ h9 => h9) rfl dX9_addWritten_1 ?_
  refine lv_istore (lv' := [(4, .int 0), (0, .ref h0), (1, .int 0), (2, .int 0), (3, .int 0)]) hx hb dX9_addWritten_4 hl (by decide) rfl (fun ls hl => ?_)
  refine lv_aload_n hx hb dX9_addWritten_6 rfl (lv_at hl 1 rfl) ?_
  refine va_get (D := (dC, dI)) (ci := 6) (v := .int 0) (C := RX9) (T := TX9) (N := 7) hx hb hts inlX9 hown hK hP 0 rfl rfl 6 (by decide) (hts _ mw_451) (fun _ h9 => h9) rfl dX9_addWritten_7 ?_
  refine lv_sipush (v := 1601) hx hb dX9_addWritten_10 (by decide) ?_
  refine lv_icmp_ge (tgt := 66) hx hb dX9_addWritten_13 (by decide) (fun h9 => absurd h9 (by decide)) (fun _ => ?_)
  refine lv_aload_n hx hb dX9_addWritten_16 rfl (lv_at hl 1 rfl) ?_
  refine va_get (D := (dC, dI)) (ci := 6) (v := .ref h1) (C := RX9) (T := TX9) (N := 7) hx hb hts inlX9 hown hK hP 0 rfl rfl 0 (by decide) (hts _ mw_67) (fun _ h9 => h9) rfl dX9_addWritten_17 ?_
  refine lv_aload_n hx hb dX9_addWritten_20 rfl (lv_at hl 1 rfl) ?_
  refine va_get (D := (dC, dI)) (ci := 6) (v := .int 0) (C := RX9) (T := TX9) (N := 7) hx hb hts inlX9 hown hK hP 0 rfl rfl 6 (by decide) (hts _ mw_451) (fun _ h9 => h9) rfl dX9_addWritten_21 ?_
  refine lv_iload_n hx hb dX9_addWritten_24 rfl (lv_at hl 2 rfl) ?_
  refine va_iast hx hb hK hP hD hS 1 0 rfl rfl (zin (by decide)) dX9_addWritten_25 (fun H locs hP hD hS => ?_)
  have hP : va_P (dC, dI) vwCl [(h0, .inr (6, [.ref h1, .ref h2, v0, .ref h3, .ref h4, v1, .int 0])), (h1, .inl (cyI, 1601, .inl (upd f0 0 0))), (h2, .inl (cyI, 1601, .inl f1)), (h3, .inl (cyI, 1601, .inl f2)), (h4, .inl (cyI, 1601, .inl f3))] H := hP
  have hD : va_D A [(h0, .inr (6, [.ref h1, .ref h2, v0, .ref h3, .ref h4, v1, .int 0])), (h1, .inl (cyI, 1601, .inl (upd f0 0 0))), (h2, .inl (cyI, 1601, .inl f1)), (h3, .inl (cyI, 1601, .inl f2)), (h4, .inl (cyI, 1601, .inl f3))] := hD
  refine lv_aload_n hx hb dX9_addWritten_26 rfl (lv_at hl 1 rfl) ?_
  refine va_get (D := (dC, dI)) (ci := 6) (v := .ref h2) (C := RX9) (T := TX9) (N := 7) hx hb hts inlX9 hown hK hP 0 rfl rfl 1 (by decide) (hts _ mw_68) (fun _ h9 => h9) rfl dX9_addWritten_27 ?_
  refine lv_aload_n hx hb dX9_addWritten_30 rfl (lv_at hl 1 rfl) ?_
  refine va_get (D := (dC, dI)) (ci := 6) (v := .int 0) (C := RX9) (T := TX9) (N := 7) hx hb hts inlX9 hown hK hP 0 rfl rfl 6 (by decide) (hts _ mw_451) (fun _ h9 => h9) rfl dX9_addWritten_31 ?_
  refine lv_iconst (v := 1) hx hb dX9_addWritten_34 (by decide) ?_
  refine va_iast hx hb hK hP hD hS 2 0 rfl rfl (zin (by decide)) dX9_addWritten_35 (fun H locs hP hD hS => ?_)
  have hP : va_P (dC, dI) vwCl [(h0, .inr (6, [.ref h1, .ref h2, v0, .ref h3, .ref h4, v1, .int 0])), (h1, .inl (cyI, 1601, .inl (upd f0 0 0))), (h2, .inl (cyI, 1601, .inl (upd f1 0 1))), (h3, .inl (cyI, 1601, .inl f2)), (h4, .inl (cyI, 1601, .inl f3))] H := hP
  have hD : va_D A [(h0, .inr (6, [.ref h1, .ref h2, v0, .ref h3, .ref h4, v1, .int 0])), (h1, .inl (cyI, 1601, .inl (upd f0 0 0))), (h2, .inl (cyI, 1601, .inl (upd f1 0 1))), (h3, .inl (cyI, 1601, .inl f2)), (h4, .inl (cyI, 1601, .inl f3))] := hD
  refine lv_aload_n hx hb dX9_addWritten_36 rfl (lv_at hl 1 rfl) ?_
  refine va_get (D := (dC, dI)) (ci := 6) (v := .ref h3) (C := RX9) (T := TX9) (N := 7) hx hb hts inlX9 hown hK hP 0 rfl rfl 3 (by decide) (hts _ mw_70) (fun _ h9 => h9) rfl dX9_addWritten_37 ?_
  refine lv_aload_n hx hb dX9_addWritten_40 rfl (lv_at hl 1 rfl) ?_
  refine va_get (D := (dC, dI)) (ci := 6) (v := .int 0) (C := RX9) (T := TX9) (N := 7) hx hb hts inlX9 hown hK hP 0 rfl rfl 6 (by decide) (hts _ mw_451) (fun _ h9 => h9) rfl dX9_addWritten_41 ?_
  refine lv_iload_n hx hb dX9_addWritten_44 rfl (lv_at hl 3 rfl) ?_
  refine va_iast hx hb hK hP hD hS 3 0 rfl rfl (zin (by decide)) dX9_addWritten_45 (fun H locs hP hD hS => ?_)
  have hP : va_P (dC, dI) vwCl [(h0, .inr (6, [.ref h1, .ref h2, v0, .ref h3, .ref h4, v1, .int 0])), (h1, .inl (cyI, 1601, .inl (upd f0 0 0))), (h2, .inl (cyI, 1601, .inl (upd f1 0 1))), (h3, .inl (cyI, 1601, .inl (upd f2 0 0))), (h4, .inl (cyI, 1601, .inl f3))] H := hP
  have hD : va_D A [(h0, .inr (6, [.ref h1, .ref h2, v0, .ref h3, .ref h4, v1, .int 0])), (h1, .inl (cyI, 1601, .inl (upd f0 0 0))), (h2, .inl (cyI, 1601, .inl (upd f1 0 1))), (h3, .inl (cyI, 1601, .inl (upd f2 0 0))), (h4, .inl (cyI, 1601, .inl f3))] := hD
  refine lv_aload_n hx hb dX9_addWritten_46 rfl (lv_at hl 1 rfl) ?_
  refine va_get (D := (dC, dI)) (ci := 6) (v := .ref h4) (C := RX9) (T := TX9) (N := 7) hx hb hts inlX9 hown hK hP 0 rfl rfl 4 (by decide) (hts _ mw_71) (fun _ h9 => h9) rfl dX9_addWritten_47 ?_
  refine lv_aload_n hx hb dX9_addWritten_50 rfl (lv_at hl 1 rfl) ?_
  refine va_get (D := (dC, dI)) (ci := 6) (v := .int 0) (C := RX9) (T := TX9) (N := 7) hx hb hts inlX9 hown hK hP 0 rfl rfl 6 (by decide) (hts _ mw_451) (fun _ h9 => h9) rfl dX9_addWritten_51 ?_
  refine lv_iload_n hx hb dX9_addWritten_54 rfl (lv_at hl 4 rfl) ?_
  refine va_iast hx hb hK hP hD hS 4 0 rfl rfl (zin (by decide)) dX9_addWritten_55 (fun H locs hP hD hS => ?_)
  have hP : va_P (dC, dI) vwCl [(h0, .inr (6, [.ref h1, .ref h2, v0, .ref h3, .ref h4, v1, .int 0])), (h1, .inl (cyI, 1601, .inl (upd f0 0 0))), (h2, .inl (cyI, 1601, .inl (upd f1 0 1))), (h3, .inl (cyI, 1601, .inl (upd f2 0 0))), (h4, .inl (cyI, 1601, .inl (upd f3 0 0)))] H := hP
  have hD : va_D A [(h0, .inr (6, [.ref h1, .ref h2, v0, .ref h3, .ref h4, v1, .int 0])), (h1, .inl (cyI, 1601, .inl (upd f0 0 0))), (h2, .inl (cyI, 1601, .inl (upd f1 0 1))), (h3, .inl (cyI, 1601, .inl (upd f2 0 0))), (h4, .inl (cyI, 1601, .inl (upd f3 0 0)))] := hD
  refine lv_aload_n hx hb dX9_addWritten_56 rfl (lv_at hl 1 rfl) ?_
  refine lv_dup hx hb dX9_addWritten_57 rfl ?_
  refine va_get (D := (dC, dI)) (ci := 6) (v := .int 0) (C := RX9) (T := TX9) (N := 7) hx hb hts inlX9 hown hK hP 0 rfl rfl 6 (by decide) (hts _ mw_451) (fun _ h9 => h9) rfl dX9_addWritten_58 ?_
  refine lv_iconst (v := 1) hx hb dX9_addWritten_61 (by decide) ?_
  refine lv_iadd hx hb dX9_addWritten_62 ?_
  refine zl_i (y := 1) (by decide) ?_
  refine va_put (D := (dC, dI)) (ci := 6) (v := .int 1) (ty := .int) (C := RX9) (T := TX9) (N := 7) hx hb hts inlX9 tyX9 tyX9_ok nmX9 hown hK hP hD hS 0 rfl rfl 6 (by decide) (hts _ mw_451) (fun _ h9 => h9) rfl (by decide +kernel) rfl rfl (Nat.le_of_ble_eq_true rfl) dX9_addWritten_63 (fun H locs hP hD hS => ?_)
  have hP : va_P (dC, dI) vwCl [(h0, .inr (6, [.ref h1, .ref h2, v0, .ref h3, .ref h4, v1, .int 1])), (h1, .inl (cyI, 1601, .inl (upd f0 0 0))), (h2, .inl (cyI, 1601, .inl (upd f1 0 1))), (h3, .inl (cyI, 1601, .inl (upd f2 0 0))), (h4, .inl (cyI, 1601, .inl (upd f3 0 0)))] H := hP
  have hD : va_D A [(h0, .inr (6, [.ref h1, .ref h2, v0, .ref h3, .ref h4, v1, .int 1])), (h1, .inl (cyI, 1601, .inl (upd f0 0 0))), (h2, .inl (cyI, 1601, .inl (upd f1 0 1))), (h3, .inl (cyI, 1601, .inl (upd f2 0 0))), (h4, .inl (cyI, 1601, .inl (upd f3 0 0)))] := hD
  refine lv_iload hx hb dX9_addWritten_66 (lv_at hl 0 rfl) ?_
  exact zr_i hx hb hr hlocks hK hP hD hS (by decide) (by decide) dX9_addWritten_68 rfl ⟨rfl, rfl⟩
set_option maxRecDepth 100000 in
set_option maxHeartbeats 4000000 in
theorem k_X9_add_1 (l : Launch) (dC : Nat → ClassId) (dI : Nat → Nat → Nat) (cyI cyC : ClassId) (h0 : Nat) (h1 : Nat) (h2 : Nat) (h3 : Nat) (h4 : Nat) (v0 : Value) (v1 : Value) (f0 : Nat → Int32) (f1 : Nat → Int32) (f2 : Nat → Int32) (f3 : Nat → Int32) : zM l (dC, dI) (zT cyI cyC) yX9_add cX9_add 2 (some .int) { frames := 2, cells := 0, slots := 0, locals := 128 } [.ref h0, .int 0] [(h0, .inr (6, [.ref h1, .ref h2, v0, .ref h3, .ref h4, v1, .int 0])), (h1, .inl (cyI, 1601, .inl f0)), (h2, .inl (cyI, 1601, .inl f1)), (h3, .inl (cyI, 1601, .inl f2)), (h4, .inl (cyI, 1601, .inl f3))] (zQi (dC, dI) (zT cyI cyC) (fun r w => r = 0 ∧ w = [(h0, .inr (6, [.ref h1, .ref h2, v0, .ref h3, .ref h4, v1, .int 1])), (h1, .inl (cyI, 1601, .inl (upd f0 0 0))), (h2, .inl (cyI, 1601, .inl (upd f1 0 1))), (h3, .inl (cyI, 1601, .inl (upd f2 0 0))), (h4, .inl (cyI, 1601, .inl (upd f3 0 0)))])) := by
  refine zM.of (by decide +kernel) (Nat.le_of_ble_eq_true rfl) ?_
  intro p e s m below meth c hx hb hr hlocks hml hown hnm hts hK A hA H hP hD hS ls hl
  have hown : s.vm.findClass RX9 = some m.cls := hown
  have hl : lv_has ls 2 [(0, .ref h0), (1, .int 0)] := hl
  refine lv_aload_n hx hb dX9_add_0 rfl (lv_at hl 0 rfl) ?_
  refine lv_iload_n hx hb dX9_add_1 rfl (lv_at hl 1 rfl) ?_
  refine lv_iconst (v := 0) hx hb dX9_add_2 (by decide) ?_
  refine lv_iconst (v := 0) hx hb dX9_add_3 (by decide) ?_
  refine zcVi (wr := []) (rest := []) hx hb hml hown hts (k_X9_addWritten_1 l dC dI cyI cyC h0 h1 h2 h3 h4 (v0) (v1) f0 f1 f2 f3) zo_X9_addWritten zv_X9_addWritten mw_489 ⟨by decide, by decide⟩ hK hP hD hS hA [0, 1, 2, 3, 4] [] rfl rfl rfl rfl (by decide) rfl rfl hl.1 rfl rfl (Nat.le_of_ble_eq_true rfl) dX9_add_4 ⟨by decide, by decide⟩ (fun r_100 w1 H locs hw hP hD hS => ?_)
  obtain ⟨rfl, rfl⟩ := hw
  have hP : va_P (dC, dI) vwCl [(h0, .inr (6, [.ref h1, .ref h2, v0, .ref h3, .ref h4, v1, .int 1])), (h1, .inl (cyI, 1601, .inl (upd f0 0 0))), (h2, .inl (cyI, 1601, .inl (upd f1 0 1))), (h3, .inl (cyI, 1601, .inl (upd f2 0 0))), (h4, .inl (cyI, 1601, .inl (upd f3 0 0)))] H := hP
  have hD : va_D A [(h0, .inr (6, [.ref h1, .ref h2, v0, .ref h3, .ref h4, v1, .int 1])), (h1, .inl (cyI, 1601, .inl (upd f0 0 0))), (h2, .inl (cyI, 1601, .inl (upd f1 0 1))), (h3, .inl (cyI, 1601, .inl (upd f2 0 0))), (h4, .inl (cyI, 1601, .inl (upd f3 0 0)))] := hD
  exact zr_i hx hb hr hlocks hK hP hD hS (by decide) (by decide) dX9_add_7 rfl ⟨rfl, rfl⟩
set_option maxRecDepth 100000 in
set_option maxHeartbeats 4000000 in
theorem k_X1_sort_1 (l : Launch) (dC : Nat → ClassId) (dI : Nat → Nat → Nat) (cyI cyC : ClassId) (h0 : Nat) (v0 : Value) (v1 : Value) (v2 : Value) (v3 : Value) (v4 : Value) (v5 : Value) (v6 : Value) (v7 : Value) : zM l (dC, dI) (zT cyI cyC) yX1_sort cX1_sort 1 (some .int) { frames := 1, cells := 0, slots := 0, locals := 64 } [.ref h0] [(h0, .inr (0, [v0, v1, v2, v3, v4, v5, v6, .int 2, v7]))] (zQi (dC, dI) (zT cyI cyC) (fun r w => r = 10 ∧ w = [(h0, .inr (0, [v0, v1, v2, v3, v4, v5, v6, .int 2, v7]))])) := by
  refine zM.of (by decide +kernel) (Nat.le_of_ble_eq_true rfl) ?_
  intro p e s m below meth c hx hb hr hlocks hml hown hnm hts hK A hA H hP hD hS ls hl
  have hown : s.vm.findClass RX1 = some m.cls := hown
  have hl : lv_has ls 1 [(0, .ref h0)] := hl
  refine lv_aload_n hx hb dX1_sort_0 rfl (lv_at hl 0 rfl) ?_
  refine va_get (D := (dC, dI)) (ci := 0) (v := .int 2) (C := RX1) (T := TX1) (N := 9) hx hb hts inlX1 hown hK hP 0 rfl rfl 7 (by decide) (hts _ mw_475) (fun _ h9 => h9) rfl dX1_sort_1 ?_
  refine lv_tableIn (off := 28) (tgt := 32) hx hb dX1_sort_4 (by decide) (by decide) rfl (by decide) ?_
  refine lv_bipush (v := 10) hx hb dX1_sort_32 (by decide) ?_
  exact zr_i hx hb hr hlocks hK hP hD hS (by decide) (by decide) dX1_sort_34 rfl ⟨rfl, rfl⟩
set_option maxRecDepth 100000 in
set_option maxHeartbeats 4000000 in
theorem k_X1_size_1 (l : Launch) (dC : Nat → ClassId) (dI : Nat → Nat → Nat) (cyI cyC : ClassId) (h0 : Nat) (v0 : Value) (v1 : Value) (v2 : Value) (v3 : Value) (v4 : Value) (v5 : Value) (v6 : Value) (v7 : Value) : zM l (dC, dI) (zT cyI cyC) yX1_size cX1_size 1 (some .int) { frames := 1, cells := 0, slots := 0, locals := 64 } [.ref h0] [(h0, .inr (0, [v0, v1, v2, .int 0, v3, v4, v5, v6, v7]))] (zQi (dC, dI) (zT cyI cyC) (fun r w => r = 0 ∧ w = [(h0, .inr (0, [v0, v1, v2, .int 0, v3, v4, v5, v6, v7]))])) := by
  refine zM.of (by decide +kernel) (Nat.le_of_ble_eq_true rfl) ?_
  intro p e s m below meth c hx hb hr hlocks hml hown hnm hts hK A hA H hP hD hS ls hl
  have hown : s.vm.findClass RX1 = some m.cls := hown
  have hl : lv_has ls 1 [(0, .ref h0)] := hl
  refine lv_aload_n hx hb dX1_size_0 rfl (lv_at hl 0 rfl) ?_
  refine va_get (D := (dC, dI)) (ci := 0) (v := .int 0) (C := RX1) (T := TX1) (N := 9) hx hb hts inlX1 hown hK hP 0 rfl rfl 3 (by decide) (hts _ mw_222) (fun _ h9 => h9) rfl dX1_size_1 ?_
  exact zr_i hx hb hr hlocks hK hP hD hS (by decide) (by decide) dX1_size_4 rfl ⟨rfl, rfl⟩
set_option maxRecDepth 100000 in
set_option maxHeartbeats 4000000 in
theorem k_X1_position_1 (l : Launch) (dC : Nat → ClassId) (dI : Nat → Nat → Nat) (cyI cyC : ClassId) (h0 : Nat) (v0 : Value) (v1 : Value) (v2 : Value) (v3 : Value) (v4 : Value) (v5 : Value) (v6 : Value) (v7 : Value) : zM l (dC, dI) (zT cyI cyC) yX1_position cX1_position 1 (some .int) { frames := 1, cells := 0, slots := 0, locals := 64 } [.ref h0] [(h0, .inr (0, [v0, v1, v2, v3, v4, v5, .int 0, v6, v7]))] (zQi (dC, dI) (zT cyI cyC) (fun r w => r = 0 ∧ w = [(h0, .inr (0, [v0, v1, v2, v3, v4, v5, .int 0, v6, v7]))])) := by
  refine zM.of (by decide +kernel) (Nat.le_of_ble_eq_true rfl) ?_
  intro p e s m below meth c hx hb hr hlocks hml hown hnm hts hK A hA H hP hD hS ls hl
  have hown : s.vm.findClass RX1 = some m.cls := hown
  have hl : lv_has ls 1 [(0, .ref h0)] := hl
  refine lv_aload_n hx hb dX1_position_0 rfl (lv_at hl 0 rfl) ?_
  refine va_get (D := (dC, dI)) (ci := 0) (v := .int 0) (C := RX1) (T := TX1) (N := 9) hx hb hts inlX1 hown hK hP 0 rfl rfl 6 (by decide) (hts _ mw_470) (fun _ h9 => h9) rfl dX1_position_1 ?_
  exact zr_i hx hb hr hlocks hK hP hD hS (by decide) (by decide) dX1_position_4 rfl ⟨rfl, rfl⟩
set_option maxRecDepth 100000 in
set_option maxHeartbeats 4000000 in
theorem k_X4_add_1 (l : Launch) (dC : Nat → ClassId) (dI : Nat → Nat → Nat) (cyI cyC : ClassId) (h0 : Nat) (h1 : Nat) (h2 : Nat) (h3 : Nat) (v0 : Value) (v1 : Value) (f0 : Nat → Int32) (f1 : Nat → Int32) (f2 : Nat → Int32) : zM l (dC, dI) (zT cyI cyC) yX4_add cX4_add 3 none { frames := 1, cells := 0, slots := 0, locals := 64 } [.ref h0, .int 0, .int 0] [(h0, .inr (2, [.ref h1, .ref h2, .ref h3, v0, .int 0, v1, .int 1])), (h1, .inl (cyI, 1602, .inl f0)), (h2, .inl (cyI, 1602, .inl f1)), (h3, .inl (cyI, 1602, .inl f2))] (zQv (dC, dI) (zT cyI cyC) (fun w => w = [(h0, .inr (2, [.ref h1, .ref h2, .ref h3, v0, .int 1, v1, .int 1])), (h1, .inl (cyI, 1602, .inl (upd f0 0 1))), (h2, .inl (cyI, 1602, .inl (upd f1 0 0))), (h3, .inl (cyI, 1602, .inl (upd f2 0 0)))])) := by
  refine zM.of (by decide +kernel) (Nat.le_of_ble_eq_true rfl) ?_
  intro p e s m below meth c hx hb hr hlocks hml hown hnm hts hK A hA H hP hD hS ls hl
  have hown : s.vm.findClass RX4 = some m.cls := hown
  have hl : lv_has ls 3 [(0, .ref h0), (1, .int 0), (2, .int 0)] := hl
  refine lv_aload_n hx hb dX4_add_0 rfl (lv_at hl 0 rfl) ?_
  refine va_get (D := (dC, dI)) (ci := 2) (v := .int 0) (C := RX4) (T := TX4) (N := 7) hx hb hts inlX4 hown hK hP 0 rfl rfl 4 (by decide) (hts _ mw_456) (fun _ h9 => h9) rfl dX4_add_1 ?_
  refine lv_sipush (v := 1602) hx hb dX4_add_4 (by decide) ?_
  refine lv_icmp_ge (tgt := 53) hx hb dX4_add_7 (by decide) (fun h9 => absurd h9 (by decide)) (fun _ => ?_)
  refine lv_aload_n hx hb dX4_add_10 rfl (lv_at hl 0 rfl) ?_
  refine va_get (D := (dC, dI)) (ci := 2) (v := .ref h1) (C := RX4) (T := TX4) (N := 7) hx hb hts inlX4 hown hK hP 0 rfl rfl 0 (by decide) (hts _ mw_92) (fun _ h9 => h9) rfl dX4_add_11 ?_
  refine lv_aload_n hx hb dX4_add_14 rfl (lv_at hl 0 rfl) ?_
  refine va_get (D := (dC, dI)) (ci := 2) (v := .int 0) (C := RX4) (T := TX4) (N := 7) hx hb hts inlX4 hown hK hP 0 rfl rfl 4 (by decide) (hts _ mw_456) (fun _ h9 => h9) rfl dX4_add_15 ?_
  refine lv_aload_n hx hb dX4_add_18 rfl (lv_at hl 0 rfl) ?_
  refine va_get (D := (dC, dI)) (ci := 2) (v := .int 1) (C := RX4) (T := TX4) (N := 7) hx hb hts inlX4 hown hK hP 0 rfl rfl 6 (by decide) (hts _ mw_458) (fun _ h9 => h9) rfl dX4_add_19 ?_
  refine va_iast hx hb hK hP hD hS 1 0 rfl rfl (zin (by decide)) dX4_add_22 (fun H locs hP hD hS => ?_)
  have hP : va_P (dC, dI) vwCl [(h0, .inr (2, [.ref h1, .ref h2, .ref h3, v0, .int 0, v1, .int 1])), (h1, .inl (cyI, 1602, .inl (upd f0 0 1))), (h2, .inl (cyI, 1602, .inl f1)), (h3, .inl (cyI, 1602, .inl f2))] H := hP
  have hD : va_D A [(h0, .inr (2, [.ref h1, .ref h2, .ref h3, v0, .int 0, v1, .int 1])), (h1, .inl (cyI, 1602, .inl (upd f0 0 1))), (h2, .inl (cyI, 1602, .inl f1)), (h3, .inl (cyI, 1602, .inl f2))] := hD
  refine lv_aload_n hx hb dX4_add_23 rfl (lv_at hl 0 rfl) ?_
  refine va_get (D := (dC, dI)) (ci := 2) (v := .ref h2) (C := RX4) (T := TX4) (N := 7) hx hb hts inlX4 hown hK hP 0 rfl rfl 1 (by decide) (hts _ mw_93) (fun _ h9 => h9) rfl dX4_add_24 ?_
  refine lv_aload_n hx hb dX4_add_27 rfl (lv_at hl 0 rfl) ?_
  refine va_get (D := (dC, dI)) (ci := 2) (v := .int 0) (C := RX4) (T := TX4) (N := 7) hx hb hts inlX4 hown hK hP 0 rfl rfl 4 (by decide) (hts _ mw_456) (fun _ h9 => h9) rfl dX4_add_28 ?_
  refine lv_iload_n hx hb dX4_add_31 rfl (lv_at hl 1 rfl) ?_
  refine va_iast hx hb hK hP hD hS 2 0 rfl rfl (zin (by decide)) dX4_add_32 (fun H locs hP hD hS => ?_)
  have hP : va_P (dC, dI) vwCl [(h0, .inr (2, [.ref h1, .ref h2, .ref h3, v0, .int 0, v1, .int 1])), (h1, .inl (cyI, 1602, .inl (upd f0 0 1))), (h2, .inl (cyI, 1602, .inl (upd f1 0 0))), (h3, .inl (cyI, 1602, .inl f2))] H := hP
  have hD : va_D A [(h0, .inr (2, [.ref h1, .ref h2, .ref h3, v0, .int 0, v1, .int 1])), (h1, .inl (cyI, 1602, .inl (upd f0 0 1))), (h2, .inl (cyI, 1602, .inl (upd f1 0 0))), (h3, .inl (cyI, 1602, .inl f2))] := hD
  refine lv_aload_n hx hb dX4_add_33 rfl (lv_at hl 0 rfl) ?_
  refine va_get (D := (dC, dI)) (ci := 2) (v := .ref h3) (C := RX4) (T := TX4) (N := 7) hx hb hts inlX4 hown hK hP 0 rfl rfl 2 (by decide) (hts _ mw_94) (fun _ h9 => h9) rfl dX4_add_34 ?_
  refine lv_aload_n hx hb dX4_add_37 rfl (lv_at hl 0 rfl) ?_
  refine va_get (D := (dC, dI)) (ci := 2) (v := .int 0) (C := RX4) (T := TX4) (N := 7) hx hb hts inlX4 hown hK hP 0 rfl rfl 4 (by decide) (hts _ mw_456) (fun _ h9 => h9) rfl dX4_add_38 ?_
  refine lv_iload_n hx hb dX4_add_41 rfl (lv_at hl 2 rfl) ?_
  refine va_iast hx hb hK hP hD hS 3 0 rfl rfl (zin (by decide)) dX4_add_42 (fun H locs hP hD hS => ?_)
  have hP : va_P (dC, dI) vwCl [(h0, .inr (2, [.ref h1, .ref h2, .ref h3, v0, .int 0, v1, .int 1])), (h1, .inl (cyI, 1602, .inl (upd f0 0 1))), (h2, .inl (cyI, 1602, .inl (upd f1 0 0))), (h3, .inl (cyI, 1602, .inl (upd f2 0 0)))] H := hP
  have hD : va_D A [(h0, .inr (2, [.ref h1, .ref h2, .ref h3, v0, .int 0, v1, .int 1])), (h1, .inl (cyI, 1602, .inl (upd f0 0 1))), (h2, .inl (cyI, 1602, .inl (upd f1 0 0))), (h3, .inl (cyI, 1602, .inl (upd f2 0 0)))] := hD
  refine lv_aload_n hx hb dX4_add_43 rfl (lv_at hl 0 rfl) ?_
  refine lv_dup hx hb dX4_add_44 rfl ?_
  refine va_get (D := (dC, dI)) (ci := 2) (v := .int 0) (C := RX4) (T := TX4) (N := 7) hx hb hts inlX4 hown hK hP 0 rfl rfl 4 (by decide) (hts _ mw_456) (fun _ h9 => h9) rfl dX4_add_45 ?_
  refine lv_iconst (v := 1) hx hb dX4_add_48 (by decide) ?_
  refine lv_iadd hx hb dX4_add_49 ?_
  refine zl_i (y := 1) (by decide) ?_
  refine va_put (D := (dC, dI)) (ci := 2) (v := .int 1) (ty := .int) (C := RX4) (T := TX4) (N := 7) hx hb hts inlX4 tyX4 tyX4_ok nmX4 hown hK hP hD hS 0 rfl rfl 4 (by decide) (hts _ mw_456) (fun _ h9 => h9) rfl (by decide +kernel) rfl rfl (Nat.le_of_ble_eq_true rfl) dX4_add_50 (fun H locs hP hD hS => ?_)
  have hP : va_P (dC, dI) vwCl [(h0, .inr (2, [.ref h1, .ref h2, .ref h3, v0, .int 1, v1, .int 1])), (h1, .inl (cyI, 1602, .inl (upd f0 0 1))), (h2, .inl (cyI, 1602, .inl (upd f1 0 0))), (h3, .inl (cyI, 1602, .inl (upd f2 0 0)))] H := hP
  have hD : va_D A [(h0, .inr (2, [.ref h1, .ref h2, .ref h3, v0, .int 1, v1, .int 1])), (h1, .inl (cyI, 1602, .inl (upd f0 0 1))), (h2, .inl (cyI, 1602, .inl (upd f1 0 0))), (h3, .inl (cyI, 1602, .inl (upd f2 0 0)))] := hD
  exact zr_v hx hb hr hlocks hK hP hD hS (by decide) (by decide) dX4_add_53 rfl
set_option maxRecDepth 100000 in
set_option maxHeartbeats 4000000 in
theorem k_X4_enter_1 (l : Launch) (dC : Nat → ClassId) (dI : Nat → Nat → Nat) (cyI cyC : ClassId) (h0 : Nat) (h1 : Nat) (h2 : Nat) (h3 : Nat) (v0 : Value) (v1 : Value) (f0 : Nat → Int32) (f1 : Nat → Int32) (f2 : Nat → Int32) : zM l (dC, dI) (zT cyI cyC) yX4_enter cX4_enter 3 none { frames := 2, cells := 0, slots := 0, locals := 128 } [.ref h0, .int 0, .int 0] [(h0, .inr (2, [.ref h1, .ref h2, .ref h3, v0, .int 0, v1, .int 0])), (h1, .inl (cyI, 1602, .inl f0)), (h2, .inl (cyI, 1602, .inl f1)), (h3, .inl (cyI, 1602, .inl f2))] (zQv (dC, dI) (zT cyI cyC) (fun w => w = [(h0, .inr (2, [.ref h1, .ref h2, .ref h3, v0, .int 1, v1, .int 1])), (h1, .inl (cyI, 1602, .inl (upd f0 0 1))), (h2, .inl (cyI, 1602, .inl (upd f1 0 0))), (h3, .inl (cyI, 1602, .inl (upd f2 0 0)))])) := by
  refine zM.of (by decide +kernel) (Nat.le_of_ble_eq_true rfl) ?_
  intro p e s m below meth c hx hb hr hlocks hml hown hnm hts hK A hA H hP hD hS ls hl
  have hown : s.vm.findClass RX4 = some m.cls := hown
  have hl : lv_has ls 3 [(0, .ref h0), (1, .int 0), (2, .int 0)] := hl
  refine lv_aload_n hx hb dX4_enter_0 rfl (lv_at hl 0 rfl) ?_
  refine lv_dup hx hb dX4_enter_1 rfl ?_
  refine va_get (D := (dC, dI)) (ci := 2) (v := .int 0) (C := RX4) (T := TX4) (N := 7) hx hb hts inlX4 hown hK hP 0 rfl rfl 6 (by decide) (hts _ mw_458) (fun _ h9 => h9) rfl dX4_enter_2 ?_
  refine lv_iconst (v := 1) hx hb dX4_enter_5 (by decide) ?_
  refine lv_iadd hx hb dX4_enter_6 ?_
  refine zl_i (y := 1) (by decide) ?_
  refine va_put (D := (dC, dI)) (ci := 2) (v := .int 1) (ty := .int) (C := RX4) (T := TX4) (N := 7) hx hb hts inlX4 tyX4 tyX4_ok nmX4 hown hK hP hD hS 0 rfl rfl 6 (by decide) (hts _ mw_458) (fun _ h9 => h9) rfl (by decide +kernel) rfl rfl (Nat.le_of_ble_eq_true rfl) dX4_enter_7 (fun H locs hP hD hS => ?_)
  have hP : va_P (dC, dI) vwCl [(h0, .inr (2, [.ref h1, .ref h2, .ref h3, v0, .int 0, v1, .int 1])), (h1, .inl (cyI, 1602, .inl f0)), (h2, .inl (cyI, 1602, .inl f1)), (h3, .inl (cyI, 1602, .inl f2))] H := hP
  have hD : va_D A [(h0, .inr (2, [.ref h1, .ref h2, .ref h3, v0, .int 0, v1, .int 1])), (h1, .inl (cyI, 1602, .inl f0)), (h2, .inl (cyI, 1602, .inl f1)), (h3, .inl (cyI, 1602, .inl f2))] := hD
  refine lv_aload_n hx hb dX4_enter_10 rfl (lv_at hl 0 rfl) ?_
  refine lv_iload_n hx hb dX4_enter_11 rfl (lv_at hl 1 rfl) ?_
  refine lv_iload_n hx hb dX4_enter_12 rfl (lv_at hl 2 rfl) ?_
  refine zcVv (wr := []) (rest := []) hx hb hml hown hts (k_X4_add_1 l dC dI cyI cyC h0 h1 h2 h3 (v0) (v1) f0 f1 f2) zo_X4_add zv_X4_add mw_534 ⟨by decide, by decide⟩ hK hP hD hS hA [0, 1, 2, 3] [] rfl rfl rfl rfl (by decide) rfl rfl hl.1 rfl rfl (Nat.le_of_ble_eq_true rfl) dX4_enter_13 ⟨by decide, by decide⟩ (fun w1 H locs hw hP hD hS => ?_)
  subst hw
  have hP : va_P (dC, dI) vwCl [(h0, .inr (2, [.ref h1, .ref h2, .ref h3, v0, .int 1, v1, .int 1])), (h1, .inl (cyI, 1602, .inl (upd f0 0 1))), (h2, .inl (cyI, 1602, .inl (upd f1 0 0))), (h3, .inl (cyI, 1602, .inl (upd f2 0 0)))] H := hP
  have hD : va_D A [(h0, .inr (2, [.ref h1, .ref h2, .ref h3, v0, .int 1, v1, .int 1])), (h1, .inl (cyI, 1602, .inl (upd f0 0 1))), (h2, .inl (cyI, 1602, .inl (upd f1 0 0))), (h3, .inl (cyI, 1602, .inl (upd f2 0 0)))] := hD
  exact zr_v hx hb hr hlocks hK hP hD hS (by decide) (by decide) dX4_enter_16 rfl
set_option maxRecDepth 100000 in
set_option maxHeartbeats 4000000 in
theorem k_X5_enter_1 (l : Launch) (dC : Nat → ClassId) (dI : Nat → Nat → Nat) (cyI cyC : ClassId) (h0 : Nat) (h1 : Nat) (h2 : Nat) (h3 : Nat) (h4 : Nat) (h5 : Nat) (v0 : Value) (v1 : Value) (v2 : Value) (v3 : Value) (v4 : Value) (v5 : Value) (v6 : Value) (v7 : Value) (v8 : Value) (v9 : Value) (v10 : Value) (v11 : Value) (v12 : Value) (v13 : Value) (f0 : Nat → Int32) (f1 : Nat → Int32) (f2 : Nat → Int32) : zM l (dC, dI) (zT cyI cyC) yX5_enter cX5_enter 1 none { frames := 3, cells := 0, slots := 0, locals := 192 } [.ref h0] [(h0, .inr (3, [v0, .ref h1, .ref h2, v1, v2, v3, v4])), (h1, .inr (0, [v5, v6, v7, .int 0, v8, v9, .int 0, v10, v11])), (h2, .inr (2, [.ref h3, .ref h4, .ref h5, v12, .int 0, v13, .int 0])), (h3, .inl (cyI, 1602, .inl f0)), (h4, .inl (cyI, 1602, .inl f1)), (h5, .inl (cyI, 1602, .inl f2))] (zQv (dC, dI) (zT cyI cyC) (fun w => w = [(h0, .inr (3, [v0, .ref h1, .ref h2, v1, v2, v3, v4])), (h1, .inr (0, [v5, v6, v7, .int 0, v8, v9, .int 0, v10, v11])), (h2, .inr (2, [.ref h3, .ref h4, .ref h5, v12, .int 1, v13, .int 1])), (h3, .inl (cyI, 1602, .inl (upd f0 0 1))), (h4, .inl (cyI, 1602, .inl (upd f1 0 0))), (h5, .inl (cyI, 1602, .inl (upd f2 0 0)))])) := by
  refine zM.of (by decide +kernel) (Nat.le_of_ble_eq_true rfl) ?_
  intro p e s m below meth c hx hb hr hlocks hml hown hnm hts hK A hA H hP hD hS ls hl
  have hown : s.vm.findClass RX5 = some m.cls := hown
  have hl : lv_has ls 1 [(0, .ref h0)] := hl
  refine lv_aload_n hx hb dX5_enter_0 rfl (lv_at hl 0 rfl) ?_
  refine va_get (D := (dC, dI)) (ci := 3) (v := .ref h2) (C := RX5) (T := TX5) (N := 7) hx hb hts inlX5 hown hK hP 0 rfl rfl 2 (by decide) (hts _ mw_82) (fun _ h9 => h9) rfl dX5_enter_1 ?_
  refine lv_aload_n hx hb dX5_enter_4 rfl (lv_at hl 0 rfl) ?_
  refine va_get (D := (dC, dI)) (ci := 3) (v := .ref h1) (C := RX5) (T := TX5) (N := 7) hx hb hts inlX5 hown hK hP 0 rfl rfl 1 (by decide) (hts _ mw_78) (fun _ h9 => h9) rfl dX5_enter_5 ?_
  refine zcVi (wr := [(h0, .inr (3, [v0, .ref h1, .ref h2, v1, v2, v3, v4])), (h2, .inr (2, [.ref h3, .ref h4, .ref h5, v12, .int 0, v13, .int 0])), (h3, .inl (cyI, 1602, .inl f0)), (h4, .inl (cyI, 1602, .inl f1)), (h5, .inl (cyI, 1602, .inl f2))]) (rest := [.ref h2]) hx hb hml hown hts (k_X1_size_1 l dC dI cyI cyC h1 (v5) (v6) (v7) (v8) (v9) (.int 0) (v10) (v11)) zo_X1_size zv_X1_size mw_526 ⟨by decide, by decide⟩ hK hP hD hS hA [1] [0, 2, 3, 4, 5] rfl rfl rfl rfl (by decide) rfl rfl hl.1 rfl rfl (Nat.le_of_ble_eq_true rfl) dX5_enter_8 ⟨by decide, by decide⟩ (fun r_103 w1 H locs hw hP hD hS => ?_)
  obtain ⟨rfl, rfl⟩ := hw
  have hP : va_P (dC, dI) vwCl [(h0, .inr (3, [v0, .ref h1, .ref h2, v1, v2, v3, v4])), (h2, .inr (2, [.ref h3, .ref h4, .ref h5, v12, .int 0, v13, .int 0])), (h3, .inl (cyI, 1602, .inl f0)), (h4, .inl (cyI, 1602, .inl f1)), (h5, .inl (cyI, 1602, .inl f2)), (h1, .inr (0, [v5, v6, v7, .int 0, v8, v9, .int 0, v10, v11]))] H := hP
  have hD : va_D A [(h0, .inr (3, [v0, .ref h1, .ref h2, v1, v2, v3, v4])), (h2, .inr (2, [.ref h3, .ref h4, .ref h5, v12, .int 0, v13, .int 0])), (h3, .inl (cyI, 1602, .inl f0)), (h4, .inl (cyI, 1602, .inl f1)), (h5, .inl (cyI, 1602, .inl f2)), (h1, .inr (0, [v5, v6, v7, .int 0, v8, v9, .int 0, v10, v11]))] := hD
  refine lv_aload_n hx hb dX5_enter_11 rfl (lv_at hl 0 rfl) ?_
  refine va_get (D := (dC, dI)) (ci := 3) (v := .ref h1) (C := RX5) (T := TX5) (N := 7) hx hb hts inlX5 hown hK hP 0 rfl rfl 1 (by decide) (hts _ mw_78) (fun _ h9 => h9) rfl dX5_enter_12 ?_
  refine zcVi (wr := [(h0, .inr (3, [v0, .ref h1, .ref h2, v1, v2, v3, v4])), (h2, .inr (2, [.ref h3, .ref h4, .ref h5, v12, .int 0, v13, .int 0])), (h3, .inl (cyI, 1602, .inl f0)), (h4, .inl (cyI, 1602, .inl f1)), (h5, .inl (cyI, 1602, .inl f2))]) (rest := [.int 0, .ref h2]) hx hb hml hown hts (k_X1_position_1 l dC dI cyI cyC h1 (v5) (v6) (v7) (.int 0) (v8) (v9) (v10) (v11)) zo_X1_position zv_X1_position mw_514 ⟨by decide, by decide⟩ hK hP hD hS hA [5] [0, 1, 2, 3, 4] rfl rfl rfl rfl (by decide) rfl rfl hl.1 rfl rfl (Nat.le_of_ble_eq_true rfl) dX5_enter_15 ⟨by decide, by decide⟩ (fun r_104 w1 H locs hw hP hD hS => ?_)
  obtain ⟨rfl, rfl⟩ := hw
  have hP : va_P (dC, dI) vwCl [(h0, .inr (3, [v0, .ref h1, .ref h2, v1, v2, v3, v4])), (h2, .inr (2, [.ref h3, .ref h4, .ref h5, v12, .int 0, v13, .int 0])), (h3, .inl (cyI, 1602, .inl f0)), (h4, .inl (cyI, 1602, .inl f1)), (h5, .inl (cyI, 1602, .inl f2)), (h1, .inr (0, [v5, v6, v7, .int 0, v8, v9, .int 0, v10, v11]))] H := hP
  have hD : va_D A [(h0, .inr (3, [v0, .ref h1, .ref h2, v1, v2, v3, v4])), (h2, .inr (2, [.ref h3, .ref h4, .ref h5, v12, .int 0, v13, .int 0])), (h3, .inl (cyI, 1602, .inl f0)), (h4, .inl (cyI, 1602, .inl f1)), (h5, .inl (cyI, 1602, .inl f2)), (h1, .inr (0, [v5, v6, v7, .int 0, v8, v9, .int 0, v10, v11]))] := hD
  refine zcVv (wr := [(h0, .inr (3, [v0, .ref h1, .ref h2, v1, v2, v3, v4])), (h1, .inr (0, [v5, v6, v7, .int 0, v8, v9, .int 0, v10, v11]))]) (rest := []) hx hb hml hown hts (k_X4_enter_1 l dC dI cyI cyC h2 h3 h4 h5 (v12) (v13) f0 f1 f2) zo_X4_enter zv_X4_enter mw_530 ⟨by decide, by decide⟩ hK hP hD hS hA [1, 2, 3, 4] [0, 5] rfl rfl rfl rfl (by decide) rfl rfl hl.1 rfl rfl (Nat.le_of_ble_eq_true rfl) dX5_enter_18 ⟨by decide, by decide⟩ (fun w1 H locs hw hP hD hS => ?_)
  subst hw
  have hP : va_P (dC, dI) vwCl [(h0, .inr (3, [v0, .ref h1, .ref h2, v1, v2, v3, v4])), (h1, .inr (0, [v5, v6, v7, .int 0, v8, v9, .int 0, v10, v11])), (h2, .inr (2, [.ref h3, .ref h4, .ref h5, v12, .int 1, v13, .int 1])), (h3, .inl (cyI, 1602, .inl (upd f0 0 1))), (h4, .inl (cyI, 1602, .inl (upd f1 0 0))), (h5, .inl (cyI, 1602, .inl (upd f2 0 0)))] H := hP
  have hD : va_D A [(h0, .inr (3, [v0, .ref h1, .ref h2, v1, v2, v3, v4])), (h1, .inr (0, [v5, v6, v7, .int 0, v8, v9, .int 0, v10, v11])), (h2, .inr (2, [.ref h3, .ref h4, .ref h5, v12, .int 1, v13, .int 1])), (h3, .inl (cyI, 1602, .inl (upd f0 0 1))), (h4, .inl (cyI, 1602, .inl (upd f1 0 0))), (h5, .inl (cyI, 1602, .inl (upd f2 0 0)))] := hD
  exact zr_v hx hb hr hlocks hK hP hD hS (by decide) (by decide) dX5_enter_21 rfl
set_option maxRecDepth 100000 in
set_option maxHeartbeats 4000000 in
theorem k_X1_keep_1 (l : Launch) (dC : Nat → ClassId) (dI : Nat → Nat → Nat) (cyI cyC : ClassId) (h0 : Nat) (h1 : Nat) (v0 : Value) (v1 : Value) (v2 : Value) (v3 : Value) (v4 : Value) (v5 : Value) (v6 : Value) (f0 : Nat → Int32) : zM l (dC, dI) (zT cyI cyC) yX1_keep cX1_keep 2 none { frames := 1, cells := 0, slots := 0, locals := 64 } [.ref h0, .int (-10)] [(h0, .inr (0, [v0, .ref h1, v1, .int 0, v2, v3, v4, v5, v6])), (h1, .inl (cyI, 3204, .inl f0))] (zQv (dC, dI) (zT cyI cyC) (fun w => w = [(h0, .inr (0, [v0, .ref h1, v1, .int 1, v2, v3, v4, v5, v6])), (h1, .inl (cyI, 3204, .inl (upd f0 0 (-10))))])) := by
  refine zM.of (by decide +kernel) (Nat.le_of_ble_eq_true rfl) ?_
  intro p e s m below meth c hx hb hr hlocks hml hown hnm hts hK A hA H hP hD hS ls hl
  have hown : s.vm.findClass RX1 = some m.cls := hown
  have hl : lv_has ls 2 [(0, .ref h0), (1, .int (-10))] := hl
  refine lv_aload_n hx hb dX1_keep_0 rfl (lv_at hl 0 rfl) ?_
  refine va_get (D := (dC, dI)) (ci := 0) (v := .int 0) (C := RX1) (T := TX1) (N := 9) hx hb hts inlX1 hown hK hP 0 rfl rfl 3 (by decide) (hts _ mw_222) (fun _ h9 => h9) rfl dX1_keep_1 ?_
  refine lv_sipush (v := 3204) hx hb dX1_keep_4 (by decide) ?_
  refine lv_icmp_ge (tgt := 30) hx hb dX1_keep_7 (by decide) (fun h9 => absurd h9 (by decide)) (fun _ => ?_)
  refine lv_aload_n hx hb dX1_keep_10 rfl (lv_at hl 0 rfl) ?_
  refine va_get (D := (dC, dI)) (ci := 0) (v := .ref h1) (C := RX1) (T := TX1) (N := 9) hx hb hts inlX1 hown hK hP 0 rfl rfl 1 (by decide) (hts _ mw_61) (fun _ h9 => h9) rfl dX1_keep_11 ?_
  refine lv_aload_n hx hb dX1_keep_14 rfl (lv_at hl 0 rfl) ?_
  refine va_get (D := (dC, dI)) (ci := 0) (v := .int 0) (C := RX1) (T := TX1) (N := 9) hx hb hts inlX1 hown hK hP 0 rfl rfl 3 (by decide) (hts _ mw_222) (fun _ h9 => h9) rfl dX1_keep_15 ?_
  refine lv_iload_n hx hb dX1_keep_18 rfl (lv_at hl 1 rfl) ?_
  refine va_iast hx hb hK hP hD hS 1 0 rfl rfl (zin (by decide)) dX1_keep_19 (fun H locs hP hD hS => ?_)
  have hP : va_P (dC, dI) vwCl [(h0, .inr (0, [v0, .ref h1, v1, .int 0, v2, v3, v4, v5, v6])), (h1, .inl (cyI, 3204, .inl (upd f0 0 (-10))))] H := hP
  have hD : va_D A [(h0, .inr (0, [v0, .ref h1, v1, .int 0, v2, v3, v4, v5, v6])), (h1, .inl (cyI, 3204, .inl (upd f0 0 (-10))))] := hD
  refine lv_aload_n hx hb dX1_keep_20 rfl (lv_at hl 0 rfl) ?_
  refine lv_dup hx hb dX1_keep_21 rfl ?_
  refine va_get (D := (dC, dI)) (ci := 0) (v := .int 0) (C := RX1) (T := TX1) (N := 9) hx hb hts inlX1 hown hK hP 0 rfl rfl 3 (by decide) (hts _ mw_222) (fun _ h9 => h9) rfl dX1_keep_22 ?_
  refine lv_iconst (v := 1) hx hb dX1_keep_25 (by decide) ?_
  refine lv_iadd hx hb dX1_keep_26 ?_
  refine zl_i (y := 1) (by decide) ?_
  refine va_put (D := (dC, dI)) (ci := 0) (v := .int 1) (ty := .int) (C := RX1) (T := TX1) (N := 9) hx hb hts inlX1 tyX1 tyX1_ok nmX1 hown hK hP hD hS 0 rfl rfl 3 (by decide) (hts _ mw_222) (fun _ h9 => h9) rfl (by decide +kernel) rfl rfl (Nat.le_of_ble_eq_true rfl) dX1_keep_27 (fun H locs hP hD hS => ?_)
  have hP : va_P (dC, dI) vwCl [(h0, .inr (0, [v0, .ref h1, v1, .int 1, v2, v3, v4, v5, v6])), (h1, .inl (cyI, 3204, .inl (upd f0 0 (-10))))] H := hP
  have hD : va_D A [(h0, .inr (0, [v0, .ref h1, v1, .int 1, v2, v3, v4, v5, v6])), (h1, .inl (cyI, 3204, .inl (upd f0 0 (-10))))] := hD
  exact zr_v hx hb hr hlocks hK hP hD hS (by decide) (by decide) dX1_keep_30 rfl
set_option maxRecDepth 100000 in
set_option maxHeartbeats 4000000 in
theorem k_X1_takeOpening_1 (l : Launch) (dC : Nat → ClassId) (dI : Nat → Nat → Nat) (cyI cyC : ClassId) (h0 : Nat) (h1 : Nat) (v0 : Value) (v1 : Value) (v2 : Value) (v3 : Value) (v4 : Value) (f0 : Nat → Int32) : zM l (dC, dI) (zT cyI cyC) yX1_takeOpening cX1_takeOpening 1 none { frames := 2, cells := 0, slots := 0, locals := 128 } [.ref h0] [(h0, .inr (0, [v0, .ref h1, v1, .int 0, v2, .int (-1), v3, v4, .int 0])), (h1, .inl (cyI, 3204, .inl f0))] (zQv (dC, dI) (zT cyI cyC) (fun w => w = [(h0, .inr (0, [v0, .ref h1, v1, .int 1, v2, .int (-1), v3, .int 3, .int 0])), (h1, .inl (cyI, 3204, .inl (upd f0 0 (-10))))])) := by
  refine zM.of (by decide +kernel) (Nat.le_of_ble_eq_true rfl) ?_
  intro p e s m below meth c hx hb hr hlocks hml hown hnm hts hK A hA H hP hD hS ls hl
  have hown : s.vm.findClass RX1 = some m.cls := hown
  have hl : lv_has ls 1 [(0, .ref h0)] := hl
  refine lv_aload_n hx hb dX1_takeOpening_0 rfl (lv_at hl 0 rfl) ?_
  refine lv_bipush (v := (-10)) hx hb dX1_takeOpening_1 (by decide) ?_
  refine zcVv (wr := []) (rest := []) hx hb hml hown hts (k_X1_keep_1 l dC dI cyI cyC h0 h1 (v0) (v1) (v2) (.int (-1)) (v3) (v4) (.int 0) f0) zo_X1_keep zv_X1_keep mw_547 ⟨by decide, by decide⟩ hK hP hD hS hA [0, 1] [] rfl rfl rfl rfl (by decide) rfl rfl hl.1 rfl rfl (Nat.le_of_ble_eq_true rfl) dX1_takeOpening_3 ⟨by decide, by decide⟩ (fun w1 H locs hw hP hD hS => ?_)
  subst hw
  have hP : va_P (dC, dI) vwCl [(h0, .inr (0, [v0, .ref h1, v1, .int 1, v2, .int (-1), v3, v4, .int 0])), (h1, .inl (cyI, 3204, .inl (upd f0 0 (-10))))] H := hP
  have hD : va_D A [(h0, .inr (0, [v0, .ref h1, v1, .int 1, v2, .int (-1), v3, v4, .int 0])), (h1, .inl (cyI, 3204, .inl (upd f0 0 (-10))))] := hD
  refine lv_aload_n hx hb dX1_takeOpening_6 rfl (lv_at hl 0 rfl) ?_
  refine va_get (D := (dC, dI)) (ci := 0) (v := .int 0) (C := RX1) (T := TX1) (N := 9) hx hb hts inlX1 hown hK hP 0 rfl rfl 8 (by decide) (hts _ mw_476) (fun _ h9 => h9) rfl dX1_takeOpening_7 ?_
  refine lv_iconst (v := 0) hx hb dX1_takeOpening_10 (by decide) ?_
  refine lv_aload_n hx hb dX1_takeOpening_11 rfl (lv_at hl 0 rfl) ?_
  refine va_get (D := (dC, dI)) (ci := 0) (v := .int (-1)) (C := RX1) (T := TX1) (N := 9) hx hb hts inlX1 hown hK hP 0 rfl rfl 5 (by decide) (hts _ mw_469) (fun _ h9 => h9) rfl dX1_takeOpening_12 ?_
  refine va_mmax hx hb (hml.trans hl.1.symm) hown (hts _ mw_546) (hts _ mw_288) (hts _ mw_289) (hts _ mw_290) (by decide) (Nat.le_of_ble_eq_true rfl) (by decide) (by decide) dX1_takeOpening_15 ?_
  refine zl_i (y := 0) (by decide) ?_
  refine lv_icmp_le (tgt := 37) hx hb dX1_takeOpening_18 (by decide) (fun _ => ?_) (fun h9 => absurd (by decide) h9)
  refine lv_aload_n hx hb dX1_takeOpening_37 rfl (lv_at hl 0 rfl) ?_
  refine lv_iconst (v := 3) hx hb dX1_takeOpening_38 (by decide) ?_
  refine va_put (D := (dC, dI)) (ci := 0) (v := .int 3) (ty := .int) (C := RX1) (T := TX1) (N := 9) hx hb hts inlX1 tyX1 tyX1_ok nmX1 hown hK hP hD hS 0 rfl rfl 7 (by decide) (hts _ mw_475) (fun _ h9 => h9) rfl (by decide +kernel) rfl rfl (Nat.le_of_ble_eq_true rfl) dX1_takeOpening_39 (fun H locs hP hD hS => ?_)
  have hP : va_P (dC, dI) vwCl [(h0, .inr (0, [v0, .ref h1, v1, .int 1, v2, .int (-1), v3, .int 3, .int 0])), (h1, .inl (cyI, 3204, .inl (upd f0 0 (-10))))] H := hP
  have hD : va_D A [(h0, .inr (0, [v0, .ref h1, v1, .int 1, v2, .int (-1), v3, .int 3, .int 0])), (h1, .inl (cyI, 3204, .inl (upd f0 0 (-10))))] := hD
  exact zr_v hx hb hr hlocks hK hP hD hS (by decide) (by decide) dX1_takeOpening_42 rfl
set_option maxRecDepth 100000 in
set_option maxHeartbeats 4000000 in
theorem k_X1_take_1 (l : Launch) (dC : Nat → ClassId) (dI : Nat → Nat → Nat) (cyI cyC : ClassId) (h0 : Nat) (h1 : Nat) (v0 : Value) (v1 : Value) (v2 : Value) (v3 : Value) (f0 : Nat → Int32) : zM l (dC, dI) (zT cyI cyC) yX1_take cX1_take 1 none { frames := 3, cells := 0, slots := 0, locals := 192 } [.ref h0] [(h0, .inr (0, [v0, .ref h1, v1, .int 0, v2, .int (-1), v3, .int 2, .int 0])), (h1, .inl (cyI, 3204, .inl f0))] (zQv (dC, dI) (zT cyI cyC) (fun w => w = [(h0, .inr (0, [v0, .ref h1, v1, .int 1, v2, .int (-1), v3, .int 3, .int 0])), (h1, .inl (cyI, 3204, .inl (upd f0 0 (-10))))])) := by
  refine zM.of (by decide +kernel) (Nat.le_of_ble_eq_true rfl) ?_
  intro p e s m below meth c hx hb hr hlocks hml hown hnm hts hK A hA H hP hD hS ls hl
  have hown : s.vm.findClass RX1 = some m.cls := hown
  have hl : lv_has ls 1 [(0, .ref h0)] := hl
  refine lv_aload_n hx hb dX1_take_0 rfl (lv_at hl 0 rfl) ?_
  refine va_get (D := (dC, dI)) (ci := 0) (v := .int 2) (C := RX1) (T := TX1) (N := 9) hx hb hts inlX1 hown hK hP 0 rfl rfl 7 (by decide) (hts _ mw_475) (fun _ h9 => h9) rfl dX1_take_1 ?_
  refine lv_tableIn (off := 28) (tgt := 32) hx hb dX1_take_4 (by decide) (by decide) rfl (by decide) ?_
  refine lv_aload_n hx hb dX1_take_32 rfl (lv_at hl 0 rfl) ?_
  refine zcVv (wr := []) (rest := []) hx hb hml hown hts (k_X1_takeOpening_1 l dC dI cyI cyC h0 h1 (v0) (v1) (v2) (v3) (.int 2) f0) zo_X1_takeOpening zv_X1_takeOpening mw_542 ⟨by decide, by decide⟩ hK hP hD hS hA [0, 1] [] rfl rfl rfl rfl (by decide) rfl rfl hl.1 rfl rfl (Nat.le_of_ble_eq_true rfl) dX1_take_33 ⟨by decide, by decide⟩ (fun w1 H locs hw hP hD hS => ?_)
  subst hw
  have hP : va_P (dC, dI) vwCl [(h0, .inr (0, [v0, .ref h1, v1, .int 1, v2, .int (-1), v3, .int 3, .int 0])), (h1, .inl (cyI, 3204, .inl (upd f0 0 (-10))))] H := hP
  have hD : va_D A [(h0, .inr (0, [v0, .ref h1, v1, .int 1, v2, .int (-1), v3, .int 3, .int 0])), (h1, .inl (cyI, 3204, .inl (upd f0 0 (-10))))] := hD
  refine lv_goto (tgt := 99) hx hb dX1_take_36 (by decide) ?_
  exact zr_v hx hb hr hlocks hK hP hD hS (by decide) (by decide) dX1_take_99 rfl
set_option maxRecDepth 100000 in
set_option maxHeartbeats 4000000 in
theorem k_X6_push_1 (l : Launch) (dC : Nat → ClassId) (dI : Nat → Nat → Nat) (cyI cyC : ClassId) (h0 : Nat) (h1 : Nat) (h2 : Nat) (f0 : Nat → Int32) (f1 : Nat → Int32) : zM l (dC, dI) (zT cyI cyC) yX6_push cX6_push 3 none { frames := 1, cells := 0, slots := 0, locals := 64 } [.ref h0, .int 35, .int 0] [(h0, .inr (4, [.ref h1, .ref h2, .int 0])), (h1, .inl (cyI, 4812, .inl f0)), (h2, .inl (cyI, 4812, .inl f1))] (zQv (dC, dI) (zT cyI cyC) (fun w => w = [(h0, .inr (4, [.ref h1, .ref h2, .int 1])), (h1, .inl (cyI, 4812, .inl (upd f0 0 35))), (h2, .inl (cyI, 4812, .inl (upd f1 0 0)))])) := by
  refine zM.of (by decide +kernel) (Nat.le_of_ble_eq_true rfl) ?_
  intro p e s m below meth c hx hb hr hlocks hml hown hnm hts hK A hA H hP hD hS ls hl
  have hown : s.vm.findClass RX6 = some m.cls := hown
  have hl : lv_has ls 3 [(0, .ref h0), (1, .int 35), (2, .int 0)] := hl
  refine lv_aload_n hx hb dX6_push_0 rfl (lv_at hl 0 rfl) ?_
  refine va_get (D := (dC, dI)) (ci := 4) (v := .int 0) (C := RX6) (T := TX6) (N := 3) hx hb hts inlX6 hown hK hP 0 rfl rfl 2 (by decide) (hts _ mw_463) (fun _ h9 => h9) rfl dX6_push_1 ?_
  refine lv_sipush (v := 4812) hx hb dX6_push_4 (by decide) ?_
  refine lv_icmp_ge (tgt := 40) hx hb dX6_push_7 (by decide) (fun h9 => absurd h9 (by decide)) (fun _ => ?_)
  refine lv_aload_n hx hb dX6_push_10 rfl (lv_at hl 0 rfl) ?_
  refine va_get (D := (dC, dI)) (ci := 4) (v := .ref h1) (C := RX6) (T := TX6) (N := 3) hx hb hts inlX6 hown hK hP 0 rfl rfl 0 (by decide) (hts _ mw_100) (fun _ h9 => h9) rfl dX6_push_11 ?_
  refine lv_aload_n hx hb dX6_push_14 rfl (lv_at hl 0 rfl) ?_
  refine va_get (D := (dC, dI)) (ci := 4) (v := .int 0) (C := RX6) (T := TX6) (N := 3) hx hb hts inlX6 hown hK hP 0 rfl rfl 2 (by decide) (hts _ mw_463) (fun _ h9 => h9) rfl dX6_push_15 ?_
  refine lv_iload_n hx hb dX6_push_18 rfl (lv_at hl 1 rfl) ?_
  refine va_iast hx hb hK hP hD hS 1 0 rfl rfl (zin (by decide)) dX6_push_19 (fun H locs hP hD hS => ?_)
  have hP : va_P (dC, dI) vwCl [(h0, .inr (4, [.ref h1, .ref h2, .int 0])), (h1, .inl (cyI, 4812, .inl (upd f0 0 35))), (h2, .inl (cyI, 4812, .inl f1))] H := hP
  have hD : va_D A [(h0, .inr (4, [.ref h1, .ref h2, .int 0])), (h1, .inl (cyI, 4812, .inl (upd f0 0 35))), (h2, .inl (cyI, 4812, .inl f1))] := hD
  refine lv_aload_n hx hb dX6_push_20 rfl (lv_at hl 0 rfl) ?_
  refine va_get (D := (dC, dI)) (ci := 4) (v := .ref h2) (C := RX6) (T := TX6) (N := 3) hx hb hts inlX6 hown hK hP 0 rfl rfl 1 (by decide) (hts _ mw_101) (fun _ h9 => h9) rfl dX6_push_21 ?_
  refine lv_aload_n hx hb dX6_push_24 rfl (lv_at hl 0 rfl) ?_
  refine va_get (D := (dC, dI)) (ci := 4) (v := .int 0) (C := RX6) (T := TX6) (N := 3) hx hb hts inlX6 hown hK hP 0 rfl rfl 2 (by decide) (hts _ mw_463) (fun _ h9 => h9) rfl dX6_push_25 ?_
  refine lv_iload_n hx hb dX6_push_28 rfl (lv_at hl 2 rfl) ?_
  refine va_iast hx hb hK hP hD hS 2 0 rfl rfl (zin (by decide)) dX6_push_29 (fun H locs hP hD hS => ?_)
  have hP : va_P (dC, dI) vwCl [(h0, .inr (4, [.ref h1, .ref h2, .int 0])), (h1, .inl (cyI, 4812, .inl (upd f0 0 35))), (h2, .inl (cyI, 4812, .inl (upd f1 0 0)))] H := hP
  have hD : va_D A [(h0, .inr (4, [.ref h1, .ref h2, .int 0])), (h1, .inl (cyI, 4812, .inl (upd f0 0 35))), (h2, .inl (cyI, 4812, .inl (upd f1 0 0)))] := hD
  refine lv_aload_n hx hb dX6_push_30 rfl (lv_at hl 0 rfl) ?_
  refine lv_dup hx hb dX6_push_31 rfl ?_
  refine va_get (D := (dC, dI)) (ci := 4) (v := .int 0) (C := RX6) (T := TX6) (N := 3) hx hb hts inlX6 hown hK hP 0 rfl rfl 2 (by decide) (hts _ mw_463) (fun _ h9 => h9) rfl dX6_push_32 ?_
  refine lv_iconst (v := 1) hx hb dX6_push_35 (by decide) ?_
  refine lv_iadd hx hb dX6_push_36 ?_
  refine zl_i (y := 1) (by decide) ?_
  refine va_put (D := (dC, dI)) (ci := 4) (v := .int 1) (ty := .int) (C := RX6) (T := TX6) (N := 3) hx hb hts inlX6 tyX6 tyX6_ok nmX6 hown hK hP hD hS 0 rfl rfl 2 (by decide) (hts _ mw_463) (fun _ h9 => h9) rfl (by decide +kernel) rfl rfl (Nat.le_of_ble_eq_true rfl) dX6_push_37 (fun H locs hP hD hS => ?_)
  have hP : va_P (dC, dI) vwCl [(h0, .inr (4, [.ref h1, .ref h2, .int 1])), (h1, .inl (cyI, 4812, .inl (upd f0 0 35))), (h2, .inl (cyI, 4812, .inl (upd f1 0 0)))] H := hP
  have hD : va_D A [(h0, .inr (4, [.ref h1, .ref h2, .int 1])), (h1, .inl (cyI, 4812, .inl (upd f0 0 35))), (h2, .inl (cyI, 4812, .inl (upd f1 0 0)))] := hD
  exact zr_v hx hb hr hlocks hK hP hD hS (by decide) (by decide) dX6_push_40 rfl
set_option maxRecDepth 100000 in
set_option maxHeartbeats 4000000 in
theorem k_X5_openBlock_1 (l : Launch) (dC : Nat → ClassId) (dI : Nat → Nat → Nat) (cyI cyC : ClassId) (h0 : Nat) (h1 : Nat) (h2 : Nat) (h3 : Nat) (h4 : Nat) (h5 : Nat) (h6 : Nat) (h7 : Nat) (h8 : Nat) (h9 : Nat) (v0 : Value) (v1 : Value) (v2 : Value) (v3 : Value) (v4 : Value) (v5 : Value) (v6 : Value) (v7 : Value) (v8 : Value) (f0 : Nat → Int32) (f1 : Nat → Int32) (f2 : Nat → Int32) (f3 : Nat → Int32) (f4 : Nat → Int32) (f5 : Nat → Int32) : zM l (dC, dI) (zT cyI cyC) yX5_openBlock cX5_openBlock 3 none { frames := 4, cells := 0, slots := 0, locals := 256 } [.ref h0, .int 35, .int 0] [(h0, .inr (3, [v0, .ref h1, .ref h2, .ref h7, v1, v2, v3])), (h1, .inr (0, [v4, .ref h6, v5, .int 0, v6, .int (-1), .int 0, .int 2, .int 0])), (h2, .inr (2, [.ref h3, .ref h4, .ref h5, v7, .int 0, v8, .int 0])), (h3, .inl (cyI, 1602, .inl f0)), (h4, .inl (cyI, 1602, .inl f1)), (h5, .inl (cyI, 1602, .inl f2)), (h6, .inl (cyI, 3204, .inl f3)), (h7, .inr (4, [.ref h8, .ref h9, .int 0])), (h8, .inl (cyI, 4812, .inl f4)), (h9, .inl (cyI, 4812, .inl f5))] (zQv (dC, dI) (zT cyI cyC) (fun w => w = [(h0, .inr (3, [v0, .ref h1, .ref h2, .ref h7, v1, v2, v3])), (h2, .inr (2, [.ref h3, .ref h4, .ref h5, v7, .int 1, v8, .int 1])), (h3, .inl (cyI, 1602, .inl (upd f0 0 1))), (h4, .inl (cyI, 1602, .inl (upd f1 0 0))), (h5, .inl (cyI, 1602, .inl (upd f2 0 0))), (h1, .inr (0, [v4, .ref h6, v5, .int 1, v6, .int (-1), .int 0, .int 3, .int 0])), (h6, .inl (cyI, 3204, .inl (upd f3 0 (-10)))), (h7, .inr (4, [.ref h8, .ref h9, .int 1])), (h8, .inl (cyI, 4812, .inl (upd f4 0 35))), (h9, .inl (cyI, 4812, .inl (upd f5 0 0)))])) := by
  refine zM.of (by decide +kernel) (Nat.le_of_ble_eq_true rfl) ?_
  intro p e s m below meth c hx hb hr hlocks hml hown hnm hts hK A hA H hP hD hS ls hl
  have hown : s.vm.findClass RX5 = some m.cls := hown
  have hl : lv_has ls 3 [(0, .ref h0), (1, .int 35), (2, .int 0)] := hl
  refine lv_aload_n hx hb dX5_openBlock_0 rfl (lv_at hl 0 rfl) ?_
  refine va_get (D := (dC, dI)) (ci := 3) (v := .ref h1) (C := RX5) (T := TX5) (N := 7) hx hb hts inlX5 hown hK hP 0 rfl rfl 1 (by decide) (hts _ mw_78) (fun _ h9 => h9) rfl dX5_openBlock_1 ?_
  refine zcVi (wr := [(h0, .inr (3, [v0, .ref h1, .ref h2, .ref h7, v1, v2, v3])), (h2, .inr (2, [.ref h3, .ref h4, .ref h5, v7, .int 0, v8, .int 0])), (h3, .inl (cyI, 1602, .inl f0)), (h4, .inl (cyI, 1602, .inl f1)), (h5, .inl (cyI, 1602, .inl f2)), (h6, .inl (cyI, 3204, .inl f3)), (h7, .inr (4, [.ref h8, .ref h9, .int 0])), (h8, .inl (cyI, 4812, .inl f4)), (h9, .inl (cyI, 4812, .inl f5))]) (rest := []) hx hb hml hown hts (k_X1_sort_1 l dC dI cyI cyC h1 (v4) (.ref h6) (v5) (.int 0) (v6) (.int (-1)) (.int 0) (.int 0)) zo_X1_sort zv_X1_sort mw_497 ⟨by decide, by decide⟩ hK hP hD hS hA [1] [0, 2, 3, 4, 5, 6, 7, 8, 9] rfl rfl rfl rfl (by decide) rfl rfl hl.1 rfl rfl (Nat.le_of_ble_eq_true rfl) dX5_openBlock_4 ⟨by decide, by decide⟩ (fun r_102 w1 H locs hw hP hD hS => ?_)
  obtain ⟨rfl, rfl⟩ := hw
  have hP : va_P (dC, dI) vwCl [(h0, .inr (3, [v0, .ref h1, .ref h2, .ref h7, v1, v2, v3])), (h2, .inr (2, [.ref h3, .ref h4, .ref h5, v7, .int 0, v8, .int 0])), (h3, .inl (cyI, 1602, .inl f0)), (h4, .inl (cyI, 1602, .inl f1)), (h5, .inl (cyI, 1602, .inl f2)), (h6, .inl (cyI, 3204, .inl f3)), (h7, .inr (4, [.ref h8, .ref h9, .int 0])), (h8, .inl (cyI, 4812, .inl f4)), (h9, .inl (cyI, 4812, .inl f5)), (h1, .inr (0, [v4, .ref h6, v5, .int 0, v6, .int (-1), .int 0, .int 2, .int 0]))] H := hP
  have hD : va_D A [(h0, .inr (3, [v0, .ref h1, .ref h2, .ref h7, v1, v2, v3])), (h2, .inr (2, [.ref h3, .ref h4, .ref h5, v7, .int 0, v8, .int 0])), (h3, .inl (cyI, 1602, .inl f0)), (h4, .inl (cyI, 1602, .inl f1)), (h5, .inl (cyI, 1602, .inl f2)), (h6, .inl (cyI, 3204, .inl f3)), (h7, .inr (4, [.ref h8, .ref h9, .int 0])), (h8, .inl (cyI, 4812, .inl f4)), (h9, .inl (cyI, 4812, .inl f5)), (h1, .inr (0, [v4, .ref h6, v5, .int 0, v6, .int (-1), .int 0, .int 2, .int 0]))] := hD
  refine lv_bipush (v := 10) hx hb dX5_openBlock_7 (by decide) ?_
  refine lv_icmp_eq (tgt := 17) hx hb dX5_openBlock_9 (by decide) (fun _ => ?_) (fun h9 => absurd (by decide) h9)
  refine lv_aload_n hx hb dX5_openBlock_17 rfl (lv_at hl 0 rfl) ?_
  refine zcVv (wr := [(h6, .inl (cyI, 3204, .inl f3)), (h7, .inr (4, [.ref h8, .ref h9, .int 0])), (h8, .inl (cyI, 4812, .inl f4)), (h9, .inl (cyI, 4812, .inl f5))]) (rest := []) hx hb hml hown hts (k_X5_enter_1 l dC dI cyI cyC h0 h1 h2 h3 h4 h5 (v0) (.ref h7) (v1) (v2) (v3) (v4) (.ref h6) (v5) (v6) (.int (-1)) (.int 2) (.int 0) (v7) (v8) f0 f1 f2) zo_X5_enter zv_X5_enter mw_522 ⟨by decide, by decide⟩ hK hP hD hS hA [0, 9, 1, 2, 3, 4] [5, 6, 7, 8] rfl rfl rfl rfl (by decide) rfl rfl hl.1 rfl rfl (Nat.le_of_ble_eq_true rfl) dX5_openBlock_18 ⟨by decide, by decide⟩ (fun w1 H locs hw hP hD hS => ?_)
  subst hw
  have hP : va_P (dC, dI) vwCl [(h6, .inl (cyI, 3204, .inl f3)), (h7, .inr (4, [.ref h8, .ref h9, .int 0])), (h8, .inl (cyI, 4812, .inl f4)), (h9, .inl (cyI, 4812, .inl f5)), (h0, .inr (3, [v0, .ref h1, .ref h2, .ref h7, v1, v2, v3])), (h1, .inr (0, [v4, .ref h6, v5, .int 0, v6, .int (-1), .int 0, .int 2, .int 0])), (h2, .inr (2, [.ref h3, .ref h4, .ref h5, v7, .int 1, v8, .int 1])), (h3, .inl (cyI, 1602, .inl (upd f0 0 1))), (h4, .inl (cyI, 1602, .inl (upd f1 0 0))), (h5, .inl (cyI, 1602, .inl (upd f2 0 0)))] H := hP
  have hD : va_D A [(h6, .inl (cyI, 3204, .inl f3)), (h7, .inr (4, [.ref h8, .ref h9, .int 0])), (h8, .inl (cyI, 4812, .inl f4)), (h9, .inl (cyI, 4812, .inl f5)), (h0, .inr (3, [v0, .ref h1, .ref h2, .ref h7, v1, v2, v3])), (h1, .inr (0, [v4, .ref h6, v5, .int 0, v6, .int (-1), .int 0, .int 2, .int 0])), (h2, .inr (2, [.ref h3, .ref h4, .ref h5, v7, .int 1, v8, .int 1])), (h3, .inl (cyI, 1602, .inl (upd f0 0 1))), (h4, .inl (cyI, 1602, .inl (upd f1 0 0))), (h5, .inl (cyI, 1602, .inl (upd f2 0 0)))] := hD
  refine lv_aload_n hx hb dX5_openBlock_21 rfl (lv_at hl 0 rfl) ?_
  refine va_get (D := (dC, dI)) (ci := 3) (v := .ref h1) (C := RX5) (T := TX5) (N := 7) hx hb hts inlX5 hown hK hP 4 rfl rfl 1 (by decide) (hts _ mw_78) (fun _ h9 => h9) rfl dX5_openBlock_22 ?_
  refine zcVv (wr := [(h7, .inr (4, [.ref h8, .ref h9, .int 0])), (h8, .inl (cyI, 4812, .inl f4)), (h9, .inl (cyI, 4812, .inl f5)), (h0, .inr (3, [v0, .ref h1, .ref h2, .ref h7, v1, v2, v3])), (h2, .inr (2, [.ref h3, .ref h4, .ref h5, v7, .int 1, v8, .int 1])), (h3, .inl (cyI, 1602, .inl (upd f0 0 1))), (h4, .inl (cyI, 1602, .inl (upd f1 0 0))), (h5, .inl (cyI, 1602, .inl (upd f2 0 0)))]) (rest := []) hx hb hml hown hts (k_X1_take_1 l dC dI cyI cyC h1 h6 (v4) (v5) (v6) (.int 0) f3) zo_X1_take zv_X1_take mw_538 ⟨by decide, by decide⟩ hK hP hD hS hA [5, 0] [1, 2, 3, 4, 6, 7, 8, 9] rfl rfl rfl rfl (by decide) rfl rfl hl.1 rfl rfl (Nat.le_of_ble_eq_true rfl) dX5_openBlock_25 ⟨by decide, by decide⟩ (fun w1 H locs hw hP hD hS => ?_)
  subst hw
  have hP : va_P (dC, dI) vwCl [(h7, .inr (4, [.ref h8, .ref h9, .int 0])), (h8, .inl (cyI, 4812, .inl f4)), (h9, .inl (cyI, 4812, .inl f5)), (h0, .inr (3, [v0, .ref h1, .ref h2, .ref h7, v1, v2, v3])), (h2, .inr (2, [.ref h3, .ref h4, .ref h5, v7, .int 1, v8, .int 1])), (h3, .inl (cyI, 1602, .inl (upd f0 0 1))), (h4, .inl (cyI, 1602, .inl (upd f1 0 0))), (h5, .inl (cyI, 1602, .inl (upd f2 0 0))), (h1, .inr (0, [v4, .ref h6, v5, .int 1, v6, .int (-1), .int 0, .int 3, .int 0])), (h6, .inl (cyI, 3204, .inl (upd f3 0 (-10))))] H := hP
  have hD : va_D A [(h7, .inr (4, [.ref h8, .ref h9, .int 0])), (h8, .inl (cyI, 4812, .inl f4)), (h9, .inl (cyI, 4812, .inl f5)), (h0, .inr (3, [v0, .ref h1, .ref h2, .ref h7, v1, v2, v3])), (h2, .inr (2, [.ref h3, .ref h4, .ref h5, v7, .int 1, v8, .int 1])), (h3, .inl (cyI, 1602, .inl (upd f0 0 1))), (h4, .inl (cyI, 1602, .inl (upd f1 0 0))), (h5, .inl (cyI, 1602, .inl (upd f2 0 0))), (h1, .inr (0, [v4, .ref h6, v5, .int 1, v6, .int (-1), .int 0, .int 3, .int 0])), (h6, .inl (cyI, 3204, .inl (upd f3 0 (-10))))] := hD
  refine lv_aload_n hx hb dX5_openBlock_28 rfl (lv_at hl 0 rfl) ?_
  refine va_get (D := (dC, dI)) (ci := 3) (v := .ref h7) (C := RX5) (T := TX5) (N := 7) hx hb hts inlX5 hown hK hP 3 rfl rfl 3 (by decide) (hts _ mw_86) (fun _ h9 => h9) rfl dX5_openBlock_29 ?_
  refine lv_iload_n hx hb dX5_openBlock_32 rfl (lv_at hl 1 rfl) ?_
  refine lv_iload_n hx hb dX5_openBlock_33 rfl (lv_at hl 2 rfl) ?_
  refine zcVv (wr := [(h0, .inr (3, [v0, .ref h1, .ref h2, .ref h7, v1, v2, v3])), (h2, .inr (2, [.ref h3, .ref h4, .ref h5, v7, .int 1, v8, .int 1])), (h3, .inl (cyI, 1602, .inl (upd f0 0 1))), (h4, .inl (cyI, 1602, .inl (upd f1 0 0))), (h5, .inl (cyI, 1602, .inl (upd f2 0 0))), (h1, .inr (0, [v4, .ref h6, v5, .int 1, v6, .int (-1), .int 0, .int 3, .int 0])), (h6, .inl (cyI, 3204, .inl (upd f3 0 (-10))))]) (rest := []) hx hb hml hown hts (k_X6_push_1 l dC dI cyI cyC h7 h8 h9 f4 f5) zo_X6_push zv_X6_push mw_571 ⟨by decide, by decide⟩ hK hP hD hS hA [0, 1, 2] [3, 4, 5, 6, 7, 8, 9] rfl rfl rfl rfl (by decide) rfl rfl hl.1 rfl rfl (Nat.le_of_ble_eq_true rfl) dX5_openBlock_34 ⟨by decide, by decide⟩ (fun w1 H locs hw hP hD hS => ?_)
  subst hw
  have hP : va_P (dC, dI) vwCl [(h0, .inr (3, [v0, .ref h1, .ref h2, .ref h7, v1, v2, v3])), (h2, .inr (2, [.ref h3, .ref h4, .ref h5, v7, .int 1, v8, .int 1])), (h3, .inl (cyI, 1602, .inl (upd f0 0 1))), (h4, .inl (cyI, 1602, .inl (upd f1 0 0))), (h5, .inl (cyI, 1602, .inl (upd f2 0 0))), (h1, .inr (0, [v4, .ref h6, v5, .int 1, v6, .int (-1), .int 0, .int 3, .int 0])), (h6, .inl (cyI, 3204, .inl (upd f3 0 (-10)))), (h7, .inr (4, [.ref h8, .ref h9, .int 1])), (h8, .inl (cyI, 4812, .inl (upd f4 0 35))), (h9, .inl (cyI, 4812, .inl (upd f5 0 0)))] H := hP
  have hD : va_D A [(h0, .inr (3, [v0, .ref h1, .ref h2, .ref h7, v1, v2, v3])), (h2, .inr (2, [.ref h3, .ref h4, .ref h5, v7, .int 1, v8, .int 1])), (h3, .inl (cyI, 1602, .inl (upd f0 0 1))), (h4, .inl (cyI, 1602, .inl (upd f1 0 0))), (h5, .inl (cyI, 1602, .inl (upd f2 0 0))), (h1, .inr (0, [v4, .ref h6, v5, .int 1, v6, .int (-1), .int 0, .int 3, .int 0])), (h6, .inl (cyI, 3204, .inl (upd f3 0 (-10)))), (h7, .inr (4, [.ref h8, .ref h9, .int 1])), (h8, .inl (cyI, 4812, .inl (upd f4 0 35))), (h9, .inl (cyI, 4812, .inl (upd f5 0 0)))] := hD
  exact zr_v hx hb hr hlocks hK hP hD hS (by decide) (by decide) dX5_openBlock_37 rfl
set_option maxRecDepth 100000 in
set_option maxHeartbeats 4000000 in
theorem k_X6_isEmpty_1 (l : Launch) (dC : Nat → ClassId) (dI : Nat → Nat → Nat) (cyI cyC : ClassId) (h0 : Nat) (v0 : Value) (v1 : Value) : zM l (dC, dI) (zT cyI cyC) yX6_isEmpty cX6_isEmpty 1 (some .boolean) { frames := 1, cells := 0, slots := 0, locals := 64 } [.ref h0] [(h0, .inr (4, [v0, v1, .int 1]))] (zQi (dC, dI) (zT cyI cyC) (fun r w => r = 0 ∧ w = [(h0, .inr (4, [v0, v1, .int 1]))])) := by
  refine zM.of (by decide +kernel) (Nat.le_of_ble_eq_true rfl) ?_
  intro p e s m below meth c hx hb hr hlocks hml hown hnm hts hK A hA H hP hD hS ls hl
  have hown : s.vm.findClass RX6 = some m.cls := hown
  have hl : lv_has ls 1 [(0, .ref h0)] := hl
  refine lv_aload_n hx hb dX6_isEmpty_0 rfl (lv_at hl 0 rfl) ?_
  refine va_get (D := (dC, dI)) (ci := 4) (v := .int 1) (C := RX6) (T := TX6) (N := 3) hx hb hts inlX6 hown hK hP 0 rfl rfl 2 (by decide) (hts _ mw_463) (fun _ h9 => h9) rfl dX6_isEmpty_1 ?_
  refine lv_if_gt (tgt := 11) hx hb dX6_isEmpty_4 (by decide) (fun _ => ?_) (fun h9 => absurd (by decide) h9)
  refine lv_iconst (v := 0) hx hb dX6_isEmpty_11 (by decide) ?_
  exact zr_i hx hb hr hlocks hK hP hD hS (by decide) (by decide) dX6_isEmpty_12 rfl ⟨rfl, rfl⟩
set_option maxRecDepth 100000 in
set_option maxHeartbeats 4000000 in
theorem k_X6_topDue_1 (l : Launch) (dC : Nat → ClassId) (dI : Nat → Nat → Nat) (cyI cyC : ClassId) (h0 : Nat) (h1 : Nat) (v0 : Value) (f0 : Nat → Int32) : zM l (dC, dI) (zT cyI cyC) yX6_topDue cX6_topDue 1 (some .int) { frames := 1, cells := 0, slots := 0, locals := 64 } [.ref h0] [(h0, .inr (4, [.ref h1, v0, .int 1])), (h1, .inl (cyI, 4812, .inl (upd f0 0 35)))] (zQi (dC, dI) (zT cyI cyC) (fun r w => r = 35 ∧ w = [(h0, .inr (4, [.ref h1, v0, .int 1])), (h1, .inl (cyI, 4812, .inl (upd f0 0 35)))])) := by
  refine zM.of (by decide +kernel) (Nat.le_of_ble_eq_true rfl) ?_
  intro p e s m below meth c hx hb hr hlocks hml hown hnm hts hK A hA H hP hD hS ls hl
  have hown : s.vm.findClass RX6 = some m.cls := hown
  have hl : lv_has ls 1 [(0, .ref h0)] := hl
  refine lv_aload_n hx hb dX6_topDue_0 rfl (lv_at hl 0 rfl) ?_
  refine va_get (D := (dC, dI)) (ci := 4) (v := .int 1) (C := RX6) (T := TX6) (N := 3) hx hb hts inlX6 hown hK hP 0 rfl rfl 2 (by decide) (hts _ mw_463) (fun _ h9 => h9) rfl dX6_topDue_1 ?_
  refine lv_if_le (tgt := 31) hx hb dX6_topDue_4 (by decide) (fun h9 => absurd h9 (by decide)) (fun _ => ?_)
  refine lv_aload_n hx hb dX6_topDue_7 rfl (lv_at hl 0 rfl) ?_
  refine va_get (D := (dC, dI)) (ci := 4) (v := .int 1) (C := RX6) (T := TX6) (N := 3) hx hb hts inlX6 hown hK hP 0 rfl rfl 2 (by decide) (hts _ mw_463) (fun _ h9 => h9) rfl dX6_topDue_8 ?_
  refine lv_sipush (v := 4812) hx hb dX6_topDue_11 (by decide) ?_
  refine lv_icmp_gt (tgt := 31) hx hb dX6_topDue_14 (by decide) (fun h9 => absurd h9 (by decide)) (fun _ => ?_)
  refine lv_aload_n hx hb dX6_topDue_17 rfl (lv_at hl 0 rfl) ?_
  refine va_get (D := (dC, dI)) (ci := 4) (v := .ref h1) (C := RX6) (T := TX6) (N := 3) hx hb hts inlX6 hown hK hP 0 rfl rfl 0 (by decide) (hts _ mw_100) (fun _ h9 => h9) rfl dX6_topDue_18 ?_
  refine lv_aload_n hx hb dX6_topDue_21 rfl (lv_at hl 0 rfl) ?_
  refine va_get (D := (dC, dI)) (ci := 4) (v := .int 1) (C := RX6) (T := TX6) (N := 3) hx hb hts inlX6 hown hK hP 0 rfl rfl 2 (by decide) (hts _ mw_463) (fun _ h9 => h9) rfl dX6_topDue_22 ?_
  refine lv_iconst (v := 1) hx hb dX6_topDue_25 (by decide) ?_
  refine lv_isub hx hb dX6_topDue_26 ?_
  refine zl_i (y := 0) (by decide) ?_
  refine va_iald hx hb hK hP 1 0 rfl rfl (zin (by decide)) dX6_topDue_27 ?_
  refine zl_i (y := 35) rfl ?_
  refine lv_goto (tgt := 32) hx hb dX6_topDue_28 (by decide) ?_
  exact zr_i hx hb hr hlocks hK hP hD hS (by decide) (by decide) dX6_topDue_32 rfl ⟨rfl, rfl⟩
set_option maxRecDepth 100000 in
set_option maxHeartbeats 4000000 in
theorem k_X6_topNode_1 (l : Launch) (dC : Nat → ClassId) (dI : Nat → Nat → Nat) (cyI cyC : ClassId) (h0 : Nat) (h1 : Nat) (v0 : Value) (f0 : Nat → Int32) : zM l (dC, dI) (zT cyI cyC) yX6_topNode cX6_topNode 1 (some .int) { frames := 1, cells := 0, slots := 0, locals := 64 } [.ref h0] [(h0, .inr (4, [v0, .ref h1, .int 1])), (h1, .inl (cyI, 4812, .inl (upd f0 0 0)))] (zQi (dC, dI) (zT cyI cyC) (fun r w => r = 0 ∧ w = [(h0, .inr (4, [v0, .ref h1, .int 1])), (h1, .inl (cyI, 4812, .inl (upd f0 0 0)))])) := by
  refine zM.of (by decide +kernel) (Nat.le_of_ble_eq_true rfl) ?_
  intro p e s m below meth c hx hb hr hlocks hml hown hnm hts hK A hA H hP hD hS ls hl
  have hown : s.vm.findClass RX6 = some m.cls := hown
  have hl : lv_has ls 1 [(0, .ref h0)] := hl
  refine lv_aload_n hx hb dX6_topNode_0 rfl (lv_at hl 0 rfl) ?_
  refine va_get (D := (dC, dI)) (ci := 4) (v := .int 1) (C := RX6) (T := TX6) (N := 3) hx hb hts inlX6 hown hK hP 0 rfl rfl 2 (by decide) (hts _ mw_463) (fun _ h9 => h9) rfl dX6_topNode_1 ?_
  refine lv_if_le (tgt := 31) hx hb dX6_topNode_4 (by decide) (fun h9 => absurd h9 (by decide)) (fun _ => ?_)
  refine lv_aload_n hx hb dX6_topNode_7 rfl (lv_at hl 0 rfl) ?_
  refine va_get (D := (dC, dI)) (ci := 4) (v := .int 1) (C := RX6) (T := TX6) (N := 3) hx hb hts inlX6 hown hK hP 0 rfl rfl 2 (by decide) (hts _ mw_463) (fun _ h9 => h9) rfl dX6_topNode_8 ?_
  refine lv_sipush (v := 4812) hx hb dX6_topNode_11 (by decide) ?_
  refine lv_icmp_gt (tgt := 31) hx hb dX6_topNode_14 (by decide) (fun h9 => absurd h9 (by decide)) (fun _ => ?_)
  refine lv_aload_n hx hb dX6_topNode_17 rfl (lv_at hl 0 rfl) ?_
  refine va_get (D := (dC, dI)) (ci := 4) (v := .ref h1) (C := RX6) (T := TX6) (N := 3) hx hb hts inlX6 hown hK hP 0 rfl rfl 1 (by decide) (hts _ mw_101) (fun _ h9 => h9) rfl dX6_topNode_18 ?_
  refine lv_aload_n hx hb dX6_topNode_21 rfl (lv_at hl 0 rfl) ?_
  refine va_get (D := (dC, dI)) (ci := 4) (v := .int 1) (C := RX6) (T := TX6) (N := 3) hx hb hts inlX6 hown hK hP 0 rfl rfl 2 (by decide) (hts _ mw_463) (fun _ h9 => h9) rfl dX6_topNode_22 ?_
  refine lv_iconst (v := 1) hx hb dX6_topNode_25 (by decide) ?_
  refine lv_isub hx hb dX6_topNode_26 ?_
  refine zl_i (y := 0) (by decide) ?_
  refine va_iald hx hb hK hP 1 0 rfl rfl (zin (by decide)) dX6_topNode_27 ?_
  refine zl_i (y := 0) rfl ?_
  refine lv_goto (tgt := 32) hx hb dX6_topNode_28 (by decide) ?_
  exact zr_i hx hb hr hlocks hK hP hD hS (by decide) (by decide) dX6_topNode_32 rfl ⟨rfl, rfl⟩
set_option maxRecDepth 100000 in
set_option maxHeartbeats 4000000 in
theorem k_X6_pop_1 (l : Launch) (dC : Nat → ClassId) (dI : Nat → Nat → Nat) (cyI cyC : ClassId) (h0 : Nat) (v0 : Value) (v1 : Value) : zM l (dC, dI) (zT cyI cyC) yX6_pop cX6_pop 1 none { frames := 1, cells := 0, slots := 0, locals := 64 } [.ref h0] [(h0, .inr (4, [v0, v1, .int 1]))] (zQv (dC, dI) (zT cyI cyC) (fun w => w = [(h0, .inr (4, [v0, v1, .int 0]))])) := by
  refine zM.of (by decide +kernel) (Nat.le_of_ble_eq_true rfl) ?_
  intro p e s m below meth c hx hb hr hlocks hml hown hnm hts hK A hA H hP hD hS ls hl
  have hown : s.vm.findClass RX6 = some m.cls := hown
  have hl : lv_has ls 1 [(0, .ref h0)] := hl
  refine lv_aload_n hx hb dX6_pop_0 rfl (lv_at hl 0 rfl) ?_
  refine va_get (D := (dC, dI)) (ci := 4) (v := .int 1) (C := RX6) (T := TX6) (N := 3) hx hb hts inlX6 hown hK hP 0 rfl rfl 2 (by decide) (hts _ mw_463) (fun _ h9 => h9) rfl dX6_pop_1 ?_
  refine lv_if_le (tgt := 17) hx hb dX6_pop_4 (by decide) (fun h9 => absurd h9 (by decide)) (fun _ => ?_)
  refine lv_aload_n hx hb dX6_pop_7 rfl (lv_at hl 0 rfl) ?_
  refine lv_dup hx hb dX6_pop_8 rfl ?_
  refine va_get (D := (dC, dI)) (ci := 4) (v := .int 1) (C := RX6) (T := TX6) (N := 3) hx hb hts inlX6 hown hK hP 0 rfl rfl 2 (by decide) (hts _ mw_463) (fun _ h9 => h9) rfl dX6_pop_9 ?_
  refine lv_iconst (v := 1) hx hb dX6_pop_12 (by decide) ?_
  refine lv_isub hx hb dX6_pop_13 ?_
  refine zl_i (y := 0) (by decide) ?_
  refine va_put (D := (dC, dI)) (ci := 4) (v := .int 0) (ty := .int) (C := RX6) (T := TX6) (N := 3) hx hb hts inlX6 tyX6 tyX6_ok nmX6 hown hK hP hD hS 0 rfl rfl 2 (by decide) (hts _ mw_463) (fun _ h9 => h9) rfl (by decide +kernel) rfl rfl (Nat.le_of_ble_eq_true rfl) dX6_pop_14 (fun H locs hP hD hS => ?_)
  have hP : va_P (dC, dI) vwCl [(h0, .inr (4, [v0, v1, .int 0]))] H := hP
  have hD : va_D A [(h0, .inr (4, [v0, v1, .int 0]))] := hD
  exact zr_v hx hb hr hlocks hK hP hD hS (by decide) (by decide) dX6_pop_17 rfl
set_option maxRecDepth 100000 in
set_option maxHeartbeats 4000000 in
theorem k_X1_sort_2 (l : Launch) (dC : Nat → ClassId) (dI : Nat → Nat → Nat) (cyI cyC : ClassId) (h0 : Nat) (v0 : Value) (v1 : Value) (v2 : Value) (v3 : Value) (v4 : Value) (v5 : Value) (v6 : Value) (v7 : Value) : zM l (dC, dI) (zT cyI cyC) yX1_sort cX1_sort 1 (some .int) { frames := 1, cells := 0, slots := 0, locals := 64 } [.ref h0] [(h0, .inr (0, [v0, v1, v2, v3, v4, v5, v6, .int 3, v7]))] (zQi (dC, dI) (zT cyI cyC) (fun r w => r = 11 ∧ w = [(h0, .inr (0, [v0, v1, v2, v3, v4, v5, v6, .int 3, v7]))])) := by
  refine zM.of (by decide +kernel) (Nat.le_of_ble_eq_true rfl) ?_
  intro p e s m below meth c hx hb hr hlocks hml hown hnm hts hK A hA H hP hD hS ls hl
  have hown : s.vm.findClass RX1 = some m.cls := hown
  have hl : lv_has ls 1 [(0, .ref h0)] := hl
  refine lv_aload_n hx hb dX1_sort_0 rfl (lv_at hl 0 rfl) ?_
  refine va_get (D := (dC, dI)) (ci := 0) (v := .int 3) (C := RX1) (T := TX1) (N := 9) hx hb hts inlX1 hown hK hP 0 rfl rfl 7 (by decide) (hts _ mw_475) (fun _ h9 => h9) rfl dX1_sort_1 ?_
  refine lv_tableIn (off := 31) (tgt := 35) hx hb dX1_sort_4 (by decide) (by decide) rfl (by decide) ?_
  refine lv_bipush (v := 11) hx hb dX1_sort_35 (by decide) ?_
  exact zr_i hx hb hr hlocks hK hP hD hS (by decide) (by decide) dX1_sort_37 rfl ⟨rfl, rfl⟩
set_option maxRecDepth 100000 in
set_option maxHeartbeats 4000000 in
theorem k_X5_beginsThing_1 (l : Launch) (dC : Nat → ClassId) (dI : Nat → Nat → Nat) (cyI cyC : ClassId) : zM l (dC, dI) (zT cyI cyC) yX5_beginsThing cX5_beginsThing 2 (some .boolean) { frames := 1, cells := 0, slots := 0, locals := 64 } [.int 35, .int 11] [] (zQi (dC, dI) (zT cyI cyC) (fun r w => r = 0 ∧ w = [])) := by
  refine zM.of (by decide +kernel) (Nat.le_of_ble_eq_true rfl) ?_
  intro p e s m below meth c hx hb hr hlocks hml hown hnm hts hK A hA H hP hD hS ls hl
  have hown : s.vm.findClass RX5 = some m.cls := hown
  have hl : lv_has ls 2 [(0, .int 35), (1, .int 11)] := hl
  refine lv_iload_n hx hb dX5_beginsThing_0 rfl (lv_at hl 0 rfl) ?_
  refine lv_lookup (off := 27) (tgt := 28) hx hb dX5_beginsThing_1 (by decide) (by decide) (by decide) ?_
  refine lv_iload_n hx hb dX5_beginsThing_28 rfl (lv_at hl 1 rfl) ?_
  refine lv_if_ne (tgt := 36) hx hb dX5_beginsThing_29 (by decide) (fun _ => ?_) (fun h9 => absurd h9 (by decide))
  refine lv_iconst (v := 0) hx hb dX5_beginsThing_36 (by decide) ?_
  exact zr_i hx hb hr hlocks hK hP hD hS (by decide) (by decide) dX5_beginsThing_37 rfl ⟨rfl, rfl⟩
