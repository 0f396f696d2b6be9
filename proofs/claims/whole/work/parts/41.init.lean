def ce_X0 (E : bd_E) (h0 : Nat) (u : Nat → Nat) : va_W := [(h0, .inr (0, [.ref (u 1), .ref (u 2), .int 0, .int 0])), ((u 1), .inl ((bd_cI E), 20, .inl (fun _ => 0))), ((u 2), .inl ((bd_cI E), 20, .inl (fun _ => 0)))]
set_option maxRecDepth 100000 in
set_option maxHeartbeats 4000000 in
theorem c_X0_init (l : Launch) (E : bd_E) (W0 : va_W) (h0 : Nat) : sx_M l yX0_init cX0_init 1 1 12 2 40 E (W0 ++ [(h0, .inr (0, [.null, .null, .int 0, .int 0]))]) h0 (fun u => sx_B E (W0 ++ ce_X0 E h0 u)) := by
  refine sx_open (by decide +kernel) rfl (by decide) (fun G0 hG hGl hin ho => ?_)
  have hG : sx_OK (bd_wE G0 (sx_E0 E) 0 0) cX0_init 1 RX0 1 12 2 40 none := hG
  refine sx_ofX (G := bd_wE G0 (sx_E0 E) 0 0) (W0 := W0) (X := [(h0, .inr (0, [.null, .null, .int 0, .int 0]))]) ?_
  refine sx_aload_n hG dX0_init_0 rfl 0 rfl ?_
  refine sx_objInit hG oi_X0 (by decide) (Nat.le_of_ble_eq_true rfl) dX0_init_1 ?_
  refine sx_aload_n hG dX0_init_4 rfl 0 rfl ?_
  refine sx_bipush (v := 20) hG dX0_init_5 (by decide) ?_
  refine sx_newa (cA := (bd_cI E)) (ty := .int) hG 0 rfl rfl (fun _ h => h) rfl ac9_int 20 (by decide) (by decide) (by decide) dX0_init_7 (fun q7 => ?_)
  show sx_W (bd_wE G0 (sx_E0 E) 0 0) W0 [(h0, .inr (0, [.null, .null, .int 0, .int 0])), (q7, .inl ((bd_cI E), 20, .inl (fun _ => 0)))] 1 20 9 [(0, .ref h0)] [.ref q7, .ref h0]
  refine sx_putF (X' := [(h0, .inr (0, [.ref q7, .null, .int 0, .int 0])), (q7, .inl ((bd_cI E), 20, .inl (fun _ => 0)))]) (ci := 0) (ty := .array .int) hG hin 0 rfl rfl inX0 tyX0_ok nmX0 0 (by decide) wf_X0_9 rfl rfl rfl (by decide +kernel) rfl rfl (Nat.le_of_ble_eq_true rfl) dX0_init_9 rfl ?_
  refine sx_aload_n hG dX0_init_12 rfl 0 rfl ?_
  refine sx_bipush (v := 20) hG dX0_init_13 (by decide) ?_
  refine sx_newa (cA := (bd_cI E)) (ty := .int) hG 0 rfl rfl (fun _ h => h) rfl ac9_int 20 (by decide) (by decide) (by decide) dX0_init_15 (fun q15 => ?_)
  show sx_W (bd_wE G0 (sx_E0 E) 0 0) W0 [(h0, .inr (0, [.ref q7, .null, .int 0, .int 0])), (q7, .inl ((bd_cI E), 20, .inl (fun _ => 0))), (q15, .inl ((bd_cI E), 20, .inl (fun _ => 0)))] 2 40 17 [(0, .ref h0)] [.ref q15, .ref h0]
  refine sx_putF (X' := [(h0, .inr (0, [.ref q7, .ref q15, .int 0, .int 0])), (q7, .inl ((bd_cI E), 20, .inl (fun _ => 0))), (q15, .inl ((bd_cI E), 20, .inl (fun _ => 0)))]) (ci := 0) (ty := .array .int) hG hin 0 rfl rfl inX0 tyX0_ok nmX0 1 (by decide) wf_X0_15 rfl rfl rfl (by decide +kernel) rfl rfl (Nat.le_of_ble_eq_true rfl) dX0_init_17 rfl ?_
  exact sx_toX (sx_vret hG rfl ho (fun i => if i = 1 then q7 else if i = 2 then q15 else 0) (fun H h => h) dX0_init_20)
def ce_X1 (E : bd_E) (h0 : Nat) (u : Nat → Nat) : va_W := [(h0, .inr (1, [.ref (u 1), .ref (u 2), .ref (u 3), .ref (u 4), .ref (u 5), .ref (u 6), .ref (u 7), .ref (u 8), .int 0, .int 0, .int 0])), ((u 1), .inl ((bd_cI E), 12, .inl (fun _ => 0))), ((u 2), .inl ((bd_cI E), 12, .inl (fun _ => 0))), ((u 3), .inl ((bd_cZ E), 12, .inl (fun _ => 0))), ((u 4), .inl ((bd_cI E), 12, .inl (fun _ => 0))), ((u 5), .inl ((bd_cI E), 12, .inl (fun _ => 0))), ((u 6), .inl ((bd_cI E), 3, .inl (fun _ => 0))), ((u 7), .inl ((bd_cI E), 3, .inl (upd (upd (upd (fun _ => 0) 0 1) 1 1) 2 1))), ((u 8), .inl ((bd_cI E), 3, .inl (fun _ => 0)))]
set_option maxRecDepth 100000 in
set_option maxHeartbeats 4000000 in
theorem c_X1_init (l : Launch) (E : bd_E) (W0 : va_W) (h0 : Nat) : sx_M l yX1_init cX1_init 2 1 12 8 69 E (W0 ++ [(h0, .inr (1, [.null, .null, .null, .null, .null, .null, .null, .null, .int 0, .int 0, .int 0]))]) h0 (fun u => sx_B E (W0 ++ ce_X1 E h0 u)) := by
  refine sx_open (by decide +kernel) rfl (by decide) (fun G0 hG hGl hin ho => ?_)
  have hG : sx_OK (bd_wE G0 (sx_E0 E) 0 0) cX1_init 2 RX1 1 12 8 69 none := hG
  refine sx_ofX (G := bd_wE G0 (sx_E0 E) 0 0) (W0 := W0) (X := [(h0, .inr (1, [.null, .null, .null, .null, .null, .null, .null, .null, .int 0, .int 0, .int 0]))]) ?_
  refine sx_aload_n hG dX1_init_0 rfl 0 rfl ?_
  refine sx_objInit hG oi_X1 (by decide) (Nat.le_of_ble_eq_true rfl) dX1_init_1 ?_
  refine sx_aload_n hG dX1_init_4 rfl 0 rfl ?_
  refine sx_bipush (v := 12) hG dX1_init_5 (by decide) ?_
  refine sx_newa (cA := (bd_cI E)) (ty := .int) hG 0 rfl rfl (fun _ h => h) rfl ac9_int 12 (by decide) (by decide) (by decide) dX1_init_7 (fun q7 => ?_)
  show sx_W (bd_wE G0 (sx_E0 E) 0 0) W0 [(h0, .inr (1, [.null, .null, .null, .null, .null, .null, .null, .null, .int 0, .int 0, .int 0])), (q7, .inl ((bd_cI E), 12, .inl (fun _ => 0)))] 1 12 9 [(0, .ref h0)] [.ref q7, .ref h0]
  refine sx_putF (X' := [(h0, .inr (1, [.ref q7, .null, .null, .null, .null, .null, .null, .null, .int 0, .int 0, .int 0])), (q7, .inl ((bd_cI E), 12, .inl (fun _ => 0)))]) (ci := 1) (ty := .array .int) hG hin 0 rfl rfl inX1 tyX1_ok nmX1 0 (by decide) wf_X1_9 rfl rfl rfl (by decide +kernel) rfl rfl (Nat.le_of_ble_eq_true rfl) dX1_init_9 rfl ?_
  refine sx_aload_n hG dX1_init_12 rfl 0 rfl ?_
  refine sx_bipush (v := 12) hG dX1_init_13 (by decide) ?_
  refine sx_newa (cA := (bd_cI E)) (ty := .int) hG 0 rfl rfl (fun _ h => h) rfl ac9_int 12 (by decide) (by decide) (by decide) dX1_init_15 (fun q15 => ?_)
  show sx_W (bd_wE G0 (sx_E0 E) 0 0) W0 [(h0, .inr (1, [.ref q7, .null, .null, .null, .null, .null, .null, .null, .int 0, .int 0, .int 0])), (q7, .inl ((bd_cI E), 12, .inl (fun _ => 0))), (q15, .inl ((bd_cI E), 12, .inl (fun _ => 0)))] 2 24 17 [(0, .ref h0)] [.ref q15, .ref h0]
  refine sx_putF (X' := [(h0, .inr (1, [.ref q7, .ref q15, .null, .null, .null, .null, .null, .null, .int 0, .int 0, .int 0])), (q7, .inl ((bd_cI E), 12, .inl (fun _ => 0))), (q15, .inl ((bd_cI E), 12, .inl (fun _ => 0)))]) (ci := 1) (ty := .array .int) hG hin 0 rfl rfl inX1 tyX1_ok nmX1 1 (by decide) wf_X1_15 rfl rfl rfl (by decide +kernel) rfl rfl (Nat.le_of_ble_eq_true rfl) dX1_init_17 rfl ?_
  refine sx_aload_n hG dX1_init_20 rfl 0 rfl ?_
  refine sx_bipush (v := 12) hG dX1_init_21 (by decide) ?_
  refine sx_newa (cA := (bd_cZ E)) (ty := .boolean) hG 1 rfl rfl (fun _ h => h) rfl ac9_boolean 12 (by decide) (by decide) (by decide) dX1_init_23 (fun q23 => ?_)
  show sx_W (bd_wE G0 (sx_E0 E) 0 0) W0 [(h0, .inr (1, [.ref q7, .ref q15, .null, .null, .null, .null, .null, .null, .int 0, .int 0, .int 0])), (q7, .inl ((bd_cI E), 12, .inl (fun _ => 0))), (q15, .inl ((bd_cI E), 12, .inl (fun _ => 0))), (q23, .inl ((bd_cZ E), 12, .inl (fun _ => 0)))] 3 36 25 [(0, .ref h0)] [.ref q23, .ref h0]
  refine sx_putF (X' := [(h0, .inr (1, [.ref q7, .ref q15, .ref q23, .null, .null, .null, .null, .null, .int 0, .int 0, .int 0])), (q7, .inl ((bd_cI E), 12, .inl (fun _ => 0))), (q15, .inl ((bd_cI E), 12, .inl (fun _ => 0))), (q23, .inl ((bd_cZ E), 12, .inl (fun _ => 0)))]) (ci := 1) (ty := .array .boolean) hG hin 0 rfl rfl inX1 tyX1_ok nmX1 2 (by decide) wf_X1_18 rfl rfl rfl (by decide +kernel) rfl rfl (Nat.le_of_ble_eq_true rfl) dX1_init_25 rfl ?_
  refine sx_aload_n hG dX1_init_28 rfl 0 rfl ?_
  refine sx_bipush (v := 12) hG dX1_init_29 (by decide) ?_
  refine sx_newa (cA := (bd_cI E)) (ty := .int) hG 0 rfl rfl (fun _ h => h) rfl ac9_int 12 (by decide) (by decide) (by decide) dX1_init_31 (fun q31 => ?_)
  show sx_W (bd_wE G0 (sx_E0 E) 0 0) W0 [(h0, .inr (1, [.ref q7, .ref q15, .ref q23, .null, .null, .null, .null, .null, .int 0, .int 0, .int 0])), (q7, .inl ((bd_cI E), 12, .inl (fun _ => 0))), (q15, .inl ((bd_cI E), 12, .inl (fun _ => 0))), (q23, .inl ((bd_cZ E), 12, .inl (fun _ => 0))), (q31, .inl ((bd_cI E), 12, .inl (fun _ => 0)))] 4 48 33 [(0, .ref h0)] [.ref q31, .ref h0]
  refine sx_putF (X' := [(h0, .inr (1, [.ref q7, .ref q15, .ref q23, .ref q31, .null, .null, .null, .null, .int 0, .int 0, .int 0])), (q7, .inl ((bd_cI E), 12, .inl (fun _ => 0))), (q15, .inl ((bd_cI E), 12, .inl (fun _ => 0))), (q23, .inl ((bd_cZ E), 12, .inl (fun _ => 0))), (q31, .inl ((bd_cI E), 12, .inl (fun _ => 0)))]) (ci := 1) (ty := .array .int) hG hin 0 rfl rfl inX1 tyX1_ok nmX1 3 (by decide) wf_X1_22 rfl rfl rfl (by decide +kernel) rfl rfl (Nat.le_of_ble_eq_true rfl) dX1_init_33 rfl ?_
  refine sx_aload_n hG dX1_init_36 rfl 0 rfl ?_
  refine sx_bipush (v := 12) hG dX1_init_37 (by decide) ?_
  refine sx_newa (cA := (bd_cI E)) (ty := .int) hG 0 rfl rfl (fun _ h => h) rfl ac9_int 12 (by decide) (by decide) (by decide) dX1_init_39 (fun q39 => ?_)
  show sx_W (bd_wE G0 (sx_E0 E) 0 0) W0 [(h0, .inr (1, [.ref q7, .ref q15, .ref q23, .ref q31, .null, .null, .null, .null, .int 0, .int 0, .int 0])), (q7, .inl ((bd_cI E), 12, .inl (fun _ => 0))), (q15, .inl ((bd_cI E), 12, .inl (fun _ => 0))), (q23, .inl ((bd_cZ E), 12, .inl (fun _ => 0))), (q31, .inl ((bd_cI E), 12, .inl (fun _ => 0))), (q39, .inl ((bd_cI E), 12, .inl (fun _ => 0)))] 5 60 41 [(0, .ref h0)] [.ref q39, .ref h0]
  refine sx_putF (X' := [(h0, .inr (1, [.ref q7, .ref q15, .ref q23, .ref q31, .ref q39, .null, .null, .null, .int 0, .int 0, .int 0])), (q7, .inl ((bd_cI E), 12, .inl (fun _ => 0))), (q15, .inl ((bd_cI E), 12, .inl (fun _ => 0))), (q23, .inl ((bd_cZ E), 12, .inl (fun _ => 0))), (q31, .inl ((bd_cI E), 12, .inl (fun _ => 0))), (q39, .inl ((bd_cI E), 12, .inl (fun _ => 0)))]) (ci := 1) (ty := .array .int) hG hin 0 rfl rfl inX1 tyX1_ok nmX1 4 (by decide) wf_X1_25 rfl rfl rfl (by decide +kernel) rfl rfl (Nat.le_of_ble_eq_true rfl) dX1_init_41 rfl ?_
  refine sx_aload_n hG dX1_init_44 rfl 0 rfl ?_
  refine sx_iconst (v := 3) hG dX1_init_45 (by decide) ?_
  refine sx_newa (cA := (bd_cI E)) (ty := .int) hG 0 rfl rfl (fun _ h => h) rfl ac9_int 3 (by decide) (by decide) (by decide) dX1_init_46 (fun q46 => ?_)
  show sx_W (bd_wE G0 (sx_E0 E) 0 0) W0 [(h0, .inr (1, [.ref q7, .ref q15, .ref q23, .ref q31, .ref q39, .null, .null, .null, .int 0, .int 0, .int 0])), (q7, .inl ((bd_cI E), 12, .inl (fun _ => 0))), (q15, .inl ((bd_cI E), 12, .inl (fun _ => 0))), (q23, .inl ((bd_cZ E), 12, .inl (fun _ => 0))), (q31, .inl ((bd_cI E), 12, .inl (fun _ => 0))), (q39, .inl ((bd_cI E), 12, .inl (fun _ => 0))), (q46, .inl ((bd_cI E), 3, .inl (fun _ => 0)))] 6 63 48 [(0, .ref h0)] [.ref q46, .ref h0]
  refine sx_putF (X' := [(h0, .inr (1, [.ref q7, .ref q15, .ref q23, .ref q31, .ref q39, .ref q46, .null, .null, .int 0, .int 0, .int 0])), (q7, .inl ((bd_cI E), 12, .inl (fun _ => 0))), (q15, .inl ((bd_cI E), 12, .inl (fun _ => 0))), (q23, .inl ((bd_cZ E), 12, .inl (fun _ => 0))), (q31, .inl ((bd_cI E), 12, .inl (fun _ => 0))), (q39, .inl ((bd_cI E), 12, .inl (fun _ => 0))), (q46, .inl ((bd_cI E), 3, .inl (fun _ => 0)))]) (ci := 1) (ty := .array .int) hG hin 0 rfl rfl inX1 tyX1_ok nmX1 5 (by decide) wf_X1_28 rfl rfl rfl (by decide +kernel) rfl rfl (Nat.le_of_ble_eq_true rfl) dX1_init_48 rfl ?_
  refine sx_aload_n hG dX1_init_51 rfl 0 rfl ?_
  refine sx_iconst (v := 3) hG dX1_init_52 (by decide) ?_
  refine sx_newa (cA := (bd_cI E)) (ty := .int) hG 0 rfl rfl (fun _ h => h) rfl ac9_int 3 (by decide) (by decide) (by decide) dX1_init_53 (fun q53 => ?_)
  show sx_W (bd_wE G0 (sx_E0 E) 0 0) W0 [(h0, .inr (1, [.ref q7, .ref q15, .ref q23, .ref q31, .ref q39, .ref q46, .null, .null, .int 0, .int 0, .int 0])), (q7, .inl ((bd_cI E), 12, .inl (fun _ => 0))), (q15, .inl ((bd_cI E), 12, .inl (fun _ => 0))), (q23, .inl ((bd_cZ E), 12, .inl (fun _ => 0))), (q31, .inl ((bd_cI E), 12, .inl (fun _ => 0))), (q39, .inl ((bd_cI E), 12, .inl (fun _ => 0))), (q46, .inl ((bd_cI E), 3, .inl (fun _ => 0))), (q53, .inl ((bd_cI E), 3, .inl (fun _ => 0)))] 7 66 55 [(0, .ref h0)] [.ref q53, .ref h0]
  refine sx_putF (X' := [(h0, .inr (1, [.ref q7, .ref q15, .ref q23, .ref q31, .ref q39, .ref q46, .ref q53, .null, .int 0, .int 0, .int 0])), (q7, .inl ((bd_cI E), 12, .inl (fun _ => 0))), (q15, .inl ((bd_cI E), 12, .inl (fun _ => 0))), (q23, .inl ((bd_cZ E), 12, .inl (fun _ => 0))), (q31, .inl ((bd_cI E), 12, .inl (fun _ => 0))), (q39, .inl ((bd_cI E), 12, .inl (fun _ => 0))), (q46, .inl ((bd_cI E), 3, .inl (fun _ => 0))), (q53, .inl ((bd_cI E), 3, .inl (fun _ => 0)))]) (ci := 1) (ty := .array .int) hG hin 0 rfl rfl inX1 tyX1_ok nmX1 6 (by decide) wf_X1_31 rfl rfl rfl (by decide +kernel) rfl rfl (Nat.le_of_ble_eq_true rfl) dX1_init_55 rfl ?_
  refine sx_aload_n hG dX1_init_58 rfl 0 rfl ?_
  refine sx_iconst (v := 3) hG dX1_init_59 (by decide) ?_
  refine sx_newa (cA := (bd_cI E)) (ty := .int) hG 0 rfl rfl (fun _ h => h) rfl ac9_int 3 (by decide) (by decide) (by decide) dX1_init_60 (fun q60 => ?_)
  show sx_W (bd_wE G0 (sx_E0 E) 0 0) W0 [(h0, .inr (1, [.ref q7, .ref q15, .ref q23, .ref q31, .ref q39, .ref q46, .ref q53, .null, .int 0, .int 0, .int 0])), (q7, .inl ((bd_cI E), 12, .inl (fun _ => 0))), (q15, .inl ((bd_cI E), 12, .inl (fun _ => 0))), (q23, .inl ((bd_cZ E), 12, .inl (fun _ => 0))), (q31, .inl ((bd_cI E), 12, .inl (fun _ => 0))), (q39, .inl ((bd_cI E), 12, .inl (fun _ => 0))), (q46, .inl ((bd_cI E), 3, .inl (fun _ => 0))), (q53, .inl ((bd_cI E), 3, .inl (fun _ => 0))), (q60, .inl ((bd_cI E), 3, .inl (fun _ => 0)))] 8 69 62 [(0, .ref h0)] [.ref q60, .ref h0]
  refine sx_putF (X' := [(h0, .inr (1, [.ref q7, .ref q15, .ref q23, .ref q31, .ref q39, .ref q46, .ref q53, .ref q60, .int 0, .int 0, .int 0])), (q7, .inl ((bd_cI E), 12, .inl (fun _ => 0))), (q15, .inl ((bd_cI E), 12, .inl (fun _ => 0))), (q23, .inl ((bd_cZ E), 12, .inl (fun _ => 0))), (q31, .inl ((bd_cI E), 12, .inl (fun _ => 0))), (q39, .inl ((bd_cI E), 12, .inl (fun _ => 0))), (q46, .inl ((bd_cI E), 3, .inl (fun _ => 0))), (q53, .inl ((bd_cI E), 3, .inl (fun _ => 0))), (q60, .inl ((bd_cI E), 3, .inl (fun _ => 0)))]) (ci := 1) (ty := .array .int) hG hin 0 rfl rfl inX1 tyX1_ok nmX1 7 (by decide) wf_X1_34 rfl rfl rfl (by decide +kernel) rfl rfl (Nat.le_of_ble_eq_true rfl) dX1_init_62 rfl ?_
  refine sx_iconst (v := 0) hG dX1_init_65 (by decide) ?_
  refine sx_istore_n (lr := [(0, .ref h0)]) hG dX1_init_66 rfl (by decide) rfl ?_
  refine sx_iload_n hG dX1_init_67 rfl 0 rfl ?_
  refine sx_iconst (v := 3) hG dX1_init_68 (by decide) ?_
  refine sx_geN hG 85 dX1_init_69 (by decide) (by decide) ?_
  refine sx_aload_n hG dX1_init_72 rfl 1 rfl ?_
  refine sx_get (v := .ref q53) hG (W0.length + 0) (sx_at rfl) rfl inX1 6 (by decide) wf_X1_31 rfl rfl dX1_init_73 ?_
  refine sx_iload_n hG dX1_init_76 rfl 0 rfl ?_
  refine sx_iconst (v := 1) hG dX1_init_77 (by decide) ?_
  refine sx_iast (X' := [(h0, .inr (1, [.ref q7, .ref q15, .ref q23, .ref q31, .ref q39, .ref q46, .ref q53, .ref q60, .int 0, .int 0, .int 0])), (q7, .inl ((bd_cI E), 12, .inl (fun _ => 0))), (q15, .inl ((bd_cI E), 12, .inl (fun _ => 0))), (q23, .inl ((bd_cZ E), 12, .inl (fun _ => 0))), (q31, .inl ((bd_cI E), 12, .inl (fun _ => 0))), (q39, .inl ((bd_cI E), 12, .inl (fun _ => 0))), (q46, .inl ((bd_cI E), 3, .inl (fun _ => 0))), (q53, .inl ((bd_cI E), 3, .inl (upd (fun _ => 0) 0 1))), (q60, .inl ((bd_cI E), 3, .inl (fun _ => 0)))]) hG 7 rfl 0 (by decide) dX1_init_78 rfl ?_
  refine sx_iinc (v := 1) (lr := [(0, .ref h0)]) hG dX1_init_79 0 rfl (by decide) (by decide) rfl ?_
  refine sx_goto hG 67 dX1_init_82 (by decide) ?_
  refine sx_iload_n hG dX1_init_67 rfl 0 rfl ?_
  refine sx_iconst (v := 3) hG dX1_init_68 (by decide) ?_
  refine sx_geN hG 85 dX1_init_69 (by decide) (by decide) ?_
  refine sx_aload_n hG dX1_init_72 rfl 1 rfl ?_
  refine sx_get (v := .ref q53) hG (W0.length + 0) (sx_at rfl) rfl inX1 6 (by decide) wf_X1_31 rfl rfl dX1_init_73 ?_
  refine sx_iload_n hG dX1_init_76 rfl 0 rfl ?_
  refine sx_iconst (v := 1) hG dX1_init_77 (by decide) ?_
  refine sx_iast (X' := [(h0, .inr (1, [.ref q7, .ref q15, .ref q23, .ref q31, .ref q39, .ref q46, .ref q53, .ref q60, .int 0, .int 0, .int 0])), (q7, .inl ((bd_cI E), 12, .inl (fun _ => 0))), (q15, .inl ((bd_cI E), 12, .inl (fun _ => 0))), (q23, .inl ((bd_cZ E), 12, .inl (fun _ => 0))), (q31, .inl ((bd_cI E), 12, .inl (fun _ => 0))), (q39, .inl ((bd_cI E), 12, .inl (fun _ => 0))), (q46, .inl ((bd_cI E), 3, .inl (fun _ => 0))), (q53, .inl ((bd_cI E), 3, .inl (upd (upd (fun _ => 0) 0 1) 1 1))), (q60, .inl ((bd_cI E), 3, .inl (fun _ => 0)))]) hG 7 rfl 1 (by decide) dX1_init_78 rfl ?_
  refine sx_iinc (v := 2) (lr := [(0, .ref h0)]) hG dX1_init_79 0 rfl (by decide) (by decide) rfl ?_
  refine sx_goto hG 67 dX1_init_82 (by decide) ?_
  refine sx_iload_n hG dX1_init_67 rfl 0 rfl ?_
  refine sx_iconst (v := 3) hG dX1_init_68 (by decide) ?_
  refine sx_geN hG 85 dX1_init_69 (by decide) (by decide) ?_
  refine sx_aload_n hG dX1_init_72 rfl 1 rfl ?_
  refine sx_get (v := .ref q53) hG (W0.length + 0) (sx_at rfl) rfl inX1 6 (by decide) wf_X1_31 rfl rfl dX1_init_73 ?_
  refine sx_iload_n hG dX1_init_76 rfl 0 rfl ?_
  refine sx_iconst (v := 1) hG dX1_init_77 (by decide) ?_
  refine sx_iast (X' := [(h0, .inr (1, [.ref q7, .ref q15, .ref q23, .ref q31, .ref q39, .ref q46, .ref q53, .ref q60, .int 0, .int 0, .int 0])), (q7, .inl ((bd_cI E), 12, .inl (fun _ => 0))), (q15, .inl ((bd_cI E), 12, .inl (fun _ => 0))), (q23, .inl ((bd_cZ E), 12, .inl (fun _ => 0))), (q31, .inl ((bd_cI E), 12, .inl (fun _ => 0))), (q39, .inl ((bd_cI E), 12, .inl (fun _ => 0))), (q46, .inl ((bd_cI E), 3, .inl (fun _ => 0))), (q53, .inl ((bd_cI E), 3, .inl (upd (upd (upd (fun _ => 0) 0 1) 1 1) 2 1))), (q60, .inl ((bd_cI E), 3, .inl (fun _ => 0)))]) hG 7 rfl 2 (by decide) dX1_init_78 rfl ?_
  refine sx_iinc (v := 3) (lr := [(0, .ref h0)]) hG dX1_init_79 0 rfl (by decide) (by decide) rfl ?_
  refine sx_goto hG 67 dX1_init_82 (by decide) ?_
  refine sx_iload_n hG dX1_init_67 rfl 0 rfl ?_
  refine sx_iconst (v := 3) hG dX1_init_68 (by decide) ?_
  refine sx_geY hG 85 dX1_init_69 (by decide) (by decide) ?_
  exact sx_toX (sx_vret hG rfl ho (fun i => if i = 1 then q7 else if i = 2 then q15 else if i = 3 then q23 else if i = 4 then q31 else if i = 5 then q39 else if i = 6 then q46 else if i = 7 then q53 else if i = 8 then q60 else 0) (fun H h => h) dX1_init_85)
