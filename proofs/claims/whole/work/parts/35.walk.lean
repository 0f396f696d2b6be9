set_option maxRecDepth 100000 in
set_option maxHeartbeats 4000000 in
theorem c_X3_meet (l : Launch) (E : bd_E) (hE : bd_ok E 85) (p1 : Int32) (p2 : Int32) (p3 : Int32) (p4 : Int32) (p5 : Int32) (s_ : bd_S) : bd_M bd_Qi l yX3_meet cX3_meet 6 (some .int) 3 66 E [.ref (bd_ad E 55), .int p1, .int p2, .int p3, .int p4, .int p5] s_ (f_X3_meet p1 p2 p3 p4 p5 s_) := by
  refine bd_open bd_Qi (by decide +kernel) hE (Nat.le_of_ble_eq_true rfl) (fun G out hG hGE hGl ho => ?_)
  subst hGE
  have hG : bd_OK G cX3_meet 6 RX3 85 3 66 (some .int) := hG
  have h : bd_WF G out (f_X3_meet p1 p2 p3 p4 p5 s_) s_ 0 [(0, .ref (bd_ad (g_E G) 55)), (1, .int p1), (2, .int p2), (3, .int p3), (4, .int p4), (5, .int p5)] [] := by
    unfold f_X3_meet
    refine rr_aload_n hG dX3_meet_0 rfl 0 rfl ?_
    refine rr_iload_n hG dX3_meet_1 rfl 1 rfl ?_
    refine rr_iload_n hG dX3_meet_2 rfl 2 rfl ?_
    refine rr_iload_n hG dX3_meet_3 rfl 3 rfl ?_
    refine rr_cVi hG [.int p1, .int p2, .int p3] (c_X3_isOne (g_l G) (g_E G) (hG.hE.mono (by decide)) p1 p2 p3 s_) lk_X3_164 im_X3_isOne se_X3_isOne rfl (by decide) (by decide) rfl rfl (Nat.le_of_ble_eq_true rfl) (Nat.le_of_ble_eq_true rfl) rfl rfl (Nat.le_of_ble_eq_true rfl) dX3_meet_4 (fun z4 s4 => ?_)
    refine rr_if_ne hG 12 dX3_meet_7 (by decide) ?_ ?_
    · refine rr_iload hG dX3_meet_12 4 rfl ?_
      refine rr_ldc (v := (-99999)) hG kc_X3_105 dX3_meet_14 ?_
      refine rr_ldc (v := 99999) hG kc_X3_106 dX3_meet_16 ?_
      refine rr_cSi hG [.int p4, .int (-99999), .int 99999] (c_X3_in (g_l G) (g_E G) (hG.hE.mono (by decide)) p4 (-99999) 99999 s4) lk_X3_111 sm_X3_in (Nat.le_of_ble_eq_true rfl) (Nat.le_of_ble_eq_true rfl) rfl rfl (Nat.le_of_ble_eq_true rfl) dX3_meet_18 (fun z18 s18 => ?_)
      refine rr_if_eq hG 38 dX3_meet_21 (by decide) ?_ ?_
      · refine rr_bipush (v := (-2)) hG dX3_meet_38 (by decide) ?_
        exact rr_iret hG ho dX3_meet_40
      · refine rr_iload hG dX3_meet_24 5 rfl ?_
        refine rr_sipush (v := (-9999)) hG dX3_meet_26 (by decide) ?_
        refine rr_sipush (v := 9999) hG dX3_meet_29 (by decide) ?_
        refine rr_cSi hG [.int p5, .int (-9999), .int 9999] (c_X3_in (g_l G) (g_E G) (hG.hE.mono (by decide)) p5 (-9999) 9999 s18) lk_X3_111 sm_X3_in (Nat.le_of_ble_eq_true rfl) (Nat.le_of_ble_eq_true rfl) rfl rfl (Nat.le_of_ble_eq_true rfl) dX3_meet_32 (fun z32 s32 => ?_)
        refine rr_if_ne hG 41 dX3_meet_35 (by decide) ?_ ?_
        · refine rr_aload_n hG dX3_meet_41 rfl 0 rfl ?_
          refine rr_iload_n hG dX3_meet_42 rfl 1 rfl ?_
          refine rr_iload_n hG dX3_meet_43 rfl 2 rfl ?_
          refine rr_iload_n hG dX3_meet_44 rfl 3 rfl ?_
          refine rr_iconst (v := 3) hG dX3_meet_45 (by decide) ?_
          refine rr_iload hG dX3_meet_46 5 rfl ?_
          refine rr_iload hG dX3_meet_48 4 rfl ?_
          refine rr_cVi hG [.int p1, .int p2, .int p3, .int 3, .int p5, .int p4] (c_X3_mark (g_l G) (g_E G) (hG.hE.mono (by decide)) p1 p2 p3 3 p5 p4 s32) lk_X3_167 im_X3_mark se_X3_mark rfl (by decide) (by decide) rfl rfl (Nat.le_of_ble_eq_true rfl) (Nat.le_of_ble_eq_true rfl) rfl rfl (Nat.le_of_ble_eq_true rfl) dX3_meet_50 (fun z50 s50 => ?_)
          exact rr_iret hG ho dX3_meet_53
        · refine rr_bipush (v := (-2)) hG dX3_meet_38 (by decide) ?_
          exact rr_iret hG ho dX3_meet_40
    · refine rr_iconst (v := (-1)) hG dX3_meet_10 (by decide) ?_
      exact rr_iret hG ho dX3_meet_11
  exact h
set_option maxRecDepth 100000 in
set_option maxHeartbeats 4000000 in
theorem c_X3_strike (l : Launch) (E : bd_E) (hE : bd_ok E 85) (p1 : Int32) (s_ : bd_S) : bd_M bd_Qi l yX3_strike cX3_strike 2 (some .int) 2 43 E [.ref (bd_ad E 55), .int p1] s_ (f_X3_strike p1 s_) := by
  refine bd_open bd_Qi (by decide +kernel) hE (Nat.le_of_ble_eq_true rfl) (fun G out hG hGE hGl ho => ?_)
  subst hGE
  have hG : bd_OK G cX3_strike 2 RX3 85 2 43 (some .int) := hG
  have h : bd_WF G out (f_X3_strike p1 s_) s_ 0 [(0, .ref (bd_ad (g_E G) 55)), (1, .int p1)] [] := by
    unfold f_X3_strike
    refine rr_aload_n hG dX3_strike_0 rfl 0 rfl ?_
    refine rr_iload_n hG dX3_strike_1 rfl 1 rfl ?_
    refine rr_cVi hG [.int p1] (c_X3_isShip (g_l G) (g_E G) (hG.hE.mono (by decide)) p1 s_) lk_X3_158 im_X3_isShip se_X3_isShip rfl (by decide) (by decide) rfl rfl (Nat.le_of_ble_eq_true rfl) (Nat.le_of_ble_eq_true rfl) rfl rfl (Nat.le_of_ble_eq_true rfl) dX3_strike_2 (fun z2 s2 => ?_)
    refine rr_if_ne hG 10 dX3_strike_5 (by decide) ?_ ?_
    · refine rr_aload_n hG dX3_strike_10 rfl 0 rfl ?_
      refine gf_X3_45 hG (by decide) dX3_strike_11 ?_
      refine rr_iload_n hG dX3_strike_14 rfl 1 rfl ?_
      refine rr_iald hG rfl (by decide) dX3_strike_15 (fun z15 => ?_)
      refine rr_if_ne hG 22 dX3_strike_16 (by decide) ?_ ?_
      · refine rr_aload_n hG dX3_strike_22 rfl 0 rfl ?_
        refine gf_X3_45 hG (by decide) dX3_strike_23 ?_
        refine rr_iload_n hG dX3_strike_26 rfl 1 rfl ?_
        refine rr_dup2 hG dX3_strike_27 rfl rfl ?_
        refine rr_iald hG rfl (by decide) dX3_strike_28 (fun z28 => ?_)
        refine rr_iconst (v := 1) hG dX3_strike_29 (by decide) ?_
        refine rr_isub hG dX3_strike_30 (fun z30 => ?_)
        refine rr_iast hG rfl (by decide) dX3_strike_31 (fun s31 => ?_)
        refine rr_aload_n hG dX3_strike_32 rfl 0 rfl ?_
        refine gf_X3_45 hG (by decide) dX3_strike_33 ?_
        refine rr_iload_n hG dX3_strike_36 rfl 1 rfl ?_
        refine rr_iald hG rfl (by decide) dX3_strike_37 (fun z37 => ?_)
        exact rr_iret hG ho dX3_strike_38
      · refine rr_bipush (v := (-5)) hG dX3_strike_19 (by decide) ?_
        exact rr_iret hG ho dX3_strike_21
    · refine rr_iconst (v := (-1)) hG dX3_strike_8 (by decide) ?_
      exact rr_iret hG ho dX3_strike_9
  exact h
set_option maxRecDepth 100000 in
set_option maxHeartbeats 4000000 in
theorem b_X3_saw_36 {G : bd_G} {out : Int32 × bd_S} (hG : bd_OK G cX3_saw 5 RX3 85 2 43 (some .int)) (ho : bd_ends bd_Qi G out) (x1 : Int32) (x2 : Int32) (x3 : Int32) (t0 : Int32) (s_ : bd_S) : bd_WF G out (f_X3_saw_36 x1 x2 x3 t0 s_) s_ 36 [(0, .ref (bd_ad (g_E G) 55)), (1, .int x1), (2, .int x2), (3, .int x3)] [.int t0] := by
  unfold f_X3_saw_36
  refine rr_istore (lr := [(0, .ref (bd_ad (g_E G) 55)), (1, .int x1), (2, .int x2), (3, .int x3)]) hG dX3_saw_36 (by decide) rfl ?_
  refine rr_aload_n hG dX3_saw_38 rfl 1 rfl ?_
  refine gf_X3_63 hG (by decide) dX3_saw_39 ?_
  refine rr_bipush (v := 20) hG dX3_saw_42 (by decide) ?_
  refine rr_iload_n hG dX3_saw_44 rfl 2 rfl ?_
  refine rr_imul hG dX3_saw_45 (fun z45 => ?_)
  refine rr_iload_n hG dX3_saw_46 rfl 3 rfl ?_
  refine rr_iadd hG dX3_saw_47 (fun z47 => ?_)
  refine rr_iload_n hG dX3_saw_48 rfl 4 rfl ?_
  refine rr_zast hG rfl (by decide) dX3_saw_49 (fun s49 => ?_)
  refine rr_iload hG dX3_saw_50 0 rfl ?_
  exact rr_iret hG ho dX3_saw_52
set_option maxRecDepth 100000 in
set_option maxHeartbeats 4000000 in
theorem c_X3_saw (l : Launch) (E : bd_E) (hE : bd_ok E 85) (p1 : Int32) (p2 : Int32) (p3 : Int32) (s_ : bd_S) : bd_M bd_Qi l yX3_saw cX3_saw 5 (some .int) 2 43 E [.ref (bd_ad E 55), .int p1, .int p2, .int p3] s_ (f_X3_saw p1 p2 p3 s_) := by
  refine bd_open bd_Qi (by decide +kernel) hE (Nat.le_of_ble_eq_true rfl) (fun G out hG hGE hGl ho => ?_)
  subst hGE
  have hG : bd_OK G cX3_saw 5 RX3 85 2 43 (some .int) := hG
  have h : bd_WF G out (f_X3_saw p1 p2 p3 s_) s_ 0 [(0, .ref (bd_ad (g_E G) 55)), (1, .int p1), (2, .int p2), (3, .int p3)] [] := by
    unfold f_X3_saw
    refine rr_aload_n hG dX3_saw_0 rfl 0 rfl ?_
    refine rr_iload_n hG dX3_saw_1 rfl 1 rfl ?_
    refine rr_cVi hG [.int p1] (c_X3_isShip (g_l G) (g_E G) (hG.hE.mono (by decide)) p1 s_) lk_X3_158 im_X3_isShip se_X3_isShip rfl (by decide) (by decide) rfl rfl (Nat.le_of_ble_eq_true rfl) (Nat.le_of_ble_eq_true rfl) rfl rfl (Nat.le_of_ble_eq_true rfl) dX3_saw_2 (fun z2 s2 => ?_)
    refine rr_if_eq hG 15 dX3_saw_5 (by decide) ?_ ?_
    · refine rr_iconst (v := (-1)) hG dX3_saw_15 (by decide) ?_
      exact rr_iret hG ho dX3_saw_16
    · refine rr_iload_n hG dX3_saw_8 rfl 2 rfl ?_
      refine rr_cSi hG [.int p2] (c_X3_isDay (g_l G) (g_E G) (hG.hE.mono (by decide)) p2 s2) lk_X3_146 sm_X3_isDay (Nat.le_of_ble_eq_true rfl) (Nat.le_of_ble_eq_true rfl) rfl rfl (Nat.le_of_ble_eq_true rfl) dX3_saw_9 (fun z9 s9 => ?_)
      refine rr_if_ne hG 17 dX3_saw_12 (by decide) ?_ ?_
      · refine rr_aload_n hG dX3_saw_17 rfl 0 rfl ?_
        refine gf_X3_63 hG (by decide) dX3_saw_18 ?_
        refine rr_bipush (v := 20) hG dX3_saw_21 (by decide) ?_
        refine rr_iload_n hG dX3_saw_23 rfl 1 rfl ?_
        refine rr_imul hG dX3_saw_24 (fun z24 => ?_)
        refine rr_iload_n hG dX3_saw_25 rfl 2 rfl ?_
        refine rr_iadd hG dX3_saw_26 (fun z26 => ?_)
        refine rr_zald hG rfl (by decide) dX3_saw_27 (fun z27 => ?_)
        refine rr_if_eq hG 35 dX3_saw_28 (by decide) ?_ ?_
        · refine rr_iconst (v := 0) hG dX3_saw_35 (by decide) ?_
          exact (b_X3_saw_36 hG ho p1 p2 p3 0 s9)
        · refine rr_iconst (v := 1) hG dX3_saw_31 (by decide) ?_
          refine rr_goto (tgt := 36) hG dX3_saw_32 (by decide) ?_
          exact (b_X3_saw_36 hG ho p1 p2 p3 1 s9)
      · refine rr_iconst (v := (-1)) hG dX3_saw_15 (by decide) ?_
        exact rr_iret hG ho dX3_saw_16
  exact h
set_option maxRecDepth 100000 in
set_option maxHeartbeats 4000000 in
theorem b_X3_clock_76 {G : bd_G} {out : Int32 × bd_S} (hG : bd_OK G cX3_clock 7 RX3 85 2 43 (some .int)) (ho : bd_ends bd_Qi G out) (x5 : Int32) (x3 : Int32) (x4 : Int32) (t0 : Int32) (s_ : bd_S) : bd_WF G out (f_X3_clock_76 x5 x3 x4 t0 s_) s_ 76 [(5, .int x5), (0, .ref (bd_ad (g_E G) 55)), (3, .int x3), (4, .int x4)] [.int t0] := by
  unfold f_X3_clock_76
  refine rr_istore (lr := [(5, .int x5), (0, .ref (bd_ad (g_E G) 55)), (3, .int x3), (4, .int x4)]) hG dX3_clock_76 (by decide) rfl ?_
  refine rr_iload_n hG dX3_clock_78 rfl 3 rfl ?_
  refine rr_if_ne hG 94 dX3_clock_79 (by decide) ?_ ?_
  · refine rr_aload_n hG dX3_clock_94 rfl 2 rfl ?_
    refine gf_X3_69 hG (by decide) dX3_clock_95 ?_
    refine rr_iload hG dX3_clock_98 1 rfl ?_
    refine rr_iload hG dX3_clock_100 4 rfl ?_
    refine rr_iast hG rfl (by decide) dX3_clock_102 (fun s102 => ?_)
    refine rr_iload hG dX3_clock_103 0 rfl ?_
    exact rr_iret hG ho dX3_clock_105
  · refine rr_aload_n hG dX3_clock_82 rfl 2 rfl ?_
    refine gf_X3_66 hG (by decide) dX3_clock_83 ?_
    refine rr_iload hG dX3_clock_86 1 rfl ?_
    refine rr_iload hG dX3_clock_88 4 rfl ?_
    refine rr_iast hG rfl (by decide) dX3_clock_90 (fun s90 => ?_)
    refine rr_goto (tgt := 103) hG dX3_clock_91 (by decide) ?_
    refine rr_iload hG dX3_clock_103 0 rfl ?_
    exact rr_iret hG ho dX3_clock_105
set_option maxRecDepth 100000 in
set_option maxHeartbeats 4000000 in
theorem b_X3_clock_39 {G : bd_G} {out : Int32 × bd_S} (hG : bd_OK G cX3_clock 7 RX3 85 2 43 (some .int)) (ho : bd_ends bd_Qi G out) (x1 : Int32) (x2 : Int32) (x3 : Int32) (x4 : Int32) (t0 : Int32) (t1 : Int32) (t2 : Int32) (s_ : bd_S) : bd_WF G out (f_X3_clock_39 x1 x2 x3 x4 t0 t1 t2 s_) s_ 39 [(0, .ref (bd_ad (g_E G) 55)), (1, .int x1), (2, .int x2), (3, .int x3), (4, .int x4)] [.int t0, .int t1, .int t2] := by
  unfold f_X3_clock_39
  refine rr_cSi hG [.int t2, .int t1, .int t0] (c_X3_in (g_l G) (g_E G) (hG.hE.mono (by decide)) t2 t1 t0 s_) lk_X3_111 sm_X3_in (Nat.le_of_ble_eq_true rfl) (Nat.le_of_ble_eq_true rfl) rfl rfl (Nat.le_of_ble_eq_true rfl) dX3_clock_39 (fun z39 s39 => ?_)
  refine rr_if_ne hG 48 dX3_clock_42 (by decide) ?_ ?_
  · refine rr_iconst (v := 3) hG dX3_clock_48 (by decide) ?_
    refine rr_iload_n hG dX3_clock_49 rfl 1 rfl ?_
    refine rr_imul hG dX3_clock_50 (fun z50 => ?_)
    refine rr_iload_n hG dX3_clock_51 rfl 2 rfl ?_
    refine rr_iadd hG dX3_clock_52 (fun z52 => ?_)
    refine rr_istore (lr := [(0, .ref (bd_ad (g_E G) 55)), (1, .int x1), (2, .int x2), (3, .int x3), (4, .int x4)]) hG dX3_clock_53 (by decide) rfl ?_
    refine rr_iload_n hG dX3_clock_55 rfl 4 rfl ?_
    refine rr_if_ne hG 69 dX3_clock_56 (by decide) ?_ ?_
    · refine rr_aload_n hG dX3_clock_69 rfl 1 rfl ?_
      refine gf_X3_69 hG (by decide) dX3_clock_70 ?_
      refine rr_iload hG dX3_clock_73 0 rfl ?_
      refine rr_iald hG rfl (by decide) dX3_clock_75 (fun z75 => ?_)
      exact rr_sub [0, 1, 4, 5] rfl (b_X3_clock_76 hG ho z52 x3 x4 z75 s39)
    · refine rr_aload_n hG dX3_clock_59 rfl 1 rfl ?_
      refine gf_X3_66 hG (by decide) dX3_clock_60 ?_
      refine rr_iload hG dX3_clock_63 0 rfl ?_
      refine rr_iald hG rfl (by decide) dX3_clock_65 (fun z65 => ?_)
      refine rr_goto (tgt := 76) hG dX3_clock_66 (by decide) ?_
      exact rr_sub [0, 1, 4, 5] rfl (b_X3_clock_76 hG ho z52 x3 x4 z65 s39)
  · refine rr_bipush (v := (-2)) hG dX3_clock_45 (by decide) ?_
    exact rr_iret hG ho dX3_clock_47
set_option maxRecDepth 100000 in
set_option maxHeartbeats 4000000 in
theorem c_X3_clock (l : Launch) (E : bd_E) (hE : bd_ok E 85) (p1 : Int32) (p2 : Int32) (p3 : Int32) (p4 : Int32) (s_ : bd_S) : bd_M bd_Qi l yX3_clock cX3_clock 7 (some .int) 2 43 E [.ref (bd_ad E 55), .int p1, .int p2, .int p3, .int p4] s_ (f_X3_clock p1 p2 p3 p4 s_) := by
  refine bd_open bd_Qi (by decide +kernel) hE (Nat.le_of_ble_eq_true rfl) (fun G out hG hGE hGl ho => ?_)
  subst hGE
  have hG : bd_OK G cX3_clock 7 RX3 85 2 43 (some .int) := hG
  have h : bd_WF G out (f_X3_clock p1 p2 p3 p4 s_) s_ 0 [(0, .ref (bd_ad (g_E G) 55)), (1, .int p1), (2, .int p2), (3, .int p3), (4, .int p4)] [] := by
    unfold f_X3_clock
    refine rr_aload_n hG dX3_clock_0 rfl 0 rfl ?_
    refine rr_iload_n hG dX3_clock_1 rfl 1 rfl ?_
    refine rr_cVi hG [.int p1] (c_X3_isShip (g_l G) (g_E G) (hG.hE.mono (by decide)) p1 s_) lk_X3_158 im_X3_isShip se_X3_isShip rfl (by decide) (by decide) rfl rfl (Nat.le_of_ble_eq_true rfl) (Nat.le_of_ble_eq_true rfl) rfl rfl (Nat.le_of_ble_eq_true rfl) dX3_clock_2 (fun z2 s2 => ?_)
    refine rr_if_eq hG 15 dX3_clock_5 (by decide) ?_ ?_
    · refine rr_iconst (v := (-1)) hG dX3_clock_15 (by decide) ?_
      exact rr_iret hG ho dX3_clock_16
    · refine rr_iload_n hG dX3_clock_8 rfl 2 rfl ?_
      refine rr_cSi hG [.int p2] (c_X3_isClock (g_l G) (g_E G) (hG.hE.mono (by decide)) p2 s2) lk_X3_161 sm_X3_isClock (Nat.le_of_ble_eq_true rfl) (Nat.le_of_ble_eq_true rfl) rfl rfl (Nat.le_of_ble_eq_true rfl) dX3_clock_9 (fun z9 s9 => ?_)
      refine rr_if_ne hG 17 dX3_clock_12 (by decide) ?_ ?_
      · refine rr_iload_n hG dX3_clock_17 rfl 3 rfl ?_
        refine rr_iconst (v := 0) hG dX3_clock_18 (by decide) ?_
        refine rr_iconst (v := 1) hG dX3_clock_19 (by decide) ?_
        refine rr_cSi hG [.int p3, .int 0, .int 1] (c_X3_in (g_l G) (g_E G) (hG.hE.mono (by decide)) p3 0 1 s9) lk_X3_111 sm_X3_in (Nat.le_of_ble_eq_true rfl) (Nat.le_of_ble_eq_true rfl) rfl rfl (Nat.le_of_ble_eq_true rfl) dX3_clock_20 (fun z20 s20 => ?_)
        refine rr_if_eq hG 45 dX3_clock_23 (by decide) ?_ ?_
        · refine rr_bipush (v := (-2)) hG dX3_clock_45 (by decide) ?_
          exact rr_iret hG ho dX3_clock_47
        · refine rr_iload hG dX3_clock_26 4 rfl ?_
          refine rr_iload_n hG dX3_clock_28 rfl 3 rfl ?_
          refine rr_iload_n hG dX3_clock_29 rfl 3 rfl ?_
          refine rr_if_ne hG 37 dX3_clock_30 (by decide) ?_ ?_
          · refine rr_bipush (v := 9) hG dX3_clock_37 (by decide) ?_
            exact (b_X3_clock_39 hG ho p1 p2 p3 p4 9 p3 p4 s20)
          · refine rr_iconst (v := 5) hG dX3_clock_33 (by decide) ?_
            refine rr_goto (tgt := 39) hG dX3_clock_34 (by decide) ?_
            exact (b_X3_clock_39 hG ho p1 p2 p3 p4 5 p3 p4 s20)
      · refine rr_iconst (v := (-1)) hG dX3_clock_15 (by decide) ?_
        exact rr_iret hG ho dX3_clock_16
  exact h
set_option maxRecDepth 100000 in
set_option maxHeartbeats 4000000 in
theorem c_X3_warm (l : Launch) (E : bd_E) (hE : bd_ok E 85) (p1 : Int32) (p2 : Int32) (s_ : bd_S) : bd_M bd_Qi l yX3_warm cX3_warm 4 (some .int) 2 42 E [.ref (bd_ad E 55), .int p1, .int p2] s_ (f_X3_warm p1 p2 s_) := by
  refine bd_open bd_Qi (by decide +kernel) hE (Nat.le_of_ble_eq_true rfl) (fun G out hG hGE hGl ho => ?_)
  subst hGE
  have hG : bd_OK G cX3_warm 4 RX3 85 2 42 (some .int) := hG
  have h : bd_WF G out (f_X3_warm p1 p2 s_) s_ 0 [(0, .ref (bd_ad (g_E G) 55)), (1, .int p1), (2, .int p2)] [] := by
    unfold f_X3_warm
    refine rr_iload_n hG dX3_warm_0 rfl 1 rfl ?_
    refine rr_cSi hG [.int p1] (c_X3_isDay (g_l G) (g_E G) (hG.hE.mono (by decide)) p1 s_) lk_X3_146 sm_X3_isDay (Nat.le_of_ble_eq_true rfl) (Nat.le_of_ble_eq_true rfl) rfl rfl (Nat.le_of_ble_eq_true rfl) dX3_warm_1 (fun z1 s1 => ?_)
    refine rr_if_ne hG 9 dX3_warm_4 (by decide) ?_ ?_
    · refine rr_iload_n hG dX3_warm_9 rfl 2 rfl ?_
      refine rr_iconst (v := 0) hG dX3_warm_10 (by decide) ?_
      refine rr_bipush (v := 9) hG dX3_warm_11 (by decide) ?_
      refine rr_cSi hG [.int p2, .int 0, .int 9] (c_X3_in (g_l G) (g_E G) (hG.hE.mono (by decide)) p2 0 9 s1) lk_X3_111 sm_X3_in (Nat.le_of_ble_eq_true rfl) (Nat.le_of_ble_eq_true rfl) rfl rfl (Nat.le_of_ble_eq_true rfl) dX3_warm_13 (fun z13 s13 => ?_)
      refine rr_if_ne hG 22 dX3_warm_16 (by decide) ?_ ?_
      · refine rr_aload_n hG dX3_warm_22 rfl 0 rfl ?_
        refine gf_X3_42 hG (by decide) dX3_warm_23 ?_
        refine rr_iload_n hG dX3_warm_26 rfl 1 rfl ?_
        refine rr_iald hG rfl (by decide) dX3_warm_27 (fun z27 => ?_)
        refine rr_istore_n (lr := [(0, .ref (bd_ad (g_E G) 55)), (1, .int p1), (2, .int p2)]) hG dX3_warm_28 rfl (by decide) rfl ?_
        refine rr_aload_n hG dX3_warm_29 rfl 1 rfl ?_
        refine gf_X3_42 hG (by decide) dX3_warm_30 ?_
        refine rr_iload_n hG dX3_warm_33 rfl 2 rfl ?_
        refine rr_iload_n hG dX3_warm_34 rfl 3 rfl ?_
        refine rr_iast hG rfl (by decide) dX3_warm_35 (fun s35 => ?_)
        refine rr_iload_n hG dX3_warm_36 rfl 0 rfl ?_
        exact rr_iret hG ho dX3_warm_37
      · refine rr_bipush (v := (-2)) hG dX3_warm_19 (by decide) ?_
        exact rr_iret hG ho dX3_warm_21
    · refine rr_iconst (v := (-1)) hG dX3_warm_7 (by decide) ?_
      exact rr_iret hG ho dX3_warm_8
  exact h
set_option maxRecDepth 100000 in
set_option maxHeartbeats 4000000 in
theorem c_X3_doesCount (l : Launch) (E : bd_E) (hE : bd_ok E 85) (p1 : Int32) (p2 : Int32) (s_ : bd_S) : bd_M bd_Qi l yX3_doesCount cX3_doesCount 4 (some .boolean) 0 0 E [.ref (bd_ad E 55), .int p1, .int p2] s_ (f_X3_doesCount p1 p2 s_) := by
  refine bd_open bd_Qi (by decide +kernel) hE (Nat.le_of_ble_eq_true rfl) (fun G out hG hGE hGl ho => ?_)
  subst hGE
  have hG : bd_OK G cX3_doesCount 4 RX3 85 0 0 (some .boolean) := hG
  have h : bd_WF G out (f_X3_doesCount p1 p2 s_) s_ 0 [(0, .ref (bd_ad (g_E G) 55)), (1, .int p1), (2, .int p2)] [] := by
    unfold f_X3_doesCount
    refine rr_aload_n hG dX3_doesCount_0 rfl 0 rfl ?_
    refine gf_X3_51 hG (by decide) dX3_doesCount_1 ?_
    refine rr_iload_n hG dX3_doesCount_4 rfl 2 rfl ?_
    refine rr_iald hG rfl (by decide) dX3_doesCount_5 (fun z5 => ?_)
    refine rr_istore_n (lr := [(0, .ref (bd_ad (g_E G) 55)), (1, .int p1), (2, .int p2)]) hG dX3_doesCount_6 rfl (by decide) rfl ?_
    refine rr_aload_n hG dX3_doesCount_7 rfl 1 rfl ?_
    refine gf_X3_54 hG (by decide) dX3_doesCount_8 ?_
    refine rr_iload_n hG dX3_doesCount_11 rfl 3 rfl ?_
    refine rr_iald hG rfl (by decide) dX3_doesCount_12 (fun z12 => ?_)
    refine rr_iconst (v := 3) hG dX3_doesCount_13 (by decide) ?_
    refine rr_icmp_eq hG 48 dX3_doesCount_14 (by decide) ?_ ?_
    · refine rr_iconst (v := 1) hG dX3_doesCount_48 (by decide) ?_
      refine rr_goto (tgt := 53) hG dX3_doesCount_49 (by decide) ?_
      exact rr_zret hG ho dX3_doesCount_53
    · refine rr_iload_n hG dX3_doesCount_17 rfl 0 rfl ?_
      refine rr_aload_n hG dX3_doesCount_18 rfl 1 rfl ?_
      refine gf_X3_93 hG (by decide) dX3_doesCount_19 (fun z19 => ?_)
      refine rr_icmp_eq hG 52 dX3_doesCount_22 (by decide) ?_ ?_
      · refine rr_iconst (v := 0) hG dX3_doesCount_52 (by decide) ?_
        exact rr_zret hG ho dX3_doesCount_53
      · refine rr_aload_n hG dX3_doesCount_25 rfl 1 rfl ?_
        refine gf_X3_38 hG (by decide) dX3_doesCount_26 ?_
        refine rr_iload_n hG dX3_doesCount_29 rfl 0 rfl ?_
        refine rr_zald hG rfl (by decide) dX3_doesCount_30 (fun z30 => ?_)
        refine rr_if_eq hG 48 dX3_doesCount_31 (by decide) ?_ ?_
        · refine rr_iconst (v := 1) hG dX3_doesCount_48 (by decide) ?_
          refine rr_goto (tgt := 53) hG dX3_doesCount_49 (by decide) ?_
          exact rr_zret hG ho dX3_doesCount_53
        · refine rr_aload_n hG dX3_doesCount_34 rfl 1 rfl ?_
          refine gf_X3_63 hG (by decide) dX3_doesCount_35 ?_
          refine rr_bipush (v := 20) hG dX3_doesCount_38 (by decide) ?_
          refine rr_iload_n hG dX3_doesCount_40 rfl 2 rfl ?_
          refine rr_imul hG dX3_doesCount_41 (fun z41 => ?_)
          refine rr_iload_n hG dX3_doesCount_42 rfl 0 rfl ?_
          refine rr_iadd hG dX3_doesCount_43 (fun z43 => ?_)
          refine rr_zald hG rfl (by decide) dX3_doesCount_44 (fun z44 => ?_)
          refine rr_if_ne hG 52 dX3_doesCount_45 (by decide) ?_ ?_
          · refine rr_iconst (v := 0) hG dX3_doesCount_52 (by decide) ?_
            exact rr_zret hG ho dX3_doesCount_53
          · refine rr_iconst (v := 1) hG dX3_doesCount_48 (by decide) ?_
            refine rr_goto (tgt := 53) hG dX3_doesCount_49 (by decide) ?_
            exact rr_zret hG ho dX3_doesCount_53
  exact h
set_option maxRecDepth 100000 in
set_option maxHeartbeats 4000000 in
theorem b_X3_lay_10 {G : bd_G} {out : Int32 × bd_S} (hG : bd_OK G cX3_lay 10 RX3 85 3 67 (some .boolean)) (ho : bd_ends bd_Qi G out) {k58 : Int32 → Int32 → bd_S → Option (Int32 × bd_S)} (hk58 : ∀ (x1 : Int32) (x2 : Int32) (s_ : bd_S), bd_WF G out (k58 x1 x2 s_) s_ 58 [(0, .ref (bd_ad (g_E G) 55)), (1, .int x1), (2, .int x2)] []) : ∀ (n_ : Nat) (x3 : Int32) (x1 : Int32) (x2 : Int32) (s_ : bd_S), bd_WF G out (f_X3_lay_10 k58 n_ x3 x1 x2 s_) s_ 10 [(3, .int x3), (0, .ref (bd_ad (g_E G) 55)), (1, .int x1), (2, .int x2)] [] := by
  intro n_
  induction n_ with
  | zero => intros; intro hF; cases hF
  | succ n_ ih =>
    intro x3 x1 x2 s_
    rw [f_X3_lay_10]
    refine rr_iload_n hG dX3_lay_10 rfl 0 rfl ?_
    refine rr_bipush (v := 20) hG dX3_lay_11 (by decide) ?_
    refine rr_icmp_ge hG 58 dX3_lay_13 (by decide) ?_ ?_
    · exact rr_sub [1, 2, 3] rfl (hk58 x1 x2 s_)
    · refine rr_aload_n hG dX3_lay_16 rfl 1 rfl ?_
      refine gf_X3_90 hG (by decide) dX3_lay_17 ?_
      refine rr_iload_n hG dX3_lay_20 rfl 0 rfl ?_
      refine rr_aload_n hG dX3_lay_21 rfl 1 rfl ?_
      refine gf_X3_90 hG (by decide) dX3_lay_22 ?_
      refine rr_iload_n hG dX3_lay_25 rfl 0 rfl ?_
      refine rr_iconst (v := 1) hG dX3_lay_26 (by decide) ?_
      refine rr_isub hG dX3_lay_27 (fun z27 => ?_)
      refine rr_iald hG rfl (by decide) dX3_lay_28 (fun z28 => ?_)
      refine rr_aload_n hG dX3_lay_29 rfl 1 rfl ?_
      refine gf_X3_66 hG (by decide) dX3_lay_30 ?_
      refine rr_iconst (v := 3) hG dX3_lay_33 (by decide) ?_
      refine rr_iload_n hG dX3_lay_34 rfl 2 rfl ?_
      refine rr_imul hG dX3_lay_35 (fun z35 => ?_)
      refine rr_iload_n hG dX3_lay_36 rfl 3 rfl ?_
      refine rr_iadd hG dX3_lay_37 (fun z37 => ?_)
      refine rr_iald hG rfl (by decide) dX3_lay_38 (fun z38 => ?_)
      refine rr_aload_n hG dX3_lay_39 rfl 1 rfl ?_
      refine gf_X3_42 hG (by decide) dX3_lay_40 ?_
      refine rr_iload_n hG dX3_lay_43 rfl 0 rfl ?_
      refine rr_iconst (v := 1) hG dX3_lay_44 (by decide) ?_
      refine rr_isub hG dX3_lay_45 (fun z45 => ?_)
      refine rr_iald hG rfl (by decide) dX3_lay_46 (fun z46 => ?_)
      refine rr_iconst (v := 5) hG dX3_lay_47 (by decide) ?_
      refine rr_isub hG dX3_lay_48 (fun z48 => ?_)
      refine rr_imul hG dX3_lay_49 (fun z49 => ?_)
      refine rr_iadd hG dX3_lay_50 (fun z50 => ?_)
      refine rr_iast hG rfl (by decide) dX3_lay_51 (fun s51 => ?_)
      refine rr_iinc (v := 1) (lr := [(0, .ref (bd_ad (g_E G) 55)), (1, .int x1), (2, .int x2)]) hG dX3_lay_52 0 rfl (by decide) (by decide) rfl (fun z52 => ?_)
      refine rr_goto (tgt := 10) hG dX3_lay_55 (by decide) ?_
      exact ih z52 x1 x2 s51
set_option maxRecDepth 100000 in
set_option maxHeartbeats 4000000 in
theorem b_X3_lay_223 {G : bd_G} {out : Int32 × bd_S} (hG : bd_OK G cX3_lay 10 RX3 85 3 67 (some .boolean)) (ho : bd_ends bd_Qi G out) {k60 : Int32 → Int32 → Int32 → bd_S → Option (Int32 × bd_S)} (hk60 : ∀ (x3 : Int32) (x1 : Int32) (x2 : Int32) (s_ : bd_S), bd_WF G out (k60 x3 x1 x2 s_) s_ 60 [(3, .int x3), (0, .ref (bd_ad (g_E G) 55)), (1, .int x1), (2, .int x2)] []) (x8 : Int32) (x5 : Int32) (x4 : Int32) (x3 : Int32) (x1 : Int32) (x2 : Int32) (t0 : Int32) (s_ : bd_S) : bd_WF G out (f_X3_lay_223 k60 x8 x5 x4 x3 x1 x2 t0 s_) s_ 223 [(8, .int x8), (5, .int x5), (4, .int x4), (3, .int x3), (0, .ref (bd_ad (g_E G) 55)), (1, .int x1), (2, .int x2)] [.int t0] := by
  unfold f_X3_lay_223
  refine rr_istore (lr := [(8, .int x8), (5, .int x5), (4, .int x4), (3, .int x3), (0, .ref (bd_ad (g_E G) 55)), (1, .int x1), (2, .int x2)]) hG dX3_lay_223 (by decide) rfl ?_
  refine rr_aload_n hG dX3_lay_225 rfl 5 rfl ?_
  refine rr_iload hG dX3_lay_226 2 rfl ?_
  refine rr_aload_n hG dX3_lay_228 rfl 5 rfl ?_
  refine gf_X3_60 hG (by decide) dX3_lay_229 ?_
  refine rr_iload hG dX3_lay_232 3 rfl ?_
  refine rr_iald hG rfl (by decide) dX3_lay_234 (fun z234 => ?_)
  refine rr_aload_n hG dX3_lay_235 rfl 5 rfl ?_
  refine rr_iload hG dX3_lay_236 2 rfl ?_
  refine rr_iconst (v := 1) hG dX3_lay_238 (by decide) ?_
  refine rr_cVi hG [.int x5, .int 1] (c_X3_lateOf (g_l G) (g_E G) (hG.hE.mono (by decide)) x5 1 s_) lk_X3_155 im_X3_lateOf se_X3_lateOf rfl (by decide) (by decide) rfl rfl (Nat.le_of_ble_eq_true rfl) (Nat.le_of_ble_eq_true rfl) rfl rfl (Nat.le_of_ble_eq_true rfl) dX3_lay_239 (fun z239 s239 => ?_)
  refine rr_isub hG dX3_lay_242 (fun z242 => ?_)
  refine rr_iload hG dX3_lay_243 0 rfl ?_
  refine rr_isub hG dX3_lay_245 (fun z245 => ?_)
  refine rr_aload_n hG dX3_lay_246 rfl 5 rfl ?_
  refine gf_X3_60 hG (by decide) dX3_lay_247 ?_
  refine rr_iload hG dX3_lay_250 3 rfl ?_
  refine rr_iald hG rfl (by decide) dX3_lay_252 (fun z252 => ?_)
  refine rr_aload_n hG dX3_lay_253 rfl 5 rfl ?_
  refine rr_iload hG dX3_lay_254 2 rfl ?_
  refine rr_iconst (v := 0) hG dX3_lay_256 (by decide) ?_
  refine rr_cVi hG [.int x5, .int 0] (c_X3_lateOf (g_l G) (g_E G) (hG.hE.mono (by decide)) x5 0 s239) lk_X3_155 im_X3_lateOf se_X3_lateOf rfl (by decide) (by decide) rfl rfl (Nat.le_of_ble_eq_true rfl) (Nat.le_of_ble_eq_true rfl) rfl rfl (Nat.le_of_ble_eq_true rfl) dX3_lay_257 (fun z257 s257 => ?_)
  refine rr_isub hG dX3_lay_260 (fun z260 => ?_)
  refine rr_iload hG dX3_lay_261 1 rfl ?_
  refine rr_isub hG dX3_lay_263 (fun z263 => ?_)
  refine rr_cVv hG [.int x5, .int z245, .int z263] (c_X3_within (g_l G) (g_E G) (hG.hE.mono (by decide)) x5 z245 z263 s257) lk_X3_129 im_X3_within se_X3_within rfl (by decide) (by decide) rfl rfl (Nat.le_of_ble_eq_true rfl) (Nat.le_of_ble_eq_true rfl) rfl rfl (Nat.le_of_ble_eq_true rfl) dX3_lay_264 (fun s264 => ?_)
  refine rr_iinc (v := 1) (lr := [(9, .int t0), (8, .int x8), (5, .int x5), (4, .int x4), (0, .ref (bd_ad (g_E G) 55)), (1, .int x1), (2, .int x2)]) hG dX3_lay_267 4 rfl (by decide) (by decide) rfl (fun z267 => ?_)
  refine rr_goto (tgt := 60) hG dX3_lay_270 (by decide) ?_
  exact rr_sub [0, 5, 6, 7] rfl (hk60 z267 x1 x2 s264)
set_option maxRecDepth 100000 in
set_option maxHeartbeats 4000000 in
theorem b_X3_lay_195 {G : bd_G} {out : Int32 × bd_S} (hG : bd_OK G cX3_lay 10 RX3 85 3 67 (some .boolean)) (ho : bd_ends bd_Qi G out) {k60 : Int32 → Int32 → Int32 → bd_S → Option (Int32 × bd_S)} (hk60 : ∀ (x3 : Int32) (x1 : Int32) (x2 : Int32) (s_ : bd_S), bd_WF G out (k60 x3 x1 x2 s_) s_ 60 [(3, .int x3), (0, .ref (bd_ad (g_E G) 55)), (1, .int x1), (2, .int x2)] []) (x7 : Int32) (x6 : Int32) (x5 : Int32) (x4 : Int32) (x3 : Int32) (x1 : Int32) (x2 : Int32) (t0 : Int32) (s_ : bd_S) : bd_WF G out (f_X3_lay_195 k60 x7 x6 x5 x4 x3 x1 x2 t0 s_) s_ 195 [(7, .int x7), (6, .int x6), (5, .int x5), (4, .int x4), (3, .int x3), (0, .ref (bd_ad (g_E G) 55)), (1, .int x1), (2, .int x2)] [.int t0] := by
  unfold f_X3_lay_195
  refine rr_istore (lr := [(7, .int x7), (6, .int x6), (5, .int x5), (4, .int x4), (3, .int x3), (0, .ref (bd_ad (g_E G) 55)), (1, .int x1), (2, .int x2)]) hG dX3_lay_195 (by decide) rfl ?_
  refine rr_iload hG dX3_lay_197 1 rfl ?_
  refine rr_if_ne hG 206 dX3_lay_199 (by decide) ?_ ?_
  · refine rr_iload hG dX3_lay_206 1 rfl ?_
    refine rr_iconst (v := 1) hG dX3_lay_208 (by decide) ?_
    refine rr_icmp_ne hG 216 dX3_lay_209 (by decide) ?_ ?_
    · refine rr_bipush (v := 7) hG dX3_lay_216 (by decide) ?_
      refine rr_iload hG dX3_lay_218 2 rfl ?_
      refine rr_imul hG dX3_lay_220 (fun z220 => ?_)
      refine rr_iconst (v := 3) hG dX3_lay_221 (by decide) ?_
      refine rr_iadd hG dX3_lay_222 (fun z222 => ?_)
      exact rr_sub [0, 3, 4, 5, 6, 7, 8] rfl (b_X3_lay_223 hG ho hk60 t0 x5 x4 x3 x1 x2 z222 s_)
    · refine rr_iconst (v := 1) hG dX3_lay_212 (by decide) ?_
      refine rr_goto (tgt := 223) hG dX3_lay_213 (by decide) ?_
      exact rr_sub [0, 3, 4, 5, 6, 7, 8] rfl (b_X3_lay_223 hG ho hk60 t0 x5 x4 x3 x1 x2 1 s_)
  · refine rr_iconst (v := 2) hG dX3_lay_202 (by decide) ?_
    refine rr_goto (tgt := 223) hG dX3_lay_203 (by decide) ?_
    exact rr_sub [0, 3, 4, 5, 6, 7, 8] rfl (b_X3_lay_223 hG ho hk60 t0 x5 x4 x3 x1 x2 2 s_)
set_option maxRecDepth 100000 in
set_option maxHeartbeats 4000000 in
theorem b_X3_lay_60 {G : bd_G} {out : Int32 × bd_S} (hG : bd_OK G cX3_lay 10 RX3 85 3 67 (some .boolean)) (ho : bd_ends bd_Qi G out) : ∀ (n_ : Nat) (x3 : Int32) (x1 : Int32) (x2 : Int32) (s_ : bd_S), bd_WF G out (f_X3_lay_60 n_ x3 x1 x2 s_) s_ 60 [(3, .int x3), (0, .ref (bd_ad (g_E G) 55)), (1, .int x1), (2, .int x2)] [] := by
  intro n_
  induction n_ with
  | zero => intros; intro hF; cases hF
  | succ n_ ih =>
    intro x3 x1 x2 s_
    rw [f_X3_lay_60]
    refine rr_iload_n hG dX3_lay_60 rfl 0 rfl ?_
    refine rr_aload_n hG dX3_lay_61 rfl 1 rfl ?_
    refine gf_X3_45 hG (by decide) dX3_lay_62 ?_
    refine rr_iload_n hG dX3_lay_65 rfl 2 rfl ?_
    refine rr_iald hG rfl (by decide) dX3_lay_66 (fun z66 => ?_)
    refine rr_icmp_ge hG 273 dX3_lay_67 (by decide) ?_ ?_
    · refine rr_aload_n hG dX3_lay_273 rfl 1 rfl ?_
      refine rr_cVi hG [] (c_X3_narrow (g_l G) (g_E G) (hG.hE.mono (by decide)) s_) lk_X3_143 im_X3_narrow se_X3_narrow rfl (by decide) (by decide) rfl rfl (Nat.le_of_ble_eq_true rfl) (Nat.le_of_ble_eq_true rfl) rfl rfl (Nat.le_of_ble_eq_true rfl) dX3_lay_274 (fun z274 s274 => ?_)
      exact rr_zret hG ho dX3_lay_277
    · refine rr_bipush (v := 12) hG dX3_lay_70 (by decide) ?_
      refine rr_iload_n hG dX3_lay_72 rfl 2 rfl ?_
      refine rr_imul hG dX3_lay_73 (fun z73 => ?_)
      refine rr_iload_n hG dX3_lay_74 rfl 0 rfl ?_
      refine rr_iadd hG dX3_lay_75 (fun z75 => ?_)
      refine rr_istore (lr := [(3, .int x3), (0, .ref (bd_ad (g_E G) 55)), (1, .int x1), (2, .int x2)]) hG dX3_lay_76 (by decide) rfl ?_
      refine rr_aload_n hG dX3_lay_78 rfl 2 rfl ?_
      refine gf_X3_48 hG (by decide) dX3_lay_79 ?_
      refine rr_iload hG dX3_lay_82 0 rfl ?_
      refine rr_iald hG rfl (by decide) dX3_lay_84 (fun z84 => ?_)
      refine rr_iload_n hG dX3_lay_85 rfl 4 rfl ?_
      refine rr_icmp_ne hG 267 dX3_lay_86 (by decide) ?_ ?_
      · refine rr_iinc (v := 1) (lr := [(4, .int z75), (0, .ref (bd_ad (g_E G) 55)), (1, .int x1), (2, .int x2)]) hG dX3_lay_267 1 rfl (by decide) (by decide) rfl (fun z267 => ?_)
        refine rr_goto (tgt := 60) hG dX3_lay_270 (by decide) ?_
        exact rr_sub [0, 2, 3, 4] rfl (ih z267 x1 x2 s_)
      · refine rr_aload_n hG dX3_lay_89 rfl 2 rfl ?_
        refine rr_iload_n hG dX3_lay_90 rfl 3 rfl ?_
        refine rr_iload hG dX3_lay_91 0 rfl ?_
        refine rr_cVi hG [.int x1, .int z75] (c_X3_doesCount (g_l G) (g_E G) (hG.hE.mono (by decide)) x1 z75 s_) lk_X3_171 im_X3_doesCount se_X3_doesCount rfl (by decide) (by decide) rfl rfl (Nat.le_of_ble_eq_true rfl) (Nat.le_of_ble_eq_true rfl) rfl rfl (Nat.le_of_ble_eq_true rfl) dX3_lay_93 (fun z93 s93 => ?_)
        refine rr_if_eq hG 267 dX3_lay_96 (by decide) ?_ ?_
        · refine rr_iinc (v := 1) (lr := [(4, .int z75), (0, .ref (bd_ad (g_E G) 55)), (1, .int x1), (2, .int x2)]) hG dX3_lay_267 1 rfl (by decide) (by decide) rfl (fun z267 => ?_)
          refine rr_goto (tgt := 60) hG dX3_lay_270 (by decide) ?_
          exact rr_sub [0, 2, 3, 4] rfl (ih z267 x1 x2 s93)
        · refine rr_aload_n hG dX3_lay_99 rfl 2 rfl ?_
          refine gf_X3_51 hG (by decide) dX3_lay_100 ?_
          refine rr_iload hG dX3_lay_103 0 rfl ?_
          refine rr_iald hG rfl (by decide) dX3_lay_105 (fun z105 => ?_)
          refine rr_istore (lr := [(4, .int z75), (3, .int x3), (0, .ref (bd_ad (g_E G) 55)), (1, .int x1), (2, .int x2)]) hG dX3_lay_106 (by decide) rfl ?_
          refine rr_aload_n hG dX3_lay_108 rfl 3 rfl ?_
          refine gf_X3_57 hG (by decide) dX3_lay_109 ?_
          refine rr_iload hG dX3_lay_112 1 rfl ?_
          refine rr_iald hG rfl (by decide) dX3_lay_114 (fun z114 => ?_)
          refine rr_istore (lr := [(5, .int z105), (4, .int z75), (3, .int x3), (0, .ref (bd_ad (g_E G) 55)), (1, .int x1), (2, .int x2)]) hG dX3_lay_115 (by decide) rfl ?_
          refine rr_aload_n hG dX3_lay_117 rfl 4 rfl ?_
          refine gf_X3_54 hG (by decide) dX3_lay_118 ?_
          refine rr_iload hG dX3_lay_121 2 rfl ?_
          refine rr_iald hG rfl (by decide) dX3_lay_123 (fun z123 => ?_)
          refine rr_istore (lr := [(6, .int z114), (5, .int z105), (4, .int z75), (3, .int x3), (0, .ref (bd_ad (g_E G) 55)), (1, .int x1), (2, .int x2)]) hG dX3_lay_124 (by decide) rfl ?_
          refine rr_iload hG dX3_lay_126 0 rfl ?_
          refine rr_iconst (v := 3) hG dX3_lay_128 (by decide) ?_
          refine rr_icmp_ne hG 169 dX3_lay_129 (by decide) ?_ ?_
          · refine rr_iload hG dX3_lay_169 0 rfl ?_
            refine rr_if_ne hG 179 dX3_lay_171 (by decide) ?_ ?_
            · refine rr_iload hG dX3_lay_179 0 rfl ?_
              refine rr_iconst (v := 1) hG dX3_lay_181 (by decide) ?_
              refine rr_icmp_ne hG 189 dX3_lay_182 (by decide) ?_ ?_
              · refine rr_iconst (v := 5) hG dX3_lay_189 (by decide) ?_
                refine rr_iload hG dX3_lay_190 1 rfl ?_
                refine rr_imul hG dX3_lay_192 (fun z192 => ?_)
                refine rr_iconst (v := 3) hG dX3_lay_193 (by decide) ?_
                refine rr_isub hG dX3_lay_194 (fun z194 => ?_)
                exact (b_X3_lay_195 hG ho ih z123 z114 z105 z75 x3 x1 x2 z194 s93)
              · refine rr_iconst (v := (-1)) hG dX3_lay_185 (by decide) ?_
                refine rr_goto (tgt := 195) hG dX3_lay_186 (by decide) ?_
                exact (b_X3_lay_195 hG ho ih z123 z114 z105 z75 x3 x1 x2 (-1) s93)
            · refine rr_bipush (v := (-2)) hG dX3_lay_174 (by decide) ?_
              refine rr_goto (tgt := 195) hG dX3_lay_176 (by decide) ?_
              exact (b_X3_lay_195 hG ho ih z123 z114 z105 z75 x3 x1 x2 (-2) s93)
          · refine rr_aload_n hG dX3_lay_132 rfl 5 rfl ?_
            refine rr_iload hG dX3_lay_133 2 rfl ?_
            refine rr_aload_n hG dX3_lay_135 rfl 5 rfl ?_
            refine gf_X3_60 hG (by decide) dX3_lay_136 ?_
            refine rr_iload hG dX3_lay_139 3 rfl ?_
            refine rr_iald hG rfl (by decide) dX3_lay_141 (fun z141 => ?_)
            refine rr_iconst (v := 4) hG dX3_lay_142 (by decide) ?_
            refine rr_iload hG dX3_lay_143 1 rfl ?_
            refine rr_imul hG dX3_lay_145 (fun z145 => ?_)
            refine rr_isub hG dX3_lay_146 (fun z146 => ?_)
            refine rr_iconst (v := 4) hG dX3_lay_147 (by decide) ?_
            refine rr_isub hG dX3_lay_148 (fun z148 => ?_)
            refine rr_aload_n hG dX3_lay_149 rfl 5 rfl ?_
            refine gf_X3_60 hG (by decide) dX3_lay_150 ?_
            refine rr_iload hG dX3_lay_153 3 rfl ?_
            refine rr_iald hG rfl (by decide) dX3_lay_155 (fun z155 => ?_)
            refine rr_iconst (v := 4) hG dX3_lay_156 (by decide) ?_
            refine rr_iload hG dX3_lay_157 1 rfl ?_
            refine rr_imul hG dX3_lay_159 (fun z159 => ?_)
            refine rr_isub hG dX3_lay_160 (fun z160 => ?_)
            refine rr_iconst (v := 4) hG dX3_lay_161 (by decide) ?_
            refine rr_iadd hG dX3_lay_162 (fun z162 => ?_)
            refine rr_cVv hG [.int z105, .int z148, .int z162] (c_X3_within (g_l G) (g_E G) (hG.hE.mono (by decide)) z105 z148 z162 s93) lk_X3_129 im_X3_within se_X3_within rfl (by decide) (by decide) rfl rfl (Nat.le_of_ble_eq_true rfl) (Nat.le_of_ble_eq_true rfl) rfl rfl (Nat.le_of_ble_eq_true rfl) dX3_lay_163 (fun s163 => ?_)
            refine rr_goto (tgt := 267) hG dX3_lay_166 (by decide) ?_
            refine rr_iinc (v := 1) (lr := [(7, .int z123), (6, .int z114), (5, .int z105), (4, .int z75), (0, .ref (bd_ad (g_E G) 55)), (1, .int x1), (2, .int x2)]) hG dX3_lay_267 4 rfl (by decide) (by decide) rfl (fun z267 => ?_)
            refine rr_goto (tgt := 60) hG dX3_lay_270 (by decide) ?_
            exact rr_sub [0, 5, 6, 7] rfl (ih z267 x1 x2 s163)
set_option maxRecDepth 100000 in
set_option maxHeartbeats 4000000 in
theorem c_X3_lay (l : Launch) (E : bd_E) (hE : bd_ok E 85) (p1 : Int32) (p2 : Int32) (s_ : bd_S) : bd_M bd_Qi l yX3_lay cX3_lay 10 (some .boolean) 3 67 E [.ref (bd_ad E 55), .int p1, .int p2] s_ (f_X3_lay p1 p2 s_) := by
  refine bd_open bd_Qi (by decide +kernel) hE (Nat.le_of_ble_eq_true rfl) (fun G out hG hGE hGl ho => ?_)
  subst hGE
  have hG : bd_OK G cX3_lay 10 RX3 85 3 67 (some .boolean) := hG
  have h : bd_WF G out (f_X3_lay p1 p2 s_) s_ 0 [(0, .ref (bd_ad (g_E G) 55)), (1, .int p1), (2, .int p2)] [] := by
    unfold f_X3_lay
    refine rr_aload_n hG dX3_lay_0 rfl 0 rfl ?_
    refine rr_ldc (v := 99999) hG kc_X3_106 dX3_lay_1 ?_
    refine rr_bipush (v := 99) hG dX3_lay_3 (by decide) ?_
    refine rr_cVv hG [.int 99999, .int 99] (c_X3_start (g_l G) (g_E G) (hG.hE.mono (by decide)) 99999 99 s_) lk_X3_136 im_X3_start se_X3_start rfl (by decide) (by decide) rfl rfl (Nat.le_of_ble_eq_true rfl) (Nat.le_of_ble_eq_true rfl) rfl rfl (Nat.le_of_ble_eq_true rfl) dX3_lay_5 (fun s5 => ?_)
    refine rr_iconst (v := 1) hG dX3_lay_8 (by decide) ?_
    refine rr_istore_n (lr := [(0, .ref (bd_ad (g_E G) 55)), (1, .int p1), (2, .int p2)]) hG dX3_lay_9 rfl (by decide) rfl ?_
    refine (b_X3_lay_10 hG ho (fun x1e x2e e58 => ?_) FU_ 1 p1 p2 s5)
    · refine rr_iconst (v := 0) hG dX3_lay_58 (by decide) ?_
      refine rr_istore_n (lr := [(0, .ref (bd_ad (g_E G) 55)), (1, .int x1e), (2, .int x2e)]) hG dX3_lay_59 rfl (by decide) rfl ?_
      exact (b_X3_lay_60 hG ho FU_ 0 x1e x2e e58)
  exact h
set_option maxRecDepth 100000 in
set_option maxHeartbeats 4000000 in
theorem c_X3_jumped (l : Launch) (E : bd_E) (hE : bd_ok E 85) (p1 : Int32) (p2 : Int32) (s_ : bd_S) : bd_M bd_Qi l yX3_jumped cX3_jumped 3 (some .int) 4 96 E [.ref (bd_ad E 55), .int p1, .int p2] s_ (f_X3_jumped p1 p2 s_) := by
  refine bd_open bd_Qi (by decide +kernel) hE (Nat.le_of_ble_eq_true rfl) (fun G out hG hGE hGl ho => ?_)
  subst hGE
  have hG : bd_OK G cX3_jumped 3 RX3 85 4 96 (some .int) := hG
  have h : bd_WF G out (f_X3_jumped p1 p2 s_) s_ 0 [(0, .ref (bd_ad (g_E G) 55)), (1, .int p1), (2, .int p2)] [] := by
    unfold f_X3_jumped
    refine rr_aload_n hG dX3_jumped_0 rfl 0 rfl ?_
    refine rr_iload_n hG dX3_jumped_1 rfl 1 rfl ?_
    refine rr_cVi hG [.int p1] (c_X3_isShip (g_l G) (g_E G) (hG.hE.mono (by decide)) p1 s_) lk_X3_158 im_X3_isShip se_X3_isShip rfl (by decide) (by decide) rfl rfl (Nat.le_of_ble_eq_true rfl) (Nat.le_of_ble_eq_true rfl) rfl rfl (Nat.le_of_ble_eq_true rfl) dX3_jumped_2 (fun z2 s2 => ?_)
    refine rr_if_eq hG 15 dX3_jumped_5 (by decide) ?_ ?_
    · refine rr_iconst (v := (-1)) hG dX3_jumped_15 (by decide) ?_
      exact rr_iret hG ho dX3_jumped_16
    · refine rr_iload_n hG dX3_jumped_8 rfl 2 rfl ?_
      refine rr_cSi hG [.int p2] (c_X3_isClock (g_l G) (g_E G) (hG.hE.mono (by decide)) p2 s2) lk_X3_161 sm_X3_isClock (Nat.le_of_ble_eq_true rfl) (Nat.le_of_ble_eq_true rfl) rfl rfl (Nat.le_of_ble_eq_true rfl) dX3_jumped_9 (fun z9 s9 => ?_)
      refine rr_if_ne hG 17 dX3_jumped_12 (by decide) ?_ ?_
      · refine rr_aload_n hG dX3_jumped_17 rfl 0 rfl ?_
        refine rr_iload_n hG dX3_jumped_18 rfl 1 rfl ?_
        refine rr_iload_n hG dX3_jumped_19 rfl 2 rfl ?_
        refine rr_cVi hG [.int p1, .int p2] (c_X3_lay (g_l G) (g_E G) (hG.hE.mono (by decide)) p1 p2 s9) lk_X3_175 im_X3_lay se_X3_lay rfl (by decide) (by decide) rfl rfl (Nat.le_of_ble_eq_true rfl) (Nat.le_of_ble_eq_true rfl) rfl rfl (Nat.le_of_ble_eq_true rfl) dX3_jumped_20 (fun z20 s20 => ?_)
        refine rr_if_eq hG 30 dX3_jumped_23 (by decide) ?_ ?_
        · refine rr_iconst (v := 1) hG dX3_jumped_30 (by decide) ?_
          exact rr_iret hG ho dX3_jumped_31
        · refine rr_iconst (v := 0) hG dX3_jumped_26 (by decide) ?_
          refine rr_goto (tgt := 31) hG dX3_jumped_27 (by decide) ?_
          exact rr_iret hG ho dX3_jumped_31
      · refine rr_iconst (v := (-1)) hG dX3_jumped_15 (by decide) ?_
        exact rr_iret hG ho dX3_jumped_16
  exact h
set_option maxRecDepth 100000 in
set_option maxHeartbeats 4000000 in
theorem c_X3_ahead (l : Launch) (E : bd_E) (hE : bd_ok E 85) (p1 : Int32) (p2 : Int32) (p3 : Int32) (p4 : Int32) (s_ : bd_S) : bd_M bd_Qi l yX3_ahead cX3_ahead 5 (some .int) 4 96 E [.ref (bd_ad E 55), .int p1, .int p2, .int p3, .int p4] s_ (f_X3_ahead p1 p2 p3 p4 s_) := by
  refine bd_open bd_Qi (by decide +kernel) hE (Nat.le_of_ble_eq_true rfl) (fun G out hG hGE hGl ho => ?_)
  subst hGE
  have hG : bd_OK G cX3_ahead 5 RX3 85 4 96 (some .int) := hG
  have h : bd_WF G out (f_X3_ahead p1 p2 p3 p4 s_) s_ 0 [(0, .ref (bd_ad (g_E G) 55)), (1, .int p1), (2, .int p2), (3, .int p3), (4, .int p4)] [] := by
    unfold f_X3_ahead
    refine rr_aload_n hG dX3_ahead_0 rfl 0 rfl ?_
    refine rr_iload_n hG dX3_ahead_1 rfl 1 rfl ?_
    refine rr_iload_n hG dX3_ahead_2 rfl 2 rfl ?_
    refine rr_iload_n hG dX3_ahead_3 rfl 3 rfl ?_
    refine rr_cVi hG [.int p1, .int p2, .int p3] (c_X3_isOne (g_l G) (g_E G) (hG.hE.mono (by decide)) p1 p2 p3 s_) lk_X3_164 im_X3_isOne se_X3_isOne rfl (by decide) (by decide) rfl rfl (Nat.le_of_ble_eq_true rfl) (Nat.le_of_ble_eq_true rfl) rfl rfl (Nat.le_of_ble_eq_true rfl) dX3_ahead_4 (fun z4 s4 => ?_)
    refine rr_if_ne hG 13 dX3_ahead_7 (by decide) ?_ ?_
    · refine rr_iload hG dX3_ahead_13 4 rfl ?_
      refine rr_cSi hG [.int p4] (c_X3_isEnd (g_l G) (g_E G) (hG.hE.mono (by decide)) p4 s4) lk_X3_151 sm_X3_isEnd (Nat.le_of_ble_eq_true rfl) (Nat.le_of_ble_eq_true rfl) rfl rfl (Nat.le_of_ble_eq_true rfl) dX3_ahead_15 (fun z15 s15 => ?_)
      refine rr_if_ne hG 24 dX3_ahead_18 (by decide) ?_ ?_
      · refine rr_aload_n hG dX3_ahead_24 rfl 0 rfl ?_
        refine rr_iload_n hG dX3_ahead_25 rfl 1 rfl ?_
        refine rr_iload_n hG dX3_ahead_26 rfl 2 rfl ?_
        refine rr_cVi hG [.int p1, .int p2] (c_X3_lay (g_l G) (g_E G) (hG.hE.mono (by decide)) p1 p2 s15) lk_X3_175 im_X3_lay se_X3_lay rfl (by decide) (by decide) rfl rfl (Nat.le_of_ble_eq_true rfl) (Nat.le_of_ble_eq_true rfl) rfl rfl (Nat.le_of_ble_eq_true rfl) dX3_ahead_27 (fun z27 s27 => ?_)
        refine rr_if_ne hG 38 dX3_ahead_30 (by decide) ?_ ?_
        · refine rr_iload hG dX3_ahead_38 4 rfl ?_
          refine rr_if_ne hG 52 dX3_ahead_40 (by decide) ?_ ?_
          · refine rr_aload_n hG dX3_ahead_52 rfl 0 rfl ?_
            refine gf_X3_87 hG (by decide) dX3_ahead_53 ?_
            refine rr_iload_n hG dX3_ahead_56 rfl 3 rfl ?_
            refine rr_iald hG rfl (by decide) dX3_ahead_57 (fun z57 => ?_)
            exact rr_iret hG ho dX3_ahead_58
          · refine rr_aload_n hG dX3_ahead_43 rfl 0 rfl ?_
            refine gf_X3_84 hG (by decide) dX3_ahead_44 ?_
            refine rr_iload_n hG dX3_ahead_47 rfl 3 rfl ?_
            refine rr_iald hG rfl (by decide) dX3_ahead_48 (fun z48 => ?_)
            refine rr_goto (tgt := 58) hG dX3_ahead_49 (by decide) ?_
            exact rr_iret hG ho dX3_ahead_58
        · refine rr_ldc (v := (-100000003)) hG kc_X3_178 dX3_ahead_33 ?_
          refine rr_goto (tgt := 58) hG dX3_ahead_35 (by decide) ?_
          exact rr_iret hG ho dX3_ahead_58
      · refine rr_ldc (v := (-100000002)) hG kc_X3_154 dX3_ahead_21 ?_
        exact rr_iret hG ho dX3_ahead_23
    · refine rr_ldc (v := (-100000001)) hG kc_X3_150 dX3_ahead_10 ?_
      exact rr_iret hG ho dX3_ahead_12
  exact h
set_option maxRecDepth 100000 in
set_option maxHeartbeats 4000000 in
theorem c_X3_gains (l : Launch) (E : bd_E) (hE : bd_ok E 85) (p1 : Int32) (p2 : Int32) (p3 : Int32) (s_ : bd_S) : bd_M bd_Qi l yX3_gains cX3_gains 4 (some .int) 4 96 E [.ref (bd_ad E 55), .int p1, .int p2, .int p3] s_ (f_X3_gains p1 p2 p3 s_) := by
  refine bd_open bd_Qi (by decide +kernel) hE (Nat.le_of_ble_eq_true rfl) (fun G out hG hGE hGl ho => ?_)
  subst hGE
  have hG : bd_OK G cX3_gains 4 RX3 85 4 96 (some .int) := hG
  have h : bd_WF G out (f_X3_gains p1 p2 p3 s_) s_ 0 [(0, .ref (bd_ad (g_E G) 55)), (1, .int p1), (2, .int p2), (3, .int p3)] [] := by
    unfold f_X3_gains
    refine rr_aload_n hG dX3_gains_0 rfl 0 rfl ?_
    refine rr_iload_n hG dX3_gains_1 rfl 1 rfl ?_
    refine rr_cVi hG [.int p1] (c_X3_isShip (g_l G) (g_E G) (hG.hE.mono (by decide)) p1 s_) lk_X3_158 im_X3_isShip se_X3_isShip rfl (by decide) (by decide) rfl rfl (Nat.le_of_ble_eq_true rfl) (Nat.le_of_ble_eq_true rfl) rfl rfl (Nat.le_of_ble_eq_true rfl) dX3_gains_2 (fun z2 s2 => ?_)
    refine rr_if_eq hG 15 dX3_gains_5 (by decide) ?_ ?_
    · refine rr_ldc (v := (-100000001)) hG kc_X3_150 dX3_gains_15 ?_
      exact rr_iret hG ho dX3_gains_17
    · refine rr_iload_n hG dX3_gains_8 rfl 2 rfl ?_
      refine rr_cSi hG [.int p2] (c_X3_isClock (g_l G) (g_E G) (hG.hE.mono (by decide)) p2 s2) lk_X3_161 sm_X3_isClock (Nat.le_of_ble_eq_true rfl) (Nat.le_of_ble_eq_true rfl) rfl rfl (Nat.le_of_ble_eq_true rfl) dX3_gains_9 (fun z9 s9 => ?_)
      refine rr_if_ne hG 18 dX3_gains_12 (by decide) ?_ ?_
      · refine rr_iload_n hG dX3_gains_18 rfl 3 rfl ?_
        refine rr_cSi hG [.int p3] (c_X3_isEnd (g_l G) (g_E G) (hG.hE.mono (by decide)) p3 s9) lk_X3_151 sm_X3_isEnd (Nat.le_of_ble_eq_true rfl) (Nat.le_of_ble_eq_true rfl) rfl rfl (Nat.le_of_ble_eq_true rfl) dX3_gains_19 (fun z19 s19 => ?_)
        refine rr_if_ne hG 28 dX3_gains_22 (by decide) ?_ ?_
        · refine rr_aload_n hG dX3_gains_28 rfl 0 rfl ?_
          refine rr_iload_n hG dX3_gains_29 rfl 1 rfl ?_
          refine rr_iload_n hG dX3_gains_30 rfl 2 rfl ?_
          refine rr_cVi hG [.int p1, .int p2] (c_X3_lay (g_l G) (g_E G) (hG.hE.mono (by decide)) p1 p2 s19) lk_X3_175 im_X3_lay se_X3_lay rfl (by decide) (by decide) rfl rfl (Nat.le_of_ble_eq_true rfl) (Nat.le_of_ble_eq_true rfl) rfl rfl (Nat.le_of_ble_eq_true rfl) dX3_gains_31 (fun z31 s31 => ?_)
          refine rr_if_ne hG 42 dX3_gains_34 (by decide) ?_ ?_
          · refine rr_iload_n hG dX3_gains_42 rfl 3 rfl ?_
            refine rr_if_ne hG 56 dX3_gains_43 (by decide) ?_ ?_
            · refine rr_aload_n hG dX3_gains_56 rfl 0 rfl ?_
              refine gf_X3_87 hG (by decide) dX3_gains_57 ?_
              refine rr_bipush (v := 20) hG dX3_gains_60 (by decide) ?_
              refine rr_iald hG rfl (by decide) dX3_gains_62 (fun z62 => ?_)
              exact rr_iret hG ho dX3_gains_63
            · refine rr_aload_n hG dX3_gains_46 rfl 0 rfl ?_
              refine gf_X3_84 hG (by decide) dX3_gains_47 ?_
              refine rr_bipush (v := 20) hG dX3_gains_50 (by decide) ?_
              refine rr_iald hG rfl (by decide) dX3_gains_52 (fun z52 => ?_)
              refine rr_goto (tgt := 63) hG dX3_gains_53 (by decide) ?_
              exact rr_iret hG ho dX3_gains_63
          · refine rr_ldc (v := (-100000003)) hG kc_X3_178 dX3_gains_37 ?_
            refine rr_goto (tgt := 63) hG dX3_gains_39 (by decide) ?_
            exact rr_iret hG ho dX3_gains_63
        · refine rr_ldc (v := (-100000002)) hG kc_X3_154 dX3_gains_25 ?_
          exact rr_iret hG ho dX3_gains_27
      · refine rr_ldc (v := (-100000001)) hG kc_X3_150 dX3_gains_15 ?_
        exact rr_iret hG ho dX3_gains_17
  exact h
set_option maxRecDepth 100000 in
set_option maxHeartbeats 4000000 in
theorem c_X3_placeOf (l : Launch) (E : bd_E) (hE : bd_ok E 85) (p1 : Int32) (p2 : Int32) (p3 : Int32) (s_ : bd_S) : bd_M bd_Qi l yX3_placeOf cX3_placeOf 4 (some .int) 2 43 E [.ref (bd_ad E 55), .int p1, .int p2, .int p3] s_ (f_X3_placeOf p1 p2 p3 s_) := by
  refine bd_open bd_Qi (by decide +kernel) hE (Nat.le_of_ble_eq_true rfl) (fun G out hG hGE hGl ho => ?_)
  subst hGE
  have hG : bd_OK G cX3_placeOf 4 RX3 85 2 43 (some .int) := hG
  have h : bd_WF G out (f_X3_placeOf p1 p2 p3 s_) s_ 0 [(0, .ref (bd_ad (g_E G) 55)), (1, .int p1), (2, .int p2), (3, .int p3)] [] := by
    unfold f_X3_placeOf
    refine rr_iload_n hG dX3_placeOf_0 rfl 3 rfl ?_
    refine rr_if_ne hG 19 dX3_placeOf_1 (by decide) ?_ ?_
    · refine rr_iload_n hG dX3_placeOf_19 rfl 2 rfl ?_
      refine rr_aload_n hG dX3_placeOf_20 rfl 0 rfl ?_
      refine gf_X3_84 hG (by decide) dX3_placeOf_21 ?_
      refine rr_iload_n hG dX3_placeOf_24 rfl 1 rfl ?_
      refine rr_iald hG rfl (by decide) dX3_placeOf_25 (fun z25 => ?_)
      refine rr_isub hG dX3_placeOf_26 (fun z26 => ?_)
      refine rr_iconst (v := 4) hG dX3_placeOf_27 (by decide) ?_
      refine rr_cSi hG [.int z26, .int 4] (c_X3_up (g_l G) (g_E G) (hG.hE.mono (by decide)) z26 4 s_) lk_X3_133 sm_X3_up (Nat.le_of_ble_eq_true rfl) (Nat.le_of_ble_eq_true rfl) rfl rfl (Nat.le_of_ble_eq_true rfl) dX3_placeOf_28 (fun z28 s28 => ?_)
      exact rr_iret hG ho dX3_placeOf_31
    · refine rr_iload_n hG dX3_placeOf_4 rfl 2 rfl ?_
      refine rr_aload_n hG dX3_placeOf_5 rfl 0 rfl ?_
      refine gf_X3_87 hG (by decide) dX3_placeOf_6 ?_
      refine rr_iload_n hG dX3_placeOf_9 rfl 1 rfl ?_
      refine rr_iald hG rfl (by decide) dX3_placeOf_10 (fun z10 => ?_)
      refine rr_isub hG dX3_placeOf_11 (fun z11 => ?_)
      refine rr_iconst (v := 4) hG dX3_placeOf_12 (by decide) ?_
      refine rr_cSi hG [.int z11, .int 4] (c_X3_down (g_l G) (g_E G) (hG.hE.mono (by decide)) z11 4 s_) lk_X3_118 sm_X3_down (Nat.le_of_ble_eq_true rfl) (Nat.le_of_ble_eq_true rfl) rfl rfl (Nat.le_of_ble_eq_true rfl) dX3_placeOf_13 (fun z13 s13 => ?_)
      refine rr_goto (tgt := 31) hG dX3_placeOf_16 (by decide) ?_
      exact rr_iret hG ho dX3_placeOf_31
  exact h
set_option maxRecDepth 100000 in
set_option maxHeartbeats 4000000 in
theorem c_X3_place (l : Launch) (E : bd_E) (hE : bd_ok E 85) (p1 : Int32) (p2 : Int32) (p3 : Int32) (p4 : Int32) (p5 : Int32) (s_ : bd_S) : bd_M bd_Qi l yX3_place cX3_place 6 (some .int) 4 96 E [.ref (bd_ad E 55), .int p1, .int p2, .int p3, .int p4, .int p5] s_ (f_X3_place p1 p2 p3 p4 p5 s_) := by
  refine bd_open bd_Qi (by decide +kernel) hE (Nat.le_of_ble_eq_true rfl) (fun G out hG hGE hGl ho => ?_)
  subst hGE
  have hG : bd_OK G cX3_place 6 RX3 85 4 96 (some .int) := hG
  have h : bd_WF G out (f_X3_place p1 p2 p3 p4 p5 s_) s_ 0 [(0, .ref (bd_ad (g_E G) 55)), (1, .int p1), (2, .int p2), (3, .int p3), (4, .int p4), (5, .int p5)] [] := by
    unfold f_X3_place
    refine rr_aload_n hG dX3_place_0 rfl 0 rfl ?_
    refine rr_iload_n hG dX3_place_1 rfl 1 rfl ?_
    refine rr_iload_n hG dX3_place_2 rfl 2 rfl ?_
    refine rr_iload_n hG dX3_place_3 rfl 3 rfl ?_
    refine rr_cVi hG [.int p1, .int p2, .int p3] (c_X3_isOne (g_l G) (g_E G) (hG.hE.mono (by decide)) p1 p2 p3 s_) lk_X3_164 im_X3_isOne se_X3_isOne rfl (by decide) (by decide) rfl rfl (Nat.le_of_ble_eq_true rfl) (Nat.le_of_ble_eq_true rfl) rfl rfl (Nat.le_of_ble_eq_true rfl) dX3_place_4 (fun z4 s4 => ?_)
    refine rr_if_ne hG 13 dX3_place_7 (by decide) ?_ ?_
    · refine rr_iload hG dX3_place_13 4 rfl ?_
      refine rr_ldc (v := (-99999)) hG kc_X3_105 dX3_place_15 ?_
      refine rr_ldc (v := 99999) hG kc_X3_106 dX3_place_17 ?_
      refine rr_cSi hG [.int p4, .int (-99999), .int 99999] (c_X3_in (g_l G) (g_E G) (hG.hE.mono (by decide)) p4 (-99999) 99999 s4) lk_X3_111 sm_X3_in (Nat.le_of_ble_eq_true rfl) (Nat.le_of_ble_eq_true rfl) rfl rfl (Nat.le_of_ble_eq_true rfl) dX3_place_19 (fun z19 s19 => ?_)
      refine rr_if_eq hG 33 dX3_place_22 (by decide) ?_ ?_
      · refine rr_ldc (v := (-100000002)) hG kc_X3_154 dX3_place_33 ?_
        exact rr_iret hG ho dX3_place_35
      · refine rr_iload hG dX3_place_25 5 rfl ?_
        refine rr_cSi hG [.int p5] (c_X3_isEnd (g_l G) (g_E G) (hG.hE.mono (by decide)) p5 s19) lk_X3_151 sm_X3_isEnd (Nat.le_of_ble_eq_true rfl) (Nat.le_of_ble_eq_true rfl) rfl rfl (Nat.le_of_ble_eq_true rfl) dX3_place_27 (fun z27 s27 => ?_)
        refine rr_if_ne hG 36 dX3_place_30 (by decide) ?_ ?_
        · refine rr_aload_n hG dX3_place_36 rfl 0 rfl ?_
          refine rr_iload_n hG dX3_place_37 rfl 1 rfl ?_
          refine rr_iload_n hG dX3_place_38 rfl 2 rfl ?_
          refine rr_cVi hG [.int p1, .int p2] (c_X3_lay (g_l G) (g_E G) (hG.hE.mono (by decide)) p1 p2 s27) lk_X3_175 im_X3_lay se_X3_lay rfl (by decide) (by decide) rfl rfl (Nat.le_of_ble_eq_true rfl) (Nat.le_of_ble_eq_true rfl) rfl rfl (Nat.le_of_ble_eq_true rfl) dX3_place_39 (fun z39 s39 => ?_)
          refine rr_if_eq hG 57 dX3_place_42 (by decide) ?_ ?_
          · refine rr_ldc (v := (-100000003)) hG kc_X3_178 dX3_place_57 ?_
            exact rr_iret hG ho dX3_place_59
          · refine rr_aload_n hG dX3_place_45 rfl 0 rfl ?_
            refine rr_iload_n hG dX3_place_46 rfl 3 rfl ?_
            refine rr_iload hG dX3_place_47 4 rfl ?_
            refine rr_iload hG dX3_place_49 5 rfl ?_
            refine rr_cVi hG [.int p3, .int p4, .int p5] (c_X3_placeOf (g_l G) (g_E G) (hG.hE.mono (by decide)) p3 p4 p5 s39) lk_X3_179 im_X3_placeOf se_X3_placeOf rfl (by decide) (by decide) rfl rfl (Nat.le_of_ble_eq_true rfl) (Nat.le_of_ble_eq_true rfl) rfl rfl (Nat.le_of_ble_eq_true rfl) dX3_place_51 (fun z51 s51 => ?_)
            refine rr_goto (tgt := 59) hG dX3_place_54 (by decide) ?_
            exact rr_iret hG ho dX3_place_59
        · refine rr_ldc (v := (-100000002)) hG kc_X3_154 dX3_place_33 ?_
          exact rr_iret hG ho dX3_place_35
    · refine rr_ldc (v := (-100000001)) hG kc_X3_150 dX3_place_10 ?_
      exact rr_iret hG ho dX3_place_12
  exact h
set_option maxRecDepth 100000 in
set_option maxHeartbeats 4000000 in
theorem c_X3_reads (l : Launch) (E : bd_E) (hE : bd_ok E 85) (p1 : Int32) (p2 : Int32) (p3 : Int32) (p4 : Int32) (p5 : Int32) (s_ : bd_S) : bd_M bd_Qi l yX3_reads cX3_reads 6 (some .int) 2 43 E [.ref (bd_ad E 55), .int p1, .int p2, .int p3, .int p4, .int p5] s_ (f_X3_reads p1 p2 p3 p4 p5 s_) := by
  refine bd_open bd_Qi (by decide +kernel) hE (Nat.le_of_ble_eq_true rfl) (fun G out hG hGE hGl ho => ?_)
  subst hGE
  have hG : bd_OK G cX3_reads 6 RX3 85 2 43 (some .int) := hG
  have h : bd_WF G out (f_X3_reads p1 p2 p3 p4 p5 s_) s_ 0 [(0, .ref (bd_ad (g_E G) 55)), (1, .int p1), (2, .int p2), (3, .int p3), (4, .int p4), (5, .int p5)] [] := by
    unfold f_X3_reads
    refine rr_aload_n hG dX3_reads_0 rfl 0 rfl ?_
    refine rr_iload_n hG dX3_reads_1 rfl 1 rfl ?_
    refine rr_cVi hG [.int p1] (c_X3_isShip (g_l G) (g_E G) (hG.hE.mono (by decide)) p1 s_) lk_X3_158 im_X3_isShip se_X3_isShip rfl (by decide) (by decide) rfl rfl (Nat.le_of_ble_eq_true rfl) (Nat.le_of_ble_eq_true rfl) rfl rfl (Nat.le_of_ble_eq_true rfl) dX3_reads_2 (fun z2 s2 => ?_)
    refine rr_if_eq hG 15 dX3_reads_5 (by decide) ?_ ?_
    · refine rr_iconst (v := (-1)) hG dX3_reads_15 (by decide) ?_
      exact rr_iret hG ho dX3_reads_16
    · refine rr_iload_n hG dX3_reads_8 rfl 2 rfl ?_
      refine rr_cSi hG [.int p2] (c_X3_isDay (g_l G) (g_E G) (hG.hE.mono (by decide)) p2 s2) lk_X3_146 sm_X3_isDay (Nat.le_of_ble_eq_true rfl) (Nat.le_of_ble_eq_true rfl) rfl rfl (Nat.le_of_ble_eq_true rfl) dX3_reads_9 (fun z9 s9 => ?_)
      refine rr_if_ne hG 17 dX3_reads_12 (by decide) ?_ ?_
      · refine rr_iload_n hG dX3_reads_17 rfl 3 rfl ?_
        refine rr_ldc (v := (-99999)) hG kc_X3_105 dX3_reads_18 ?_
        refine rr_ldc (v := 99999) hG kc_X3_106 dX3_reads_20 ?_
        refine rr_cSi hG [.int p3, .int (-99999), .int 99999] (c_X3_in (g_l G) (g_E G) (hG.hE.mono (by decide)) p3 (-99999) 99999 s9) lk_X3_111 sm_X3_in (Nat.le_of_ble_eq_true rfl) (Nat.le_of_ble_eq_true rfl) rfl rfl (Nat.le_of_ble_eq_true rfl) dX3_reads_22 (fun z22 s22 => ?_)
        refine rr_if_eq hG 52 dX3_reads_25 (by decide) ?_ ?_
        · refine rr_bipush (v := (-2)) hG dX3_reads_52 (by decide) ?_
          exact rr_iret hG ho dX3_reads_54
        · refine rr_iload hG dX3_reads_28 4 rfl ?_
          refine rr_ldc (v := (-99999)) hG kc_X3_105 dX3_reads_30 ?_
          refine rr_ldc (v := 99999) hG kc_X3_106 dX3_reads_32 ?_
          refine rr_cSi hG [.int p4, .int (-99999), .int 99999] (c_X3_in (g_l G) (g_E G) (hG.hE.mono (by decide)) p4 (-99999) 99999 s22) lk_X3_111 sm_X3_in (Nat.le_of_ble_eq_true rfl) (Nat.le_of_ble_eq_true rfl) rfl rfl (Nat.le_of_ble_eq_true rfl) dX3_reads_34 (fun z34 s34 => ?_)
          refine rr_if_eq hG 52 dX3_reads_37 (by decide) ?_ ?_
          · refine rr_bipush (v := (-2)) hG dX3_reads_52 (by decide) ?_
            exact rr_iret hG ho dX3_reads_54
          · refine rr_iload hG dX3_reads_40 5 rfl ?_
            refine rr_ldc (v := (-99999)) hG kc_X3_105 dX3_reads_42 ?_
            refine rr_ldc (v := 99999) hG kc_X3_106 dX3_reads_44 ?_
            refine rr_cSi hG [.int p5, .int (-99999), .int 99999] (c_X3_in (g_l G) (g_E G) (hG.hE.mono (by decide)) p5 (-99999) 99999 s34) lk_X3_111 sm_X3_in (Nat.le_of_ble_eq_true rfl) (Nat.le_of_ble_eq_true rfl) rfl rfl (Nat.le_of_ble_eq_true rfl) dX3_reads_46 (fun z46 s46 => ?_)
            refine rr_if_ne hG 55 dX3_reads_49 (by decide) ?_ ?_
            · refine rr_aload_n hG dX3_reads_55 rfl 0 rfl ?_
              refine gf_X3_72 hG (by decide) dX3_reads_56 ?_
              refine rr_iload_n hG dX3_reads_59 rfl 1 rfl ?_
              refine rr_iload_n hG dX3_reads_60 rfl 2 rfl ?_
              refine rr_iast hG rfl (by decide) dX3_reads_61 (fun s61 => ?_)
              refine rr_aload_n hG dX3_reads_62 rfl 0 rfl ?_
              refine gf_X3_75 hG (by decide) dX3_reads_63 ?_
              refine rr_iconst (v := 3) hG dX3_reads_66 (by decide) ?_
              refine rr_iload_n hG dX3_reads_67 rfl 1 rfl ?_
              refine rr_imul hG dX3_reads_68 (fun z68 => ?_)
              refine rr_iload_n hG dX3_reads_69 rfl 3 rfl ?_
              refine rr_iast hG rfl (by decide) dX3_reads_70 (fun s70 => ?_)
              refine rr_aload_n hG dX3_reads_71 rfl 0 rfl ?_
              refine gf_X3_75 hG (by decide) dX3_reads_72 ?_
              refine rr_iconst (v := 3) hG dX3_reads_75 (by decide) ?_
              refine rr_iload_n hG dX3_reads_76 rfl 1 rfl ?_
              refine rr_imul hG dX3_reads_77 (fun z77 => ?_)
              refine rr_iconst (v := 1) hG dX3_reads_78 (by decide) ?_
              refine rr_iadd hG dX3_reads_79 (fun z79 => ?_)
              refine rr_iload hG dX3_reads_80 4 rfl ?_
              refine rr_iast hG rfl (by decide) dX3_reads_82 (fun s82 => ?_)
              refine rr_aload_n hG dX3_reads_83 rfl 0 rfl ?_
              refine gf_X3_75 hG (by decide) dX3_reads_84 ?_
              refine rr_iconst (v := 3) hG dX3_reads_87 (by decide) ?_
              refine rr_iload_n hG dX3_reads_88 rfl 1 rfl ?_
              refine rr_imul hG dX3_reads_89 (fun z89 => ?_)
              refine rr_iconst (v := 2) hG dX3_reads_90 (by decide) ?_
              refine rr_iadd hG dX3_reads_91 (fun z91 => ?_)
              refine rr_iload hG dX3_reads_92 5 rfl ?_
              refine rr_iast hG rfl (by decide) dX3_reads_94 (fun s94 => ?_)
              refine rr_iconst (v := 1) hG dX3_reads_95 (by decide) ?_
              exact rr_iret hG ho dX3_reads_96
            · refine rr_bipush (v := (-2)) hG dX3_reads_52 (by decide) ?_
              exact rr_iret hG ho dX3_reads_54
      · refine rr_iconst (v := (-1)) hG dX3_reads_15 (by decide) ?_
        exact rr_iret hG ho dX3_reads_16
  exact h
set_option maxRecDepth 100000 in
set_option maxHeartbeats 4000000 in
theorem b_X3_layPlaces_2 {G : bd_G} {out : Unit × bd_S} (hG : bd_OK G cX3_layPlaces 3 RX3 85 4 96 none) (ho : bd_ends bd_Qv G out) : ∀ (n_ : Nat) (x2 : Int32) (x1 : Int32) (s_ : bd_S), bd_WF G out (f_X3_layPlaces_2 n_ x2 x1 s_) s_ 2 [(2, .int x2), (0, .ref (bd_ad (g_E G) 55)), (1, .int x1)] [] := by
  intro n_
  induction n_ with
  | zero => intros; intro hF; cases hF
  | succ n_ ih =>
    intro x2 x1 s_
    rw [f_X3_layPlaces_2]
    refine rr_iload_n hG dX3_layPlaces_2 rfl 0 rfl ?_
    refine rr_iconst (v := 3) hG dX3_layPlaces_3 (by decide) ?_
    refine rr_icmp_ge hG 79 dX3_layPlaces_4 (by decide) ?_ ?_
    · exact rr_vret hG ho dX3_layPlaces_79
    · refine rr_aload_n hG dX3_layPlaces_7 rfl 1 rfl ?_
      refine gf_X3_102 hG (by decide) dX3_layPlaces_8 ?_
      refine rr_iload_n hG dX3_layPlaces_11 rfl 0 rfl ?_
      refine rr_aload_n hG dX3_layPlaces_12 rfl 1 rfl ?_
      refine rr_iload_n hG dX3_layPlaces_13 rfl 2 rfl ?_
      refine rr_iload_n hG dX3_layPlaces_14 rfl 0 rfl ?_
      refine rr_cVi hG [.int x1, .int x2] (c_X3_lay (g_l G) (g_E G) (hG.hE.mono (by decide)) x1 x2 s_) lk_X3_175 im_X3_lay se_X3_lay rfl (by decide) (by decide) rfl rfl (Nat.le_of_ble_eq_true rfl) (Nat.le_of_ble_eq_true rfl) rfl rfl (Nat.le_of_ble_eq_true rfl) dX3_layPlaces_15 (fun z15 s15 => ?_)
      refine rr_zast hG rfl (by decide) dX3_layPlaces_18 (fun s18 => ?_)
      refine rr_aload_n hG dX3_layPlaces_19 rfl 1 rfl ?_
      refine gf_X3_96 hG (by decide) dX3_layPlaces_20 ?_
      refine rr_iload_n hG dX3_layPlaces_23 rfl 0 rfl ?_
      refine rr_aload_n hG dX3_layPlaces_24 rfl 1 rfl ?_
      refine rr_aload_n hG dX3_layPlaces_25 rfl 1 rfl ?_
      refine gf_X3_72 hG (by decide) dX3_layPlaces_26 ?_
      refine rr_iload_n hG dX3_layPlaces_29 rfl 2 rfl ?_
      refine rr_iald hG rfl (by decide) dX3_layPlaces_30 (fun z30 => ?_)
      refine rr_aload_n hG dX3_layPlaces_31 rfl 1 rfl ?_
      refine gf_X3_75 hG (by decide) dX3_layPlaces_32 ?_
      refine rr_iconst (v := 3) hG dX3_layPlaces_35 (by decide) ?_
      refine rr_iload_n hG dX3_layPlaces_36 rfl 2 rfl ?_
      refine rr_imul hG dX3_layPlaces_37 (fun z37 => ?_)
      refine rr_iload_n hG dX3_layPlaces_38 rfl 0 rfl ?_
      refine rr_iadd hG dX3_layPlaces_39 (fun z39 => ?_)
      refine rr_iald hG rfl (by decide) dX3_layPlaces_40 (fun z40 => ?_)
      refine rr_iconst (v := 0) hG dX3_layPlaces_41 (by decide) ?_
      refine rr_cVi hG [.int z30, .int z40, .int 0] (c_X3_placeOf (g_l G) (g_E G) (hG.hE.mono (by decide)) z30 z40 0 s18) lk_X3_179 im_X3_placeOf se_X3_placeOf rfl (by decide) (by decide) rfl rfl (Nat.le_of_ble_eq_true rfl) (Nat.le_of_ble_eq_true rfl) rfl rfl (Nat.le_of_ble_eq_true rfl) dX3_layPlaces_42 (fun z42 s42 => ?_)
      refine rr_iast hG rfl (by decide) dX3_layPlaces_45 (fun s45 => ?_)
      refine rr_aload_n hG dX3_layPlaces_46 rfl 1 rfl ?_
      refine gf_X3_99 hG (by decide) dX3_layPlaces_47 ?_
      refine rr_iload_n hG dX3_layPlaces_50 rfl 0 rfl ?_
      refine rr_aload_n hG dX3_layPlaces_51 rfl 1 rfl ?_
      refine rr_aload_n hG dX3_layPlaces_52 rfl 1 rfl ?_
      refine gf_X3_72 hG (by decide) dX3_layPlaces_53 ?_
      refine rr_iload_n hG dX3_layPlaces_56 rfl 2 rfl ?_
      refine rr_iald hG rfl (by decide) dX3_layPlaces_57 (fun z57 => ?_)
      refine rr_aload_n hG dX3_layPlaces_58 rfl 1 rfl ?_
      refine gf_X3_75 hG (by decide) dX3_layPlaces_59 ?_
      refine rr_iconst (v := 3) hG dX3_layPlaces_62 (by decide) ?_
      refine rr_iload_n hG dX3_layPlaces_63 rfl 2 rfl ?_
      refine rr_imul hG dX3_layPlaces_64 (fun z64 => ?_)
      refine rr_iload_n hG dX3_layPlaces_65 rfl 0 rfl ?_
      refine rr_iadd hG dX3_layPlaces_66 (fun z66 => ?_)
      refine rr_iald hG rfl (by decide) dX3_layPlaces_67 (fun z67 => ?_)
      refine rr_iconst (v := 1) hG dX3_layPlaces_68 (by decide) ?_
      refine rr_cVi hG [.int z57, .int z67, .int 1] (c_X3_placeOf (g_l G) (g_E G) (hG.hE.mono (by decide)) z57 z67 1 s45) lk_X3_179 im_X3_placeOf se_X3_placeOf rfl (by decide) (by decide) rfl rfl (Nat.le_of_ble_eq_true rfl) (Nat.le_of_ble_eq_true rfl) rfl rfl (Nat.le_of_ble_eq_true rfl) dX3_layPlaces_69 (fun z69 s69 => ?_)
      refine rr_iast hG rfl (by decide) dX3_layPlaces_72 (fun s72 => ?_)
      refine rr_iinc (v := 1) (lr := [(0, .ref (bd_ad (g_E G) 55)), (1, .int x1)]) hG dX3_layPlaces_73 0 rfl (by decide) (by decide) rfl (fun z73 => ?_)
      refine rr_goto (tgt := 2) hG dX3_layPlaces_76 (by decide) ?_
      exact ih z73 x1 s72
set_option maxRecDepth 100000 in
set_option maxHeartbeats 4000000 in
theorem c_X3_layPlaces (l : Launch) (E : bd_E) (hE : bd_ok E 85) (p1 : Int32) (s_ : bd_S) : bd_M bd_Qv l yX3_layPlaces cX3_layPlaces 3 none 4 96 E [.ref (bd_ad E 55), .int p1] s_ (f_X3_layPlaces p1 s_) := by
  refine bd_open bd_Qv (by decide +kernel) hE (Nat.le_of_ble_eq_true rfl) (fun G out hG hGE hGl ho => ?_)
  subst hGE
  have hG : bd_OK G cX3_layPlaces 3 RX3 85 4 96 none := hG
  have h : bd_WF G out (f_X3_layPlaces p1 s_) s_ 0 [(0, .ref (bd_ad (g_E G) 55)), (1, .int p1)] [] := by
    unfold f_X3_layPlaces
    refine rr_iconst (v := 0) hG dX3_layPlaces_0 (by decide) ?_
    refine rr_istore_n (lr := [(0, .ref (bd_ad (g_E G) 55)), (1, .int p1)]) hG dX3_layPlaces_1 rfl (by decide) rfl ?_
    exact (b_X3_layPlaces_2 hG ho FU_ 0 p1 s_)
  exact h
