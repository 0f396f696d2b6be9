set_option maxRecDepth 100000 in
set_option maxHeartbeats 4000000 in
theorem c_X2_noClock (l : Launch) (E : bd_E) (hE : bd_ok E 55) (p1 : Int32) (p2 : Int32) (s_ : bd_S) : bd_M bd_Qi l yX2_noClock cX2_noClock 3 (some .boolean) 1 21 E [.ref (bd_ad E 0), .int p1, .int p2] s_ (f_X2_noClock p1 p2 s_) := by
  refine bd_open bd_Qi (by decide +kernel) hE (Nat.le_of_ble_eq_true rfl) (fun G out hG hGE hGl ho => ?_)
  subst hGE
  have hG : bd_OK G cX2_noClock 3 RX2 55 1 21 (some .boolean) := hG
  have h : bd_WF G out (f_X2_noClock p1 p2 s_) s_ 0 [(0, .ref (bd_ad (g_E G) 0)), (1, .int p1), (2, .int p2)] [] := by
    unfold f_X2_noClock
    refine rr_aload_n hG dX2_noClock_0 rfl 0 rfl ?_
    refine rr_iload_n hG dX2_noClock_1 rfl 1 rfl ?_
    refine rr_cVi hG [.int p1] (c_X2_noShip (g_l G) (g_E G) (hG.hE.mono (by decide)) p1 s_) lk_X2_142 im_X2_noShip se_X2_noShip rfl (by decide) (by decide) rfl rfl (Nat.le_of_ble_eq_true rfl) (Nat.le_of_ble_eq_true rfl) rfl rfl (Nat.le_of_ble_eq_true rfl) dX2_noClock_2 (fun z2 s2 => ?_)
    refine rr_if_ne hG 17 dX2_noClock_5 (by decide) ?_ ?_
    · refine rr_iconst (v := 1) hG dX2_noClock_17 (by decide) ?_
      refine rr_goto (tgt := 22) hG dX2_noClock_18 (by decide) ?_
      exact rr_zret hG ho dX2_noClock_22
    · refine rr_iload_n hG dX2_noClock_8 rfl 2 rfl ?_
      refine rr_if_lt hG 17 dX2_noClock_9 (by decide) ?_ ?_
      · refine rr_iconst (v := 1) hG dX2_noClock_17 (by decide) ?_
        refine rr_goto (tgt := 22) hG dX2_noClock_18 (by decide) ?_
        exact rr_zret hG ho dX2_noClock_22
      · refine rr_iload_n hG dX2_noClock_12 rfl 2 rfl ?_
        refine rr_iconst (v := 3) hG dX2_noClock_13 (by decide) ?_
        refine rr_icmp_lt hG 21 dX2_noClock_14 (by decide) ?_ ?_
        · refine rr_iconst (v := 0) hG dX2_noClock_21 (by decide) ?_
          exact rr_zret hG ho dX2_noClock_22
        · refine rr_iconst (v := 1) hG dX2_noClock_17 (by decide) ?_
          refine rr_goto (tgt := 22) hG dX2_noClock_18 (by decide) ?_
          exact rr_zret hG ho dX2_noClock_22
  exact h
set_option maxRecDepth 100000 in
set_option maxHeartbeats 4000000 in
theorem c_X2_latestNoted (l : Launch) (E : bd_E) (hE : bd_ok E 10) (p0 : Int32) (p1 : Int32) (s_ : bd_S) : bd_M bd_Qi l yX2_latestNoted cX2_latestNoted 2 (some .int) 0 0 E [.int p0, .int p1] s_ (f_X2_latestNoted p0 p1 s_) := by
  refine bd_open bd_Qi (by decide +kernel) hE (Nat.le_of_ble_eq_true rfl) (fun G out hG hGE hGl ho => ?_)
  subst hGE
  have hG : bd_OK G cX2_latestNoted 2 RX2 10 0 0 (some .int) := hG
  have h : bd_WF G out (f_X2_latestNoted p0 p1 s_) s_ 0 [(0, .int p0), (1, .int p1)] [] := by
    unfold f_X2_latestNoted
    refine rr_iload_n hG dX2_latestNoted_0 rfl 0 rfl ?_
    refine rr_iconst (v := 2) hG dX2_latestNoted_1 (by decide) ?_
    refine rr_icmp_ne hG 12 dX2_latestNoted_2 (by decide) ?_ ?_
    · refine rr_iload_n hG dX2_latestNoted_12 rfl 0 rfl ?_
      refine rr_iconst (v := 1) hG dX2_latestNoted_13 (by decide) ?_
      refine rr_icmp_ne hG 21 dX2_latestNoted_14 (by decide) ?_ ?_
      · refine rr_iconst (v := 2) hG dX2_latestNoted_21 (by decide) ?_
        exact rr_iret hG ho dX2_latestNoted_22
      · refine rr_iconst (v := 1) hG dX2_latestNoted_17 (by decide) ?_
        refine rr_goto (tgt := 22) hG dX2_latestNoted_18 (by decide) ?_
        exact rr_iret hG ho dX2_latestNoted_22
    · refine rr_bipush (v := 7) hG dX2_latestNoted_5 (by decide) ?_
      refine rr_iload_n hG dX2_latestNoted_7 rfl 1 rfl ?_
      refine rr_imul hG dX2_latestNoted_8 (fun z8 => ?_)
      refine rr_iconst (v := 3) hG dX2_latestNoted_9 (by decide) ?_
      refine rr_iadd hG dX2_latestNoted_10 (fun z10 => ?_)
      exact rr_iret hG ho dX2_latestNoted_11
  exact h
set_option maxRecDepth 100000 in
set_option maxHeartbeats 4000000 in
theorem c_X2_soonestNoted (l : Launch) (E : bd_E) (hE : bd_ok E 10) (p0 : Int32) (p1 : Int32) (s_ : bd_S) : bd_M bd_Qi l yX2_soonestNoted cX2_soonestNoted 2 (some .int) 0 0 E [.int p0, .int p1] s_ (f_X2_soonestNoted p0 p1 s_) := by
  refine bd_open bd_Qi (by decide +kernel) hE (Nat.le_of_ble_eq_true rfl) (fun G out hG hGE hGl ho => ?_)
  subst hGE
  have hG : bd_OK G cX2_soonestNoted 2 RX2 10 0 0 (some .int) := hG
  have h : bd_WF G out (f_X2_soonestNoted p0 p1 s_) s_ 0 [(0, .int p0), (1, .int p1)] [] := by
    unfold f_X2_soonestNoted
    refine rr_iload_n hG dX2_soonestNoted_0 rfl 0 rfl ?_
    refine rr_iconst (v := 2) hG dX2_soonestNoted_1 (by decide) ?_
    refine rr_icmp_ne hG 11 dX2_soonestNoted_2 (by decide) ?_ ?_
    · refine rr_iload_n hG dX2_soonestNoted_11 rfl 0 rfl ?_
      refine rr_iconst (v := 1) hG dX2_soonestNoted_12 (by decide) ?_
      refine rr_icmp_ne hG 20 dX2_soonestNoted_13 (by decide) ?_ ?_
      · refine rr_bipush (v := (-2)) hG dX2_soonestNoted_20 (by decide) ?_
        exact rr_iret hG ho dX2_soonestNoted_22
      · refine rr_iconst (v := (-1)) hG dX2_soonestNoted_16 (by decide) ?_
        refine rr_goto (tgt := 22) hG dX2_soonestNoted_17 (by decide) ?_
        exact rr_iret hG ho dX2_soonestNoted_22
    · refine rr_iconst (v := 5) hG dX2_soonestNoted_5 (by decide) ?_
      refine rr_iload_n hG dX2_soonestNoted_6 rfl 1 rfl ?_
      refine rr_imul hG dX2_soonestNoted_7 (fun z7 => ?_)
      refine rr_iconst (v := 3) hG dX2_soonestNoted_8 (by decide) ?_
      refine rr_isub hG dX2_soonestNoted_9 (fun z9 => ?_)
      exact rr_iret hG ho dX2_soonestNoted_10
  exact h
set_option maxRecDepth 100000 in
set_option maxHeartbeats 4000000 in
theorem c_X1_note (l : Launch) (E : bd_E) (hE : bd_ok E 55) (S0 : Nat) (p1 : Int32) (p2 : Int32) (p3 : Int32) (p4 : Int32) (p5 : Int32) (hS0 : bd_isS S0) (s_ : bd_S) : bd_M bd_Qi l yX1_note cX1_note 6 (some .int) 0 0 E [.ref (bd_ad E S0), .int p1, .int p2, .int p3, .int p4, .int p5] s_ (f_X1_note S0 p1 p2 p3 p4 p5 s_) := by
  refine bd_open bd_Qi (by decide +kernel) hE (Nat.le_of_ble_eq_true rfl) (fun G out hG hGE hGl ho => ?_)
  subst hGE
  have hG : bd_OK G cX1_note 6 RX1 55 0 0 (some .int) := hG
  have h : bd_WF G out (f_X1_note S0 p1 p2 p3 p4 p5 s_) s_ 0 [(0, .ref (bd_ad (g_E G) S0)), (1, .int p1), (2, .int p2), (3, .int p3), (4, .int p4), (5, .int p5)] [] := by
    unfold f_X1_note
    refine rr_aload_n hG dX1_note_0 rfl 0 rfl ?_
    refine gf_X1_37 hS0 hG (by decide) dX1_note_1 (fun z1 => ?_)
    refine rr_bipush (v := 12) hG dX1_note_4 (by decide) ?_
    refine rr_icmp_lt hG 12 dX1_note_6 (by decide) ?_ ?_
    · refine rr_aload_n hG dX1_note_12 rfl 0 rfl ?_
      refine gf_X1_9 hS0 hG (by decide) dX1_note_13 ?_
      refine rr_aload_n hG dX1_note_16 rfl 0 rfl ?_
      refine gf_X1_37 hS0 hG (by decide) dX1_note_17 (fun z17 => ?_)
      refine rr_iload_n hG dX1_note_20 rfl 1 rfl ?_
      refine rr_iast hG (bd_kS1 hS0) (bd_bS1 hS0 (by decide)) dX1_note_21 (fun s21 => ?_)
      refine rr_aload_n hG dX1_note_22 rfl 0 rfl ?_
      refine gf_X1_15 hS0 hG (by decide) dX1_note_23 ?_
      refine rr_aload_n hG dX1_note_26 rfl 0 rfl ?_
      refine gf_X1_37 hS0 hG (by decide) dX1_note_27 (fun z27 => ?_)
      refine rr_iload_n hG dX1_note_30 rfl 2 rfl ?_
      refine rr_iast hG (bd_kS2 hS0) (bd_bS2 hS0 (by decide)) dX1_note_31 (fun s31 => ?_)
      refine rr_aload_n hG dX1_note_32 rfl 0 rfl ?_
      refine gf_X1_18 hS0 hG (by decide) dX1_note_33 ?_
      refine rr_aload_n hG dX1_note_36 rfl 0 rfl ?_
      refine gf_X1_37 hS0 hG (by decide) dX1_note_37 (fun z37 => ?_)
      refine rr_iload_n hG dX1_note_40 rfl 3 rfl ?_
      refine rr_zast hG (bd_kS3 hS0) (bd_bS3 hS0 (by decide)) dX1_note_41 (fun s41 => ?_)
      refine rr_aload_n hG dX1_note_42 rfl 0 rfl ?_
      refine gf_X1_22 hS0 hG (by decide) dX1_note_43 ?_
      refine rr_aload_n hG dX1_note_46 rfl 0 rfl ?_
      refine gf_X1_37 hS0 hG (by decide) dX1_note_47 (fun z47 => ?_)
      refine rr_iload hG dX1_note_50 4 rfl ?_
      refine rr_iast hG (bd_kS4 hS0) (bd_bS4 hS0 (by decide)) dX1_note_52 (fun s52 => ?_)
      refine rr_aload_n hG dX1_note_53 rfl 0 rfl ?_
      refine gf_X1_25 hS0 hG (by decide) dX1_note_54 ?_
      refine rr_aload_n hG dX1_note_57 rfl 0 rfl ?_
      refine gf_X1_37 hS0 hG (by decide) dX1_note_58 (fun z58 => ?_)
      refine rr_iload hG dX1_note_61 5 rfl ?_
      refine rr_iast hG (bd_kS5 hS0) (bd_bS5 hS0 (by decide)) dX1_note_63 (fun s63 => ?_)
      refine rr_aload_n hG dX1_note_64 rfl 0 rfl ?_
      refine rr_dup hG dX1_note_65 rfl ?_
      refine gf_X1_37 hS0 hG (by decide) dX1_note_66 (fun z66 => ?_)
      refine rr_iconst (v := 1) hG dX1_note_69 (by decide) ?_
      refine rr_iadd hG dX1_note_70 (fun z70 => ?_)
      refine pf_X1_37 hS0 hG (by decide) dX1_note_71 (fun s71 => ?_)
      refine rr_aload_n hG dX1_note_74 rfl 0 rfl ?_
      refine gf_X1_37 hS0 hG (by decide) dX1_note_75 (fun z75 => ?_)
      exact rr_iret hG ho dX1_note_78
    · refine rr_bipush (v := (-4)) hG dX1_note_9 (by decide) ?_
      exact rr_iret hG ho dX1_note_11
  exact h
set_option maxRecDepth 100000 in
set_option maxHeartbeats 4000000 in
theorem b_X2_set_43 {G : bd_G} {out : Int32 × bd_S} (hG : bd_OK G cX2_set 7 RX2 55 2 43 (some .int)) (ho : bd_ends bd_Qi G out) (x1 : Int32) (x2 : Int32) (x3 : Int32) (x4 : Int32) (x5 : Int32) (x6 : Int32) (t0 : Int32) (t1 : Int32) (t2 : Int32) (s_ : bd_S) : bd_WF G out (f_X2_set_43 x1 x2 x3 x4 x5 x6 t0 t1 t2 s_) s_ 43 [(0, .ref (bd_ad (g_E G) 0)), (1, .int x1), (2, .int x2), (3, .int x3), (4, .int x4), (5, .int x5), (6, .int x6)] [.int t0, .int t1, .int t2] := by
  unfold f_X2_set_43
  refine rr_cSi hG [.int t2, .int t1, .int t0] (c_X2_outside (g_l G) (g_E G) (hG.hE.mono (by decide)) t2 t1 t0 s_) lk_X2_87 sm_X2_outside (Nat.le_of_ble_eq_true rfl) (Nat.le_of_ble_eq_true rfl) rfl rfl (Nat.le_of_ble_eq_true rfl) dX2_set_43 (fun z43 s43 => ?_)
  refine rr_if_ne hG 60 dX2_set_46 (by decide) ?_ ?_
  · refine rr_bipush (v := (-2)) hG dX2_set_60 (by decide) ?_
    exact rr_iret hG ho dX2_set_62
  · refine rr_iload hG dX2_set_49 6 rfl ?_
    refine rr_sipush (v := 9999) hG dX2_set_51 (by decide) ?_
    refine rr_cSi hG [.int x6, .int 9999] (c_X2_beyond (g_l G) (g_E G) (hG.hE.mono (by decide)) x6 9999 s43) lk_X2_68 sm_X2_beyond (Nat.le_of_ble_eq_true rfl) (Nat.le_of_ble_eq_true rfl) rfl rfl (Nat.le_of_ble_eq_true rfl) dX2_set_54 (fun z54 s54 => ?_)
    refine rr_if_eq hG 63 dX2_set_57 (by decide) ?_ ?_
    · refine rr_aload_n hG dX2_set_63 rfl 0 rfl ?_
      refine gf_X2_37 hG (by decide) dX2_set_64 ?_
      refine rr_iload_n hG dX2_set_67 rfl 1 rfl ?_
      refine rr_aald hG (by decide) dX2_set_68 (fun S68 hS68 => ?_)
      refine rr_iload_n hG dX2_set_69 rfl 2 rfl ?_
      refine rr_iload_n hG dX2_set_70 rfl 3 rfl ?_
      refine rr_iconst (v := 1) hG dX2_set_71 (by decide) ?_
      refine rr_iload hG dX2_set_72 6 rfl ?_
      refine rr_iload hG dX2_set_74 4 rfl ?_
      refine rr_iload hG dX2_set_76 5 rfl ?_
      refine rr_cSi hG [.int x4, .int x5] (c_X2_latestNoted (g_l G) (g_E G) (hG.hE.mono (by decide)) x4 x5 s54) lk_X2_132 sm_X2_latestNoted (Nat.le_of_ble_eq_true rfl) (Nat.le_of_ble_eq_true rfl) rfl rfl (Nat.le_of_ble_eq_true rfl) dX2_set_78 (fun z78 s78 => ?_)
      refine rr_isub hG dX2_set_81 (fun z81 => ?_)
      refine rr_iload hG dX2_set_82 6 rfl ?_
      refine rr_iload hG dX2_set_84 4 rfl ?_
      refine rr_iload hG dX2_set_86 5 rfl ?_
      refine rr_cSi hG [.int x4, .int x5] (c_X2_soonestNoted (g_l G) (g_E G) (hG.hE.mono (by decide)) x4 x5 s78) lk_X2_135 sm_X2_soonestNoted (Nat.le_of_ble_eq_true rfl) (Nat.le_of_ble_eq_true rfl) rfl rfl (Nat.le_of_ble_eq_true rfl) dX2_set_88 (fun z88 s88 => ?_)
      refine rr_isub hG dX2_set_91 (fun z91 => ?_)
      refine rr_cNi hG [.int x2, .int x3, .int 1, .int z81, .int z91] (c_X1_note (g_l G) (g_E G) (hG.hE.mono (by decide)) S68 x2 x3 1 z81 z91 hS68 s88) lk_X2_138 im_X1_note se_X1_note (bd_kS0 hS68) (bd_bS0 hS68 (by decide)) (by decide) rfl rfl (Nat.le_of_ble_eq_true rfl) (Nat.le_of_ble_eq_true rfl) rfl rfl (Nat.le_of_ble_eq_true rfl) dX2_set_92 (fun z92 s92 => ?_)
      exact rr_iret hG ho dX2_set_95
    · refine rr_bipush (v := (-2)) hG dX2_set_60 (by decide) ?_
      exact rr_iret hG ho dX2_set_62
set_option maxRecDepth 100000 in
set_option maxHeartbeats 4000000 in
theorem c_X2_set (l : Launch) (E : bd_E) (hE : bd_ok E 55) (p1 : Int32) (p2 : Int32) (p3 : Int32) (p4 : Int32) (p5 : Int32) (p6 : Int32) (s_ : bd_S) : bd_M bd_Qi l yX2_set cX2_set 7 (some .int) 2 43 E [.ref (bd_ad E 0), .int p1, .int p2, .int p3, .int p4, .int p5, .int p6] s_ (f_X2_set p1 p2 p3 p4 p5 p6 s_) := by
  refine bd_open bd_Qi (by decide +kernel) hE (Nat.le_of_ble_eq_true rfl) (fun G out hG hGE hGl ho => ?_)
  subst hGE
  have hG : bd_OK G cX2_set 7 RX2 55 2 43 (some .int) := hG
  have h : bd_WF G out (f_X2_set p1 p2 p3 p4 p5 p6 s_) s_ 0 [(0, .ref (bd_ad (g_E G) 0)), (1, .int p1), (2, .int p2), (3, .int p3), (4, .int p4), (5, .int p5), (6, .int p6)] [] := by
    unfold f_X2_set
    refine rr_aload_n hG dX2_set_0 rfl 0 rfl ?_
    refine rr_iload_n hG dX2_set_1 rfl 1 rfl ?_
    refine rr_iload_n hG dX2_set_2 rfl 2 rfl ?_
    refine rr_cVi hG [.int p1, .int p2] (c_X2_noClock (g_l G) (g_E G) (hG.hE.mono (by decide)) p1 p2 s_) lk_X2_129 im_X2_noClock se_X2_noClock rfl (by decide) (by decide) rfl rfl (Nat.le_of_ble_eq_true rfl) (Nat.le_of_ble_eq_true rfl) rfl rfl (Nat.le_of_ble_eq_true rfl) dX2_set_3 (fun z3 s3 => ?_)
    refine rr_if_ne hG 16 dX2_set_6 (by decide) ?_ ?_
    · refine rr_iconst (v := (-1)) hG dX2_set_16 (by decide) ?_
      exact rr_iret hG ho dX2_set_17
    · refine rr_iload_n hG dX2_set_9 rfl 3 rfl ?_
      refine rr_cSi hG [.int p3] (c_X2_noDay (g_l G) (g_E G) (hG.hE.mono (by decide)) p3 s3) lk_X2_64 sm_X2_noDay (Nat.le_of_ble_eq_true rfl) (Nat.le_of_ble_eq_true rfl) rfl rfl (Nat.le_of_ble_eq_true rfl) dX2_set_10 (fun z10 s10 => ?_)
      refine rr_if_eq hG 18 dX2_set_13 (by decide) ?_ ?_
      · refine rr_iload hG dX2_set_18 4 rfl ?_
        refine rr_iconst (v := 0) hG dX2_set_20 (by decide) ?_
        refine rr_iconst (v := 2) hG dX2_set_21 (by decide) ?_
        refine rr_cSi hG [.int p4, .int 0, .int 2] (c_X2_outside (g_l G) (g_E G) (hG.hE.mono (by decide)) p4 0 2 s10) lk_X2_87 sm_X2_outside (Nat.le_of_ble_eq_true rfl) (Nat.le_of_ble_eq_true rfl) rfl rfl (Nat.le_of_ble_eq_true rfl) dX2_set_22 (fun z22 s22 => ?_)
        refine rr_if_ne hG 60 dX2_set_25 (by decide) ?_ ?_
        · refine rr_bipush (v := (-2)) hG dX2_set_60 (by decide) ?_
          exact rr_iret hG ho dX2_set_62
        · refine rr_iload hG dX2_set_28 5 rfl ?_
          refine rr_iconst (v := 0) hG dX2_set_30 (by decide) ?_
          refine rr_iload hG dX2_set_31 4 rfl ?_
          refine rr_iconst (v := 2) hG dX2_set_33 (by decide) ?_
          refine rr_icmp_ne hG 42 dX2_set_34 (by decide) ?_ ?_
          · refine rr_iconst (v := 0) hG dX2_set_42 (by decide) ?_
            exact (b_X2_set_43 hG ho p1 p2 p3 p4 p5 p6 0 0 p5 s22)
          · refine rr_bipush (v := 30) hG dX2_set_37 (by decide) ?_
            refine rr_goto (tgt := 43) hG dX2_set_39 (by decide) ?_
            exact (b_X2_set_43 hG ho p1 p2 p3 p4 p5 p6 30 0 p5 s22)
      · refine rr_iconst (v := (-1)) hG dX2_set_16 (by decide) ?_
        exact rr_iret hG ho dX2_set_17
  exact h
set_option maxRecDepth 100000 in
set_option maxHeartbeats 4000000 in
theorem c_X2_meet (l : Launch) (E : bd_E) (hE : bd_ok E 55) (p1 : Int32) (p2 : Int32) (p3 : Int32) (p4 : Int32) (p5 : Int32) (s_ : bd_S) : bd_M bd_Qi l yX2_meet cX2_meet 7 (some .int) 2 43 E [.ref (bd_ad E 0), .int p1, .int p2, .int p3, .int p4, .int p5] s_ (f_X2_meet p1 p2 p3 p4 p5 s_) := by
  refine bd_open bd_Qi (by decide +kernel) hE (Nat.le_of_ble_eq_true rfl) (fun G out hG hGE hGl ho => ?_)
  subst hGE
  have hG : bd_OK G cX2_meet 7 RX2 55 2 43 (some .int) := hG
  have h : bd_WF G out (f_X2_meet p1 p2 p3 p4 p5 s_) s_ 0 [(0, .ref (bd_ad (g_E G) 0)), (1, .int p1), (2, .int p2), (3, .int p3), (4, .int p4), (5, .int p5)] [] := by
    unfold f_X2_meet
    refine rr_aload_n hG dX2_meet_0 rfl 0 rfl ?_
    refine rr_iload_n hG dX2_meet_1 rfl 1 rfl ?_
    refine rr_iload_n hG dX2_meet_2 rfl 2 rfl ?_
    refine rr_cVi hG [.int p1, .int p2] (c_X2_noClock (g_l G) (g_E G) (hG.hE.mono (by decide)) p1 p2 s_) lk_X2_129 im_X2_noClock se_X2_noClock rfl (by decide) (by decide) rfl rfl (Nat.le_of_ble_eq_true rfl) (Nat.le_of_ble_eq_true rfl) rfl rfl (Nat.le_of_ble_eq_true rfl) dX2_meet_3 (fun z3 s3 => ?_)
    refine rr_if_ne hG 16 dX2_meet_6 (by decide) ?_ ?_
    · refine rr_iconst (v := (-1)) hG dX2_meet_16 (by decide) ?_
      exact rr_iret hG ho dX2_meet_17
    · refine rr_iload_n hG dX2_meet_9 rfl 3 rfl ?_
      refine rr_cSi hG [.int p3] (c_X2_noDay (g_l G) (g_E G) (hG.hE.mono (by decide)) p3 s3) lk_X2_64 sm_X2_noDay (Nat.le_of_ble_eq_true rfl) (Nat.le_of_ble_eq_true rfl) rfl rfl (Nat.le_of_ble_eq_true rfl) dX2_meet_10 (fun z10 s10 => ?_)
      refine rr_if_eq hG 18 dX2_meet_13 (by decide) ?_ ?_
      · refine rr_iload hG dX2_meet_18 4 rfl ?_
        refine rr_ldc (v := 99999) hG kc_X2_63 dX2_meet_20 ?_
        refine rr_cSi hG [.int p4, .int 99999] (c_X2_beyond (g_l G) (g_E G) (hG.hE.mono (by decide)) p4 99999 s10) lk_X2_68 sm_X2_beyond (Nat.le_of_ble_eq_true rfl) (Nat.le_of_ble_eq_true rfl) rfl rfl (Nat.le_of_ble_eq_true rfl) dX2_meet_22 (fun z22 s22 => ?_)
        refine rr_if_ne hG 39 dX2_meet_25 (by decide) ?_ ?_
        · refine rr_bipush (v := (-2)) hG dX2_meet_39 (by decide) ?_
          exact rr_iret hG ho dX2_meet_41
        · refine rr_iload hG dX2_meet_28 5 rfl ?_
          refine rr_sipush (v := 9999) hG dX2_meet_30 (by decide) ?_
          refine rr_cSi hG [.int p5, .int 9999] (c_X2_beyond (g_l G) (g_E G) (hG.hE.mono (by decide)) p5 9999 s22) lk_X2_68 sm_X2_beyond (Nat.le_of_ble_eq_true rfl) (Nat.le_of_ble_eq_true rfl) rfl rfl (Nat.le_of_ble_eq_true rfl) dX2_meet_33 (fun z33 s33 => ?_)
          refine rr_if_eq hG 42 dX2_meet_36 (by decide) ?_ ?_
          · refine rr_iload hG dX2_meet_42 4 rfl ?_
            refine rr_iconst (v := 4) hG dX2_meet_44 (by decide) ?_
            refine rr_iload hG dX2_meet_45 5 rfl ?_
            refine rr_imul hG dX2_meet_47 (fun z47 => ?_)
            refine rr_isub hG dX2_meet_48 (fun z48 => ?_)
            refine rr_istore (lr := [(0, .ref (bd_ad (g_E G) 0)), (1, .int p1), (2, .int p2), (3, .int p3), (4, .int p4), (5, .int p5)]) hG dX2_meet_49 (by decide) rfl ?_
            refine rr_aload_n hG dX2_meet_51 rfl 1 rfl ?_
            refine gf_X2_37 hG (by decide) dX2_meet_52 ?_
            refine rr_iload_n hG dX2_meet_55 rfl 2 rfl ?_
            refine rr_aald hG (by decide) dX2_meet_56 (fun S56 hS56 => ?_)
            refine rr_iload_n hG dX2_meet_57 rfl 3 rfl ?_
            refine rr_iload_n hG dX2_meet_58 rfl 4 rfl ?_
            refine rr_iconst (v := 0) hG dX2_meet_59 (by decide) ?_
            refine rr_iload hG dX2_meet_60 0 rfl ?_
            refine rr_iconst (v := 4) hG dX2_meet_62 (by decide) ?_
            refine rr_isub hG dX2_meet_63 (fun z63 => ?_)
            refine rr_iload hG dX2_meet_64 0 rfl ?_
            refine rr_iconst (v := 4) hG dX2_meet_66 (by decide) ?_
            refine rr_iadd hG dX2_meet_67 (fun z67 => ?_)
            refine rr_cNi hG [.int p2, .int p3, .int 0, .int z63, .int z67] (c_X1_note (g_l G) (g_E G) (hG.hE.mono (by decide)) S56 p2 p3 0 z63 z67 hS56 s33) lk_X2_138 im_X1_note se_X1_note (bd_kS0 hS56) (bd_bS0 hS56 (by decide)) (by decide) rfl rfl (Nat.le_of_ble_eq_true rfl) (Nat.le_of_ble_eq_true rfl) rfl rfl (Nat.le_of_ble_eq_true rfl) dX2_meet_68 (fun z68 s68 => ?_)
            exact rr_iret hG ho dX2_meet_71
          · refine rr_bipush (v := (-2)) hG dX2_meet_39 (by decide) ?_
            exact rr_iret hG ho dX2_meet_41
      · refine rr_iconst (v := (-1)) hG dX2_meet_16 (by decide) ?_
        exact rr_iret hG ho dX2_meet_17
  exact h
set_option maxRecDepth 100000 in
set_option maxHeartbeats 4000000 in
theorem c_X2_strike (l : Launch) (E : bd_E) (hE : bd_ok E 55) (p1 : Int32) (s_ : bd_S) : bd_M bd_Qi l yX2_strike cX2_strike 3 (some .int) 1 21 E [.ref (bd_ad E 0), .int p1] s_ (f_X2_strike p1 s_) := by
  refine bd_open bd_Qi (by decide +kernel) hE (Nat.le_of_ble_eq_true rfl) (fun G out hG hGE hGl ho => ?_)
  subst hGE
  have hG : bd_OK G cX2_strike 3 RX2 55 1 21 (some .int) := hG
  have h : bd_WF G out (f_X2_strike p1 s_) s_ 0 [(0, .ref (bd_ad (g_E G) 0)), (1, .int p1)] [] := by
    unfold f_X2_strike
    refine rr_aload_n hG dX2_strike_0 rfl 0 rfl ?_
    refine rr_iload_n hG dX2_strike_1 rfl 1 rfl ?_
    refine rr_cVi hG [.int p1] (c_X2_noShip (g_l G) (g_E G) (hG.hE.mono (by decide)) p1 s_) lk_X2_142 im_X2_noShip se_X2_noShip rfl (by decide) (by decide) rfl rfl (Nat.le_of_ble_eq_true rfl) (Nat.le_of_ble_eq_true rfl) rfl rfl (Nat.le_of_ble_eq_true rfl) dX2_strike_2 (fun z2 s2 => ?_)
    refine rr_if_eq hG 10 dX2_strike_5 (by decide) ?_ ?_
    · refine rr_aload_n hG dX2_strike_10 rfl 0 rfl ?_
      refine gf_X2_37 hG (by decide) dX2_strike_11 ?_
      refine rr_iload_n hG dX2_strike_14 rfl 1 rfl ?_
      refine rr_aald hG (by decide) dX2_strike_15 (fun S15 hS15 => ?_)
      refine rr_astore_n (lr := [(0, .ref (bd_ad (g_E G) 0)), (1, .int p1)]) hG dX2_strike_16 rfl (by decide) rfl ?_
      refine rr_aload_n hG dX2_strike_17 rfl 0 rfl ?_
      refine gf_X2_145 hS15 hG (by decide) dX2_strike_18 (fun z18 => ?_)
      refine rr_if_gt hG 27 dX2_strike_21 (by decide) ?_ ?_
      · refine rr_aload_n hG dX2_strike_27 rfl 0 rfl ?_
        refine rr_dup hG dX2_strike_28 rfl ?_
        refine gf_X2_145 hS15 hG (by decide) dX2_strike_29 (fun z29 => ?_)
        refine rr_iconst (v := 1) hG dX2_strike_32 (by decide) ?_
        refine rr_isub hG dX2_strike_33 (fun z33 => ?_)
        refine pf_X2_145 hS15 hG (by decide) dX2_strike_34 (fun s34 => ?_)
        refine rr_aload_n hG dX2_strike_37 rfl 0 rfl ?_
        refine gf_X2_145 hS15 hG (by decide) dX2_strike_38 (fun z38 => ?_)
        exact rr_iret hG ho dX2_strike_41
      · refine rr_bipush (v := (-5)) hG dX2_strike_24 (by decide) ?_
        exact rr_iret hG ho dX2_strike_26
    · refine rr_iconst (v := (-1)) hG dX2_strike_8 (by decide) ?_
      exact rr_iret hG ho dX2_strike_9
  exact h
set_option maxRecDepth 100000 in
set_option maxHeartbeats 4000000 in
theorem c_X2_saw (l : Launch) (E : bd_E) (hE : bd_ok E 55) (p1 : Int32) (p2 : Int32) (p3 : Int32) (s_ : bd_S) : bd_M bd_Qi l yX2_saw cX2_saw 6 (some .int) 1 22 E [.ref (bd_ad E 0), .int p1, .int p2, .int p3] s_ (f_X2_saw p1 p2 p3 s_) := by
  refine bd_open bd_Qi (by decide +kernel) hE (Nat.le_of_ble_eq_true rfl) (fun G out hG hGE hGl ho => ?_)
  subst hGE
  have hG : bd_OK G cX2_saw 6 RX2 55 1 22 (some .int) := hG
  have h : bd_WF G out (f_X2_saw p1 p2 p3 s_) s_ 0 [(0, .ref (bd_ad (g_E G) 0)), (1, .int p1), (2, .int p2), (3, .int p3)] [] := by
    unfold f_X2_saw
    refine rr_aload_n hG dX2_saw_0 rfl 0 rfl ?_
    refine rr_iload_n hG dX2_saw_1 rfl 1 rfl ?_
    refine rr_cVi hG [.int p1] (c_X2_noShip (g_l G) (g_E G) (hG.hE.mono (by decide)) p1 s_) lk_X2_142 im_X2_noShip se_X2_noShip rfl (by decide) (by decide) rfl rfl (Nat.le_of_ble_eq_true rfl) (Nat.le_of_ble_eq_true rfl) rfl rfl (Nat.le_of_ble_eq_true rfl) dX2_saw_2 (fun z2 s2 => ?_)
    refine rr_if_ne hG 15 dX2_saw_5 (by decide) ?_ ?_
    · refine rr_iconst (v := (-1)) hG dX2_saw_15 (by decide) ?_
      exact rr_iret hG ho dX2_saw_16
    · refine rr_iload_n hG dX2_saw_8 rfl 2 rfl ?_
      refine rr_cSi hG [.int p2] (c_X2_noDay (g_l G) (g_E G) (hG.hE.mono (by decide)) p2 s2) lk_X2_64 sm_X2_noDay (Nat.le_of_ble_eq_true rfl) (Nat.le_of_ble_eq_true rfl) rfl rfl (Nat.le_of_ble_eq_true rfl) dX2_saw_9 (fun z9 s9 => ?_)
      refine rr_if_eq hG 17 dX2_saw_12 (by decide) ?_ ?_
      · refine rr_aload_n hG dX2_saw_17 rfl 0 rfl ?_
        refine gf_X2_37 hG (by decide) dX2_saw_18 ?_
        refine rr_iload_n hG dX2_saw_21 rfl 1 rfl ?_
        refine rr_aald hG (by decide) dX2_saw_22 (fun S22 hS22 => ?_)
        refine rr_astore (lr := [(0, .ref (bd_ad (g_E G) 0)), (1, .int p1), (2, .int p2), (3, .int p3)]) hG dX2_saw_23 (by decide) rfl ?_
        refine rr_aload hG dX2_saw_25 0 rfl ?_
        refine gf_X2_148 hS22 hG (by decide) dX2_saw_27 (fun z27 => ?_)
        refine rr_iload_n hG dX2_saw_30 rfl 3 rfl ?_
        refine rr_cSi hG [.int z27, .int p2] (c_X2_bitOf (g_l G) (g_E G) (hG.hE.mono (by decide)) z27 p2 s9) lk_X2_111 sm_X2_bitOf (Nat.le_of_ble_eq_true rfl) (Nat.le_of_ble_eq_true rfl) rfl rfl (Nat.le_of_ble_eq_true rfl) dX2_saw_31 (fun z31 s31 => ?_)
        refine rr_istore (lr := [(4, .ref (bd_ad (g_E G) S22)), (0, .ref (bd_ad (g_E G) 0)), (1, .int p1), (2, .int p2), (3, .int p3)]) hG dX2_saw_34 (by decide) rfl ?_
        refine rr_aload hG dX2_saw_36 1 rfl ?_
        refine rr_aload hG dX2_saw_38 1 rfl ?_
        refine gf_X2_148 hS22 hG (by decide) dX2_saw_40 (fun z40 => ?_)
        refine rr_iload_n hG dX2_saw_43 rfl 4 rfl ?_
        refine rr_iload_n hG dX2_saw_44 rfl 5 rfl ?_
        refine rr_cSi hG [.int z40, .int p2, .int p3] (c_X2_withBit (g_l G) (g_E G) (hG.hE.mono (by decide)) z40 p2 p3 s31) lk_X2_115 sm_X2_withBit (Nat.le_of_ble_eq_true rfl) (Nat.le_of_ble_eq_true rfl) rfl rfl (Nat.le_of_ble_eq_true rfl) dX2_saw_45 (fun z45 s45 => ?_)
        refine pf_X2_148 hS22 hG (by decide) dX2_saw_48 (fun s48 => ?_)
        refine rr_iload hG dX2_saw_51 0 rfl ?_
        exact rr_iret hG ho dX2_saw_53
      · refine rr_iconst (v := (-1)) hG dX2_saw_15 (by decide) ?_
        exact rr_iret hG ho dX2_saw_16
  exact h
set_option maxRecDepth 100000 in
set_option maxHeartbeats 4000000 in
theorem c_X2_clock (l : Launch) (E : bd_E) (hE : bd_ok E 55) (p1 : Int32) (p2 : Int32) (p3 : Int32) (p4 : Int32) (s_ : bd_S) : bd_M bd_Qi l yX2_clock cX2_clock 7 (some .int) 2 43 E [.ref (bd_ad E 0), .int p1, .int p2, .int p3, .int p4] s_ (f_X2_clock p1 p2 p3 p4 s_) := by
  refine bd_open bd_Qi (by decide +kernel) hE (Nat.le_of_ble_eq_true rfl) (fun G out hG hGE hGl ho => ?_)
  subst hGE
  have hG : bd_OK G cX2_clock 7 RX2 55 2 43 (some .int) := hG
  have h : bd_WF G out (f_X2_clock p1 p2 p3 p4 s_) s_ 0 [(0, .ref (bd_ad (g_E G) 0)), (1, .int p1), (2, .int p2), (3, .int p3), (4, .int p4)] [] := by
    unfold f_X2_clock
    refine rr_aload_n hG dX2_clock_0 rfl 0 rfl ?_
    refine rr_iload_n hG dX2_clock_1 rfl 1 rfl ?_
    refine rr_iload_n hG dX2_clock_2 rfl 2 rfl ?_
    refine rr_cVi hG [.int p1, .int p2] (c_X2_noClock (g_l G) (g_E G) (hG.hE.mono (by decide)) p1 p2 s_) lk_X2_129 im_X2_noClock se_X2_noClock rfl (by decide) (by decide) rfl rfl (Nat.le_of_ble_eq_true rfl) (Nat.le_of_ble_eq_true rfl) rfl rfl (Nat.le_of_ble_eq_true rfl) dX2_clock_3 (fun z3 s3 => ?_)
    refine rr_if_eq hG 11 dX2_clock_6 (by decide) ?_ ?_
    · refine rr_iload_n hG dX2_clock_11 rfl 3 rfl ?_
      refine rr_iconst (v := 0) hG dX2_clock_12 (by decide) ?_
      refine rr_iconst (v := 1) hG dX2_clock_13 (by decide) ?_
      refine rr_cSi hG [.int p3, .int 0, .int 1] (c_X2_outside (g_l G) (g_E G) (hG.hE.mono (by decide)) p3 0 1 s3) lk_X2_87 sm_X2_outside (Nat.le_of_ble_eq_true rfl) (Nat.le_of_ble_eq_true rfl) rfl rfl (Nat.le_of_ble_eq_true rfl) dX2_clock_14 (fun z14 s14 => ?_)
      refine rr_if_ne hG 48 dX2_clock_17 (by decide) ?_ ?_
      · refine rr_bipush (v := (-2)) hG dX2_clock_48 (by decide) ?_
        exact rr_iret hG ho dX2_clock_50
      · refine rr_iload_n hG dX2_clock_20 rfl 3 rfl ?_
        refine rr_if_ne hG 37 dX2_clock_21 (by decide) ?_ ?_
        · refine rr_iload hG dX2_clock_37 4 rfl ?_
          refine rr_iconst (v := 1) hG dX2_clock_39 (by decide) ?_
          refine rr_bipush (v := 9) hG dX2_clock_40 (by decide) ?_
          refine rr_cSi hG [.int p4, .int 1, .int 9] (c_X2_outside (g_l G) (g_E G) (hG.hE.mono (by decide)) p4 1 9 s14) lk_X2_87 sm_X2_outside (Nat.le_of_ble_eq_true rfl) (Nat.le_of_ble_eq_true rfl) rfl rfl (Nat.le_of_ble_eq_true rfl) dX2_clock_42 (fun z42 s42 => ?_)
          refine rr_if_eq hG 51 dX2_clock_45 (by decide) ?_ ?_
          · refine rr_iload_n hG dX2_clock_51 rfl 3 rfl ?_
            refine rr_if_ne hG 67 dX2_clock_52 (by decide) ?_ ?_
            · refine rr_aload_n hG dX2_clock_67 rfl 0 rfl ?_
              refine gf_X2_37 hG (by decide) dX2_clock_68 ?_
              refine rr_iload_n hG dX2_clock_71 rfl 1 rfl ?_
              refine rr_aald hG (by decide) dX2_clock_72 (fun S72 hS72 => ?_)
              refine gf_X2_154 hS72 hG (by decide) dX2_clock_73 ?_
              refine rr_astore (lr := [(0, .ref (bd_ad (g_E G) 0)), (1, .int p1), (2, .int p2), (3, .int p3), (4, .int p4)]) hG dX2_clock_76 (by decide) rfl ?_
              refine rr_aload hG dX2_clock_78 0 rfl ?_
              refine rr_iload_n hG dX2_clock_80 rfl 3 rfl ?_
              refine rr_iald hG (bd_kS7 hS72) (bd_bS7 hS72 (by decide)) dX2_clock_81 (fun z81 => ?_)
              refine rr_istore (lr := [(5, .ref (bd_ad (g_E G) (S72 + 7))), (0, .ref (bd_ad (g_E G) 0)), (1, .int p1), (2, .int p2), (3, .int p3), (4, .int p4)]) hG dX2_clock_82 (by decide) rfl ?_
              refine rr_aload hG dX2_clock_84 1 rfl ?_
              refine rr_iload_n hG dX2_clock_86 rfl 4 rfl ?_
              refine rr_iload hG dX2_clock_87 6 rfl ?_
              refine rr_iast hG (bd_kS7 hS72) (bd_bS7 hS72 (by decide)) dX2_clock_89 (fun s89 => ?_)
              refine rr_iload hG dX2_clock_90 0 rfl ?_
              exact rr_iret hG ho dX2_clock_92
            · refine rr_aload_n hG dX2_clock_55 rfl 0 rfl ?_
              refine gf_X2_37 hG (by decide) dX2_clock_56 ?_
              refine rr_iload_n hG dX2_clock_59 rfl 1 rfl ?_
              refine rr_aald hG (by decide) dX2_clock_60 (fun S60 hS60 => ?_)
              refine gf_X2_151 hS60 hG (by decide) dX2_clock_61 ?_
              refine rr_goto (tgt := 76) hG dX2_clock_64 (by decide) ?_
              refine rr_astore (lr := [(0, .ref (bd_ad (g_E G) 0)), (1, .int p1), (2, .int p2), (3, .int p3), (4, .int p4)]) hG dX2_clock_76 (by decide) rfl ?_
              refine rr_aload hG dX2_clock_78 0 rfl ?_
              refine rr_iload_n hG dX2_clock_80 rfl 3 rfl ?_
              refine rr_iald hG (bd_kS6 hS60) (bd_bS6 hS60 (by decide)) dX2_clock_81 (fun z81 => ?_)
              refine rr_istore (lr := [(5, .ref (bd_ad (g_E G) (S60 + 6))), (0, .ref (bd_ad (g_E G) 0)), (1, .int p1), (2, .int p2), (3, .int p3), (4, .int p4)]) hG dX2_clock_82 (by decide) rfl ?_
              refine rr_aload hG dX2_clock_84 1 rfl ?_
              refine rr_iload_n hG dX2_clock_86 rfl 4 rfl ?_
              refine rr_iload hG dX2_clock_87 6 rfl ?_
              refine rr_iast hG (bd_kS6 hS60) (bd_bS6 hS60 (by decide)) dX2_clock_89 (fun s89 => ?_)
              refine rr_iload hG dX2_clock_90 0 rfl ?_
              exact rr_iret hG ho dX2_clock_92
          · refine rr_bipush (v := (-2)) hG dX2_clock_48 (by decide) ?_
            exact rr_iret hG ho dX2_clock_50
        · refine rr_iload hG dX2_clock_24 4 rfl ?_
          refine rr_iconst (v := 0) hG dX2_clock_26 (by decide) ?_
          refine rr_iconst (v := 5) hG dX2_clock_27 (by decide) ?_
          refine rr_cSi hG [.int p4, .int 0, .int 5] (c_X2_outside (g_l G) (g_E G) (hG.hE.mono (by decide)) p4 0 5 s14) lk_X2_87 sm_X2_outside (Nat.le_of_ble_eq_true rfl) (Nat.le_of_ble_eq_true rfl) rfl rfl (Nat.le_of_ble_eq_true rfl) dX2_clock_28 (fun z28 s28 => ?_)
          refine rr_if_eq hG 51 dX2_clock_31 (by decide) ?_ ?_
          · refine rr_iload_n hG dX2_clock_51 rfl 3 rfl ?_
            refine rr_if_ne hG 67 dX2_clock_52 (by decide) ?_ ?_
            · refine rr_aload_n hG dX2_clock_67 rfl 0 rfl ?_
              refine gf_X2_37 hG (by decide) dX2_clock_68 ?_
              refine rr_iload_n hG dX2_clock_71 rfl 1 rfl ?_
              refine rr_aald hG (by decide) dX2_clock_72 (fun S72 hS72 => ?_)
              refine gf_X2_154 hS72 hG (by decide) dX2_clock_73 ?_
              refine rr_astore (lr := [(0, .ref (bd_ad (g_E G) 0)), (1, .int p1), (2, .int p2), (3, .int p3), (4, .int p4)]) hG dX2_clock_76 (by decide) rfl ?_
              refine rr_aload hG dX2_clock_78 0 rfl ?_
              refine rr_iload_n hG dX2_clock_80 rfl 3 rfl ?_
              refine rr_iald hG (bd_kS7 hS72) (bd_bS7 hS72 (by decide)) dX2_clock_81 (fun z81 => ?_)
              refine rr_istore (lr := [(5, .ref (bd_ad (g_E G) (S72 + 7))), (0, .ref (bd_ad (g_E G) 0)), (1, .int p1), (2, .int p2), (3, .int p3), (4, .int p4)]) hG dX2_clock_82 (by decide) rfl ?_
              refine rr_aload hG dX2_clock_84 1 rfl ?_
              refine rr_iload_n hG dX2_clock_86 rfl 4 rfl ?_
              refine rr_iload hG dX2_clock_87 6 rfl ?_
              refine rr_iast hG (bd_kS7 hS72) (bd_bS7 hS72 (by decide)) dX2_clock_89 (fun s89 => ?_)
              refine rr_iload hG dX2_clock_90 0 rfl ?_
              exact rr_iret hG ho dX2_clock_92
            · refine rr_aload_n hG dX2_clock_55 rfl 0 rfl ?_
              refine gf_X2_37 hG (by decide) dX2_clock_56 ?_
              refine rr_iload_n hG dX2_clock_59 rfl 1 rfl ?_
              refine rr_aald hG (by decide) dX2_clock_60 (fun S60 hS60 => ?_)
              refine gf_X2_151 hS60 hG (by decide) dX2_clock_61 ?_
              refine rr_goto (tgt := 76) hG dX2_clock_64 (by decide) ?_
              refine rr_astore (lr := [(0, .ref (bd_ad (g_E G) 0)), (1, .int p1), (2, .int p2), (3, .int p3), (4, .int p4)]) hG dX2_clock_76 (by decide) rfl ?_
              refine rr_aload hG dX2_clock_78 0 rfl ?_
              refine rr_iload_n hG dX2_clock_80 rfl 3 rfl ?_
              refine rr_iald hG (bd_kS6 hS60) (bd_bS6 hS60 (by decide)) dX2_clock_81 (fun z81 => ?_)
              refine rr_istore (lr := [(5, .ref (bd_ad (g_E G) (S60 + 6))), (0, .ref (bd_ad (g_E G) 0)), (1, .int p1), (2, .int p2), (3, .int p3), (4, .int p4)]) hG dX2_clock_82 (by decide) rfl ?_
              refine rr_aload hG dX2_clock_84 1 rfl ?_
              refine rr_iload_n hG dX2_clock_86 rfl 4 rfl ?_
              refine rr_iload hG dX2_clock_87 6 rfl ?_
              refine rr_iast hG (bd_kS6 hS60) (bd_bS6 hS60 (by decide)) dX2_clock_89 (fun s89 => ?_)
              refine rr_iload hG dX2_clock_90 0 rfl ?_
              exact rr_iret hG ho dX2_clock_92
          · refine rr_goto (tgt := 48) hG dX2_clock_34 (by decide) ?_
            refine rr_bipush (v := (-2)) hG dX2_clock_48 (by decide) ?_
            exact rr_iret hG ho dX2_clock_50
    · refine rr_iconst (v := (-1)) hG dX2_clock_9 (by decide) ?_
      exact rr_iret hG ho dX2_clock_10
  exact h
set_option maxRecDepth 100000 in
set_option maxHeartbeats 4000000 in
theorem c_X2_warm (l : Launch) (E : bd_E) (hE : bd_ok E 55) (p1 : Int32) (p2 : Int32) (s_ : bd_S) : bd_M bd_Qi l yX2_warm cX2_warm 4 (some .int) 1 22 E [.ref (bd_ad E 0), .int p1, .int p2] s_ (f_X2_warm p1 p2 s_) := by
  refine bd_open bd_Qi (by decide +kernel) hE (Nat.le_of_ble_eq_true rfl) (fun G out hG hGE hGl ho => ?_)
  subst hGE
  have hG : bd_OK G cX2_warm 4 RX2 55 1 22 (some .int) := hG
  have h : bd_WF G out (f_X2_warm p1 p2 s_) s_ 0 [(0, .ref (bd_ad (g_E G) 0)), (1, .int p1), (2, .int p2)] [] := by
    unfold f_X2_warm
    refine rr_iload_n hG dX2_warm_0 rfl 1 rfl ?_
    refine rr_cSi hG [.int p1] (c_X2_noDay (g_l G) (g_E G) (hG.hE.mono (by decide)) p1 s_) lk_X2_64 sm_X2_noDay (Nat.le_of_ble_eq_true rfl) (Nat.le_of_ble_eq_true rfl) rfl rfl (Nat.le_of_ble_eq_true rfl) dX2_warm_1 (fun z1 s1 => ?_)
    refine rr_if_eq hG 9 dX2_warm_4 (by decide) ?_ ?_
    · refine rr_iload_n hG dX2_warm_9 rfl 2 rfl ?_
      refine rr_iconst (v := 0) hG dX2_warm_10 (by decide) ?_
      refine rr_bipush (v := 9) hG dX2_warm_11 (by decide) ?_
      refine rr_cSi hG [.int p2, .int 0, .int 9] (c_X2_outside (g_l G) (g_E G) (hG.hE.mono (by decide)) p2 0 9 s1) lk_X2_87 sm_X2_outside (Nat.le_of_ble_eq_true rfl) (Nat.le_of_ble_eq_true rfl) rfl rfl (Nat.le_of_ble_eq_true rfl) dX2_warm_13 (fun z13 s13 => ?_)
      refine rr_if_eq hG 22 dX2_warm_16 (by decide) ?_ ?_
      · refine rr_aload_n hG dX2_warm_22 rfl 0 rfl ?_
        refine gf_X2_32 hG (by decide) dX2_warm_23 ?_
        refine rr_iload_n hG dX2_warm_26 rfl 1 rfl ?_
        refine rr_iald hG rfl (by decide) dX2_warm_27 (fun z27 => ?_)
        refine rr_istore_n (lr := [(0, .ref (bd_ad (g_E G) 0)), (1, .int p1), (2, .int p2)]) hG dX2_warm_28 rfl (by decide) rfl ?_
        refine rr_aload_n hG dX2_warm_29 rfl 1 rfl ?_
        refine gf_X2_32 hG (by decide) dX2_warm_30 ?_
        refine rr_iload_n hG dX2_warm_33 rfl 2 rfl ?_
        refine rr_iload_n hG dX2_warm_34 rfl 3 rfl ?_
        refine rr_iast hG rfl (by decide) dX2_warm_35 (fun s35 => ?_)
        refine rr_iload_n hG dX2_warm_36 rfl 0 rfl ?_
        exact rr_iret hG ho dX2_warm_37
      · refine rr_bipush (v := (-2)) hG dX2_warm_19 (by decide) ?_
        exact rr_iret hG ho dX2_warm_21
    · refine rr_iconst (v := (-1)) hG dX2_warm_7 (by decide) ?_
      exact rr_iret hG ho dX2_warm_8
  exact h
set_option maxRecDepth 100000 in
set_option maxHeartbeats 4000000 in
theorem b_X0_open_2 {G : bd_G} {out : Unit × bd_S} (hG : bd_OK G cX0_open 4 RX0 10 0 0 none) (ho : bd_ends bd_Qv G out) {k29 : Nat → Int32 → bd_S → Option (Unit × bd_S)} (hk29 : ∀ (L0 : Nat) (x2 : Int32) (hL0 : bd_isL L0) (s_ : bd_S), bd_WF G out (k29 L0 x2 s_) s_ 29 [(0, .ref (bd_ad (g_E G) L0)), (2, .int x2)] []) : ∀ (n_ : Nat) (x3 : Int32) (L0 : Nat) (x1 : Int32) (x2 : Int32) (hL0 : bd_isL L0) (s_ : bd_S), bd_WF G out (f_X0_open_2 k29 n_ x3 L0 x1 x2 s_) s_ 2 [(3, .int x3), (0, .ref (bd_ad (g_E G) L0)), (1, .int x1), (2, .int x2)] [] := by
  intro n_
  induction n_ with
  | zero => intros; intro hF; cases hF
  | succ n_ ih =>
    intro x3 L0 x1 x2 hL0 s_
    rw [f_X0_open_2]
    refine rr_iload_n hG dX0_open_2 rfl 0 rfl ?_
    refine rr_bipush (v := 20) hG dX0_open_3 (by decide) ?_
    refine rr_icmp_ge hG 29 dX0_open_5 (by decide) ?_ ?_
    · exact rr_sub [1, 3] rfl (hk29 L0 x2 hL0 s_)
    · refine rr_aload_n hG dX0_open_8 rfl 1 rfl ?_
      refine gf_X0_9 hL0 hG (by decide) dX0_open_9 ?_
      refine rr_iload_n hG dX0_open_12 rfl 0 rfl ?_
      refine rr_iload_n hG dX0_open_13 rfl 2 rfl ?_
      refine rr_ineg hG dX0_open_14 (fun z14 => ?_)
      refine rr_iast hG (bd_kL1 hL0) (bd_bL1 hL0 (by decide)) dX0_open_15 (fun s15 => ?_)
      refine rr_aload_n hG dX0_open_16 rfl 1 rfl ?_
      refine gf_X0_15 hL0 hG (by decide) dX0_open_17 ?_
      refine rr_iload_n hG dX0_open_20 rfl 0 rfl ?_
      refine rr_iload_n hG dX0_open_21 rfl 2 rfl ?_
      refine rr_iast hG (bd_kL2 hL0) (bd_bL2 hL0 (by decide)) dX0_open_22 (fun s22 => ?_)
      refine rr_iinc (v := 1) (lr := [(0, .ref (bd_ad (g_E G) L0)), (1, .int x1), (2, .int x2)]) hG dX0_open_23 0 rfl (by decide) (by decide) rfl (fun z23 => ?_)
      refine rr_goto (tgt := 2) hG dX0_open_26 (by decide) ?_
      exact ih z23 L0 x1 x2 hL0 s22
set_option maxRecDepth 100000 in
set_option maxHeartbeats 4000000 in
theorem c_X0_open (l : Launch) (E : bd_E) (hE : bd_ok E 10) (L0 : Nat) (p1 : Int32) (p2 : Int32) (hL0 : bd_isL L0) (s_ : bd_S) : bd_M bd_Qv l yX0_open cX0_open 4 none 0 0 E [.ref (bd_ad E L0), .int p1, .int p2] s_ (f_X0_open L0 p1 p2 s_) := by
  refine bd_open bd_Qv (by decide +kernel) hE (Nat.le_of_ble_eq_true rfl) (fun G out hG hGE hGl ho => ?_)
  subst hGE
  have hG : bd_OK G cX0_open 4 RX0 10 0 0 none := hG
  have h : bd_WF G out (f_X0_open L0 p1 p2 s_) s_ 0 [(0, .ref (bd_ad (g_E G) L0)), (1, .int p1), (2, .int p2)] [] := by
    unfold f_X0_open
    refine rr_iconst (v := 0) hG dX0_open_0 (by decide) ?_
    refine rr_istore_n (lr := [(0, .ref (bd_ad (g_E G) L0)), (1, .int p1), (2, .int p2)]) hG dX0_open_1 rfl (by decide) rfl ?_
    refine (b_X0_open_2 hG ho (fun L0e x2e hL0e e29 => ?_) FU_ 0 L0 p1 p2 hL0 s_)
    · refine rr_aload_n hG dX0_open_29 rfl 0 rfl ?_
      refine rr_iload_n hG dX0_open_30 rfl 1 rfl ?_
      refine rr_ineg hG dX0_open_31 (fun z31 => ?_)
      refine pf_X0_18 hL0e hG (by decide) dX0_open_32 (fun s32 => ?_)
      refine rr_aload_n hG dX0_open_35 rfl 0 rfl ?_
      refine rr_iload_n hG dX0_open_36 rfl 1 rfl ?_
      refine pf_X0_22 hL0e hG (by decide) dX0_open_37 (fun s37 => ?_)
      exact rr_vret hG ho dX0_open_40
  exact h
set_option maxRecDepth 100000 in
set_option maxHeartbeats 4000000 in
theorem c_X2_counts (l : Launch) (E : bd_E) (hE : bd_ok E 55) (S1 : Nat) (p2 : Int32) (hS1 : bd_isS S1) (s_ : bd_S) : bd_M bd_Qi l yX2_counts cX2_counts 3 (some .boolean) 0 0 E [.ref (bd_ad E 0), .ref (bd_ad E S1), .int p2] s_ (f_X2_counts S1 p2 s_) := by
  refine bd_open bd_Qi (by decide +kernel) hE (Nat.le_of_ble_eq_true rfl) (fun G out hG hGE hGl ho => ?_)
  subst hGE
  have hG : bd_OK G cX2_counts 3 RX2 55 0 0 (some .boolean) := hG
  have h : bd_WF G out (f_X2_counts S1 p2 s_) s_ 0 [(0, .ref (bd_ad (g_E G) 0)), (1, .ref (bd_ad (g_E G) S1)), (2, .int p2)] [] := by
    unfold f_X2_counts
    refine rr_aload_n hG dX2_counts_0 rfl 1 rfl ?_
    refine gf_X2_224 hS1 hG (by decide) dX2_counts_1 ?_
    refine rr_iload_n hG dX2_counts_4 rfl 2 rfl ?_
    refine rr_zald hG (bd_kS3 hS1) (bd_bS3 hS1 (by decide)) dX2_counts_5 (fun z5 => ?_)
    refine rr_if_eq hG 30 dX2_counts_6 (by decide) ?_ ?_
    · refine rr_iconst (v := 1) hG dX2_counts_30 (by decide) ?_
      refine rr_goto (tgt := 35) hG dX2_counts_31 (by decide) ?_
      exact rr_zret hG ho dX2_counts_35
    · refine rr_aload_n hG dX2_counts_9 rfl 0 rfl ?_
      refine gf_X2_108 hG (by decide) dX2_counts_10 (fun z10 => ?_)
      refine rr_aload_n hG dX2_counts_13 rfl 1 rfl ?_
      refine gf_X2_148 hS1 hG (by decide) dX2_counts_14 (fun z14 => ?_)
      refine rr_iand hG dX2_counts_17 (fun z17 => ?_)
      refine rr_iconst (v := 1) hG dX2_counts_18 (by decide) ?_
      refine rr_aload_n hG dX2_counts_19 rfl 1 rfl ?_
      refine gf_X2_228 hS1 hG (by decide) dX2_counts_20 ?_
      refine rr_iload_n hG dX2_counts_23 rfl 2 rfl ?_
      refine rr_iald hG (bd_kS2 hS1) (bd_bS2 hS1 (by decide)) dX2_counts_24 (fun z24 => ?_)
      refine rr_ishl hG dX2_counts_25 (fun z25 => ?_)
      refine rr_iand hG dX2_counts_26 (fun z26 => ?_)
      refine rr_if_ne hG 34 dX2_counts_27 (by decide) ?_ ?_
      · refine rr_iconst (v := 0) hG dX2_counts_34 (by decide) ?_
        exact rr_zret hG ho dX2_counts_35
      · refine rr_iconst (v := 1) hG dX2_counts_30 (by decide) ?_
        refine rr_goto (tgt := 35) hG dX2_counts_31 (by decide) ?_
        exact rr_zret hG ho dX2_counts_35
  exact h
set_option maxRecDepth 100000 in
set_option maxHeartbeats 4000000 in
theorem b_X2_addHeat_4 {G : bd_G} {out : Unit × bd_S} (hG : bd_OK G cX2_addHeat 4 RX2 55 0 0 none) (ho : bd_ends bd_Qv G out) : ∀ (n_ : Nat) (x3 : Int32) (x2 : Int32) (x1 : Int32) (s_ : bd_S), bd_WF G out (f_X2_addHeat_4 n_ x3 x2 x1 s_) s_ 4 [(3, .int x3), (2, .int x2), (0, .ref (bd_ad (g_E G) 0)), (1, .int x1)] [] := by
  intro n_
  induction n_ with
  | zero => intros; intro hF; cases hF
  | succ n_ ih =>
    intro x3 x2 x1 s_
    rw [f_X2_addHeat_4]
    refine rr_iload_n hG dX2_addHeat_4 rfl 0 rfl ?_
    refine rr_bipush (v := 20) hG dX2_addHeat_5 (by decide) ?_
    refine rr_icmp_ge hG 55 dX2_addHeat_7 (by decide) ?_ ?_
    · exact rr_vret hG ho dX2_addHeat_55
    · refine rr_aload_n hG dX2_addHeat_10 rfl 2 rfl ?_
      refine gf_X2_19 hG (by decide) dX2_addHeat_11 ?_
      refine gf_X2_96 bd_c7 hG (by decide) dX2_addHeat_14 ?_
      refine rr_iload_n hG dX2_addHeat_17 rfl 0 rfl ?_
      refine rr_dup2 hG dX2_addHeat_18 rfl rfl ?_
      refine rr_iald hG rfl (by decide) dX2_addHeat_19 (fun z19 => ?_)
      refine rr_iload_n hG dX2_addHeat_20 rfl 1 rfl ?_
      refine rr_iadd hG dX2_addHeat_21 (fun z21 => ?_)
      refine rr_iast hG rfl (by decide) dX2_addHeat_22 (fun s22 => ?_)
      refine rr_aload_n hG dX2_addHeat_23 rfl 2 rfl ?_
      refine gf_X2_19 hG (by decide) dX2_addHeat_24 ?_
      refine gf_X2_99 bd_c7 hG (by decide) dX2_addHeat_27 ?_
      refine rr_iload_n hG dX2_addHeat_30 rfl 0 rfl ?_
      refine rr_dup2 hG dX2_addHeat_31 rfl rfl ?_
      refine rr_iald hG rfl (by decide) dX2_addHeat_32 (fun z32 => ?_)
      refine rr_iload_n hG dX2_addHeat_33 rfl 1 rfl ?_
      refine rr_iadd hG dX2_addHeat_34 (fun z34 => ?_)
      refine rr_iast hG rfl (by decide) dX2_addHeat_35 (fun s35 => ?_)
      refine rr_iload_n hG dX2_addHeat_36 rfl 1 rfl ?_
      refine rr_iload_n hG dX2_addHeat_37 rfl 3 rfl ?_
      refine rr_aload_n hG dX2_addHeat_38 rfl 2 rfl ?_
      refine gf_X2_32 hG (by decide) dX2_addHeat_39 ?_
      refine rr_iload_n hG dX2_addHeat_42 rfl 0 rfl ?_
      refine rr_iald hG rfl (by decide) dX2_addHeat_43 (fun z43 => ?_)
      refine rr_iconst (v := 5) hG dX2_addHeat_44 (by decide) ?_
      refine rr_isub hG dX2_addHeat_45 (fun z45 => ?_)
      refine rr_imul hG dX2_addHeat_46 (fun z46 => ?_)
      refine rr_iadd hG dX2_addHeat_47 (fun z47 => ?_)
      refine rr_istore_n (lr := [(3, .int x3), (0, .ref (bd_ad (g_E G) 0)), (1, .int x1)]) hG dX2_addHeat_48 rfl (by decide) rfl ?_
      refine rr_iinc (v := 1) (lr := [(2, .int z47), (0, .ref (bd_ad (g_E G) 0)), (1, .int x1)]) hG dX2_addHeat_49 1 rfl (by decide) (by decide) rfl (fun z49 => ?_)
      refine rr_goto (tgt := 4) hG dX2_addHeat_52 (by decide) ?_
      exact ih z49 z47 x1 s35
set_option maxRecDepth 100000 in
set_option maxHeartbeats 4000000 in
theorem c_X2_addHeat (l : Launch) (E : bd_E) (hE : bd_ok E 55) (p1 : Int32) (s_ : bd_S) : bd_M bd_Qv l yX2_addHeat cX2_addHeat 4 none 0 0 E [.ref (bd_ad E 0), .int p1] s_ (f_X2_addHeat p1 s_) := by
  refine bd_open bd_Qv (by decide +kernel) hE (Nat.le_of_ble_eq_true rfl) (fun G out hG hGE hGl ho => ?_)
  subst hGE
  have hG : bd_OK G cX2_addHeat 4 RX2 55 0 0 none := hG
  have h : bd_WF G out (f_X2_addHeat p1 s_) s_ 0 [(0, .ref (bd_ad (g_E G) 0)), (1, .int p1)] [] := by
    unfold f_X2_addHeat
    refine rr_iconst (v := 0) hG dX2_addHeat_0 (by decide) ?_
    refine rr_istore_n (lr := [(0, .ref (bd_ad (g_E G) 0)), (1, .int p1)]) hG dX2_addHeat_1 rfl (by decide) rfl ?_
    refine rr_iconst (v := 0) hG dX2_addHeat_2 (by decide) ?_
    refine rr_istore_n (lr := [(2, .int 0), (0, .ref (bd_ad (g_E G) 0)), (1, .int p1)]) hG dX2_addHeat_3 rfl (by decide) rfl ?_
    exact (b_X2_addHeat_4 hG ho FU_ 0 0 p1 s_)
  exact h
set_option maxRecDepth 100000 in
set_option maxHeartbeats 4000000 in
theorem b_X2_learnBut_108 {G : bd_G} {out : Int32 × bd_S} (hG : bd_OK G cX2_learnBut 9 RX2 55 4 89 (some .boolean)) (ho : bd_ends bd_Qi G out) {k14 : Int32 → Nat → Int32 → Int32 → Int32 → Int32 → bd_S → Option (Int32 × bd_S)} (hk14 : ∀ (x6 : Int32) (S1 : Nat) (x2 : Int32) (x3 : Int32) (x4 : Int32) (x5 : Int32) (hS1 : bd_isS S1) (s_ : bd_S), bd_WF G out (k14 x6 S1 x2 x3 x4 x5 s_) s_ 14 [(6, .int x6), (0, .ref (bd_ad (g_E G) 0)), (1, .ref (bd_ad (g_E G) S1)), (2, .int x2), (3, .int x3), (4, .int x4), (5, .int x5)] []) (x7 : Int32) (x6 : Int32) (S1 : Nat) (x2 : Int32) (x3 : Int32) (x4 : Int32) (x5 : Int32) (t0 : Int32) (hS1 : bd_isS S1) (s_ : bd_S) : bd_WF G out (f_X2_learnBut_108 k14 x7 x6 S1 x2 x3 x4 x5 t0 s_) s_ 108 [(7, .int x7), (6, .int x6), (0, .ref (bd_ad (g_E G) 0)), (1, .ref (bd_ad (g_E G) S1)), (2, .int x2), (3, .int x3), (4, .int x4), (5, .int x5)] [.int t0] := by
  unfold f_X2_learnBut_108
  refine rr_istore (lr := [(7, .int x7), (6, .int x6), (0, .ref (bd_ad (g_E G) 0)), (1, .ref (bd_ad (g_E G) S1)), (2, .int x2), (3, .int x3), (4, .int x4), (5, .int x5)]) hG dX2_learnBut_108 (by decide) rfl ?_
  refine rr_aload_n hG dX2_learnBut_110 rfl 3 rfl ?_
  refine gf_X2_19 hG (by decide) dX2_learnBut_111 ?_
  refine rr_iload hG dX2_learnBut_114 1 rfl ?_
  refine rr_aload_n hG dX2_learnBut_116 rfl 4 rfl ?_
  refine gf_X2_241 hS1 hG (by decide) dX2_learnBut_117 ?_
  refine rr_iload hG dX2_learnBut_120 2 rfl ?_
  refine rr_iald hG (bd_kS4 hS1) (bd_bS4 hS1 (by decide)) dX2_learnBut_122 (fun z122 => ?_)
  refine rr_aload_n hG dX2_learnBut_123 rfl 3 rfl ?_
  refine rr_iload hG dX2_learnBut_124 1 rfl ?_
  refine rr_cVi hG [.int x7] (c_X2_greatestLate (g_l G) (g_E G) (hG.hE.mono (by decide)) x7 s_) lk_X2_123 im_X2_greatestLate se_X2_greatestLate rfl (by decide) (by decide) rfl rfl (Nat.le_of_ble_eq_true rfl) (Nat.le_of_ble_eq_true rfl) rfl rfl (Nat.le_of_ble_eq_true rfl) dX2_learnBut_126 (fun z126 s126 => ?_)
  refine rr_isub hG dX2_learnBut_129 (fun z129 => ?_)
  refine rr_iload hG dX2_learnBut_130 0 rfl ?_
  refine rr_isub hG dX2_learnBut_132 (fun z132 => ?_)
  refine rr_aload_n hG dX2_learnBut_133 rfl 4 rfl ?_
  refine gf_X2_244 hS1 hG (by decide) dX2_learnBut_134 ?_
  refine rr_iload hG dX2_learnBut_137 2 rfl ?_
  refine rr_iald hG (bd_kS5 hS1) (bd_bS5 hS1 (by decide)) dX2_learnBut_139 (fun z139 => ?_)
  refine rr_aload_n hG dX2_learnBut_140 rfl 3 rfl ?_
  refine rr_iload hG dX2_learnBut_141 1 rfl ?_
  refine rr_cVi hG [.int x7] (c_X2_leastLate (g_l G) (g_E G) (hG.hE.mono (by decide)) x7 s126) lk_X2_119 im_X2_leastLate se_X2_leastLate rfl (by decide) (by decide) rfl rfl (Nat.le_of_ble_eq_true rfl) (Nat.le_of_ble_eq_true rfl) rfl rfl (Nat.le_of_ble_eq_true rfl) dX2_learnBut_143 (fun z143 s143 => ?_)
  refine rr_isub hG dX2_learnBut_146 (fun z146 => ?_)
  refine rr_iload hG dX2_learnBut_147 0 rfl ?_
  refine rr_isub hG dX2_learnBut_149 (fun z149 => ?_)
  refine rr_cNv hG [.int x7, .int z132, .int z149] (c_X0_cut (g_l G) (g_E G) (hG.hE.mono (by decide)) 7 x7 z132 z149 bd_c7 s143) lk_X2_79 im_X0_cut se_X0_cut rfl (by decide) (by decide) rfl rfl (Nat.le_of_ble_eq_true rfl) (Nat.le_of_ble_eq_true rfl) rfl rfl (Nat.le_of_ble_eq_true rfl) dX2_learnBut_150 (fun s150 => ?_)
  refine rr_iinc (v := 1) (lr := [(8, .int t0), (7, .int x7), (0, .ref (bd_ad (g_E G) 0)), (1, .ref (bd_ad (g_E G) S1)), (2, .int x2), (3, .int x3), (4, .int x4), (5, .int x5)]) hG dX2_learnBut_153 2 rfl (by decide) (by decide) rfl (fun z153 => ?_)
  refine rr_goto (tgt := 14) hG dX2_learnBut_156 (by decide) ?_
  exact rr_sub [0, 3, 4, 5, 6, 7, 8] rfl (hk14 z153 S1 x2 x3 x4 x5 hS1 s150)
set_option maxRecDepth 100000 in
set_option maxHeartbeats 4000000 in
theorem b_X2_learnBut_14 {G : bd_G} {out : Int32 × bd_S} (hG : bd_OK G cX2_learnBut 9 RX2 55 4 89 (some .boolean)) (ho : bd_ends bd_Qi G out) {k159 : Nat → Int32 → bd_S → Option (Int32 × bd_S)} (hk159 : ∀ (S1 : Nat) (x2 : Int32) (hS1 : bd_isS S1) (s_ : bd_S), bd_WF G out (k159 S1 x2 s_) s_ 159 [(0, .ref (bd_ad (g_E G) 0)), (1, .ref (bd_ad (g_E G) S1)), (2, .int x2)] []) : ∀ (n_ : Nat) (x6 : Int32) (S1 : Nat) (x2 : Int32) (x3 : Int32) (x4 : Int32) (x5 : Int32) (hS1 : bd_isS S1) (s_ : bd_S), bd_WF G out (f_X2_learnBut_14 k159 n_ x6 S1 x2 x3 x4 x5 s_) s_ 14 [(6, .int x6), (0, .ref (bd_ad (g_E G) 0)), (1, .ref (bd_ad (g_E G) S1)), (2, .int x2), (3, .int x3), (4, .int x4), (5, .int x5)] [] := by
  intro n_
  induction n_ with
  | zero => intros; intro hF; cases hF
  | succ n_ ih =>
    intro x6 S1 x2 x3 x4 x5 hS1 s_
    rw [f_X2_learnBut_14]
    refine rr_iload hG dX2_learnBut_14 0 rfl ?_
    refine rr_aload_n hG dX2_learnBut_16 rfl 2 rfl ?_
    refine gf_X2_145 hS1 hG (by decide) dX2_learnBut_17 (fun z17 => ?_)
    refine rr_icmp_ge hG 159 dX2_learnBut_20 (by decide) ?_ ?_
    · exact rr_sub [1, 2, 3] rfl (hk159 S1 x2 hS1 s_)
    · refine rr_aload_n hG dX2_learnBut_23 rfl 2 rfl ?_
      refine gf_X2_231 hS1 hG (by decide) dX2_learnBut_24 ?_
      refine rr_iload hG dX2_learnBut_27 0 rfl ?_
      refine rr_iald hG (bd_kS1 hS1) (bd_bS1 hS1 (by decide)) dX2_learnBut_29 (fun z29 => ?_)
      refine rr_iload_n hG dX2_learnBut_30 rfl 3 rfl ?_
      refine rr_icmp_ne hG 153 dX2_learnBut_31 (by decide) ?_ ?_
      · refine rr_iinc (v := 1) (lr := [(0, .ref (bd_ad (g_E G) 0)), (1, .ref (bd_ad (g_E G) S1)), (2, .int x2), (3, .int x3), (4, .int x4), (5, .int x5)]) hG dX2_learnBut_153 0 rfl (by decide) (by decide) rfl (fun z153 => ?_)
        refine rr_goto (tgt := 14) hG dX2_learnBut_156 (by decide) ?_
        exact ih z153 S1 x2 x3 x4 x5 hS1 s_
      · refine rr_aload_n hG dX2_learnBut_34 rfl 1 rfl ?_
        refine rr_aload_n hG dX2_learnBut_35 rfl 2 rfl ?_
        refine rr_iload hG dX2_learnBut_36 0 rfl ?_
        refine rr_cVi hG [.ref (bd_ad (g_E G) S1), .int x6] (c_X2_counts (g_l G) (g_E G) (hG.hE.mono (by decide)) S1 x6 hS1 s_) lk_X2_234 im_X2_counts se_X2_counts rfl (by decide) (by decide) rfl rfl (Nat.le_of_ble_eq_true rfl) (Nat.le_of_ble_eq_true rfl) rfl rfl (Nat.le_of_ble_eq_true rfl) dX2_learnBut_38 (fun z38 s38 => ?_)
        refine rr_if_eq hG 153 dX2_learnBut_41 (by decide) ?_ ?_
        · refine rr_iinc (v := 1) (lr := [(0, .ref (bd_ad (g_E G) 0)), (1, .ref (bd_ad (g_E G) S1)), (2, .int x2), (3, .int x3), (4, .int x4), (5, .int x5)]) hG dX2_learnBut_153 0 rfl (by decide) (by decide) rfl (fun z153 => ?_)
          refine rr_goto (tgt := 14) hG dX2_learnBut_156 (by decide) ?_
          exact ih z153 S1 x2 x3 x4 x5 hS1 s38
        · refine rr_aload_n hG dX2_learnBut_44 rfl 2 rfl ?_
          refine gf_X2_228 hS1 hG (by decide) dX2_learnBut_45 ?_
          refine rr_iload hG dX2_learnBut_48 0 rfl ?_
          refine rr_iald hG (bd_kS2 hS1) (bd_bS2 hS1 (by decide)) dX2_learnBut_50 (fun z50 => ?_)
          refine rr_istore (lr := [(6, .int x6), (0, .ref (bd_ad (g_E G) 0)), (1, .ref (bd_ad (g_E G) S1)), (2, .int x2), (3, .int x3), (4, .int x4), (5, .int x5)]) hG dX2_learnBut_51 (by decide) rfl ?_
          refine rr_aload_n hG dX2_learnBut_53 rfl 3 rfl ?_
          refine gf_X2_224 hS1 hG (by decide) dX2_learnBut_54 ?_
          refine rr_iload hG dX2_learnBut_57 1 rfl ?_
          refine rr_zald hG (bd_kS3 hS1) (bd_bS3 hS1 (by decide)) dX2_learnBut_59 (fun z59 => ?_)
          refine rr_if_ne hG 89 dX2_learnBut_60 (by decide) ?_ ?_
          · refine rr_iload hG dX2_learnBut_89 0 rfl ?_
            refine rr_iload_n hG dX2_learnBut_91 rfl 5 rfl ?_
            refine rr_icmp_eq hG 153 dX2_learnBut_92 (by decide) ?_ ?_
            · refine rr_iinc (v := 1) (lr := [(7, .int z50), (0, .ref (bd_ad (g_E G) 0)), (1, .ref (bd_ad (g_E G) S1)), (2, .int x2), (3, .int x3), (4, .int x4), (5, .int x5)]) hG dX2_learnBut_153 1 rfl (by decide) (by decide) rfl (fun z153 => ?_)
              refine rr_goto (tgt := 14) hG dX2_learnBut_156 (by decide) ?_
              exact rr_sub [0, 2, 3, 4, 5, 6, 7] rfl (ih z153 S1 x2 x3 x4 x5 hS1 s38)
            · refine rr_iload hG dX2_learnBut_95 0 rfl ?_
              refine rr_iload hG dX2_learnBut_97 6 rfl ?_
              refine rr_icmp_ne hG 107 dX2_learnBut_99 (by decide) ?_ ?_
              · refine rr_iconst (v := 0) hG dX2_learnBut_107 (by decide) ?_
                exact (b_X2_learnBut_108 hG ho ih z50 x6 S1 x2 x3 x4 x5 0 hS1 s38)
              · refine rr_iload hG dX2_learnBut_102 7 rfl ?_
                refine rr_goto (tgt := 108) hG dX2_learnBut_104 (by decide) ?_
                exact (b_X2_learnBut_108 hG ho ih z50 x6 S1 x2 x3 x4 x5 x5 hS1 s38)
          · refine rr_aload_n hG dX2_learnBut_63 rfl 2 rfl ?_
            refine gf_X2_19 hG (by decide) dX2_learnBut_64 ?_
            refine rr_iload hG dX2_learnBut_67 0 rfl ?_
            refine rr_aload_n hG dX2_learnBut_69 rfl 3 rfl ?_
            refine gf_X2_241 hS1 hG (by decide) dX2_learnBut_70 ?_
            refine rr_iload hG dX2_learnBut_73 1 rfl ?_
            refine rr_iald hG (bd_kS4 hS1) (bd_bS4 hS1 (by decide)) dX2_learnBut_75 (fun z75 => ?_)
            refine rr_aload_n hG dX2_learnBut_76 rfl 3 rfl ?_
            refine gf_X2_244 hS1 hG (by decide) dX2_learnBut_77 ?_
            refine rr_iload hG dX2_learnBut_80 1 rfl ?_
            refine rr_iald hG (bd_kS5 hS1) (bd_bS5 hS1 (by decide)) dX2_learnBut_82 (fun z82 => ?_)
            refine rr_cNv hG [.int z50, .int z75, .int z82] (c_X0_cut (g_l G) (g_E G) (hG.hE.mono (by decide)) 7 z50 z75 z82 bd_c7 s38) lk_X2_79 im_X0_cut se_X0_cut rfl (by decide) (by decide) rfl rfl (Nat.le_of_ble_eq_true rfl) (Nat.le_of_ble_eq_true rfl) rfl rfl (Nat.le_of_ble_eq_true rfl) dX2_learnBut_83 (fun s83 => ?_)
            refine rr_goto (tgt := 153) hG dX2_learnBut_86 (by decide) ?_
            refine rr_iinc (v := 1) (lr := [(7, .int z50), (0, .ref (bd_ad (g_E G) 0)), (1, .ref (bd_ad (g_E G) S1)), (2, .int x2), (3, .int x3), (4, .int x4), (5, .int x5)]) hG dX2_learnBut_153 1 rfl (by decide) (by decide) rfl (fun z153 => ?_)
            refine rr_goto (tgt := 14) hG dX2_learnBut_156 (by decide) ?_
            exact rr_sub [0, 2, 3, 4, 5, 6, 7] rfl (ih z153 S1 x2 x3 x4 x5 hS1 s83)
set_option maxRecDepth 100000 in
set_option maxHeartbeats 4000000 in
theorem c_X2_learnBut (l : Launch) (E : bd_E) (hE : bd_ok E 55) (S1 : Nat) (p2 : Int32) (p3 : Int32) (p4 : Int32) (p5 : Int32) (hS1 : bd_isS S1) (s_ : bd_S) : bd_M bd_Qi l yX2_learnBut cX2_learnBut 9 (some .boolean) 4 89 E [.ref (bd_ad E 0), .ref (bd_ad E S1), .int p2, .int p3, .int p4, .int p5] s_ (f_X2_learnBut S1 p2 p3 p4 p5 s_) := by
  refine bd_open bd_Qi (by decide +kernel) hE (Nat.le_of_ble_eq_true rfl) (fun G out hG hGE hGl ho => ?_)
  subst hGE
  have hG : bd_OK G cX2_learnBut 9 RX2 55 4 89 (some .boolean) := hG
  have h : bd_WF G out (f_X2_learnBut S1 p2 p3 p4 p5 s_) s_ 0 [(0, .ref (bd_ad (g_E G) 0)), (1, .ref (bd_ad (g_E G) S1)), (2, .int p2), (3, .int p3), (4, .int p4), (5, .int p5)] [] := by
    unfold f_X2_learnBut
    refine rr_aload_n hG dX2_learnBut_0 rfl 0 rfl ?_
    refine gf_X2_19 hG (by decide) dX2_learnBut_1 ?_
    refine rr_ldc (v := 99999) hG kc_X2_63 dX2_learnBut_4 ?_
    refine rr_bipush (v := 99) hG dX2_learnBut_6 (by decide) ?_
    refine rr_cNv hG [.int 99999, .int 99] (c_X0_open (g_l G) (g_E G) (hG.hE.mono (by decide)) 7 99999 99 bd_c7 s_) lk_X2_57 im_X0_open se_X0_open rfl (by decide) (by decide) rfl rfl (Nat.le_of_ble_eq_true rfl) (Nat.le_of_ble_eq_true rfl) rfl rfl (Nat.le_of_ble_eq_true rfl) dX2_learnBut_8 (fun s8 => ?_)
    refine rr_iconst (v := 0) hG dX2_learnBut_11 (by decide) ?_
    refine rr_istore (lr := [(0, .ref (bd_ad (g_E G) 0)), (1, .ref (bd_ad (g_E G) S1)), (2, .int p2), (3, .int p3), (4, .int p4), (5, .int p5)]) hG dX2_learnBut_12 (by decide) rfl ?_
    refine (b_X2_learnBut_14 hG ho (fun S1e x2e hS1e e159 => ?_) FU_ 0 S1 p2 p3 p4 p5 hS1 s8)
    · refine rr_aload_n hG dX2_learnBut_159 rfl 0 rfl ?_
      refine rr_aload_n hG dX2_learnBut_160 rfl 1 rfl ?_
      refine gf_X2_151 hS1e hG (by decide) dX2_learnBut_161 ?_
      refine rr_iload_n hG dX2_learnBut_164 rfl 2 rfl ?_
      refine rr_iald hG (bd_kS6 hS1e) (bd_bS6 hS1e (by decide)) dX2_learnBut_165 (fun z165 => ?_)
      refine rr_ineg hG dX2_learnBut_166 (fun z166 => ?_)
      refine rr_cVv hG [.int z166] (c_X2_addHeat (g_l G) (g_E G) (hG.hE.mono (by decide)) z166 e159) lk_X2_247 im_X2_addHeat se_X2_addHeat rfl (by decide) (by decide) rfl rfl (Nat.le_of_ble_eq_true rfl) (Nat.le_of_ble_eq_true rfl) rfl rfl (Nat.le_of_ble_eq_true rfl) dX2_learnBut_167 (fun s167 => ?_)
      refine rr_aload_n hG dX2_learnBut_170 rfl 0 rfl ?_
      refine gf_X2_19 hG (by decide) dX2_learnBut_171 ?_
      refine rr_cNi hG [] (c_X0_narrow (g_l G) (g_E G) (hG.hE.mono (by decide)) 7 bd_c7 s167) lk_X2_83 im_X0_narrow se_X0_narrow rfl (by decide) (by decide) rfl rfl (Nat.le_of_ble_eq_true rfl) (Nat.le_of_ble_eq_true rfl) rfl rfl (Nat.le_of_ble_eq_true rfl) dX2_learnBut_174 (fun z174 s174 => ?_)
      refine rr_istore (lr := [(0, .ref (bd_ad (g_E G) 0)), (1, .ref (bd_ad (g_E G) S1e)), (2, .int x2e)]) hG dX2_learnBut_177 (by decide) rfl ?_
      refine rr_aload_n hG dX2_learnBut_179 rfl 1 rfl ?_
      refine rr_aload_n hG dX2_learnBut_180 rfl 2 rfl ?_
      refine gf_X2_151 hS1e hG (by decide) dX2_learnBut_181 ?_
      refine rr_iload_n hG dX2_learnBut_184 rfl 3 rfl ?_
      refine rr_iald hG (bd_kS6 hS1e) (bd_bS6 hS1e (by decide)) dX2_learnBut_185 (fun z185 => ?_)
      refine rr_cVv hG [.int z185] (c_X2_addHeat (g_l G) (g_E G) (hG.hE.mono (by decide)) z185 s174) lk_X2_247 im_X2_addHeat se_X2_addHeat rfl (by decide) (by decide) rfl rfl (Nat.le_of_ble_eq_true rfl) (Nat.le_of_ble_eq_true rfl) rfl rfl (Nat.le_of_ble_eq_true rfl) dX2_learnBut_186 (fun s186 => ?_)
      refine rr_iload hG dX2_learnBut_189 0 rfl ?_
      exact rr_zret hG ho dX2_learnBut_191
  exact h
set_option maxRecDepth 100000 in
set_option maxHeartbeats 4000000 in
theorem c_X2_learn (l : Launch) (E : bd_E) (hE : bd_ok E 55) (S1 : Nat) (p2 : Int32) (hS1 : bd_isS S1) (s_ : bd_S) : bd_M bd_Qi l yX2_learn cX2_learn 3 (some .boolean) 5 117 E [.ref (bd_ad E 0), .ref (bd_ad E S1), .int p2] s_ (f_X2_learn S1 p2 s_) := by
  refine bd_open bd_Qi (by decide +kernel) hE (Nat.le_of_ble_eq_true rfl) (fun G out hG hGE hGl ho => ?_)
  subst hGE
  have hG : bd_OK G cX2_learn 3 RX2 55 5 117 (some .boolean) := hG
  have h : bd_WF G out (f_X2_learn S1 p2 s_) s_ 0 [(0, .ref (bd_ad (g_E G) 0)), (1, .ref (bd_ad (g_E G) S1)), (2, .int p2)] [] := by
    unfold f_X2_learn
    refine rr_aload_n hG dX2_learn_0 rfl 0 rfl ?_
    refine rr_aload_n hG dX2_learn_1 rfl 1 rfl ?_
    refine rr_iload_n hG dX2_learn_2 rfl 2 rfl ?_
    refine rr_iconst (v := (-1)) hG dX2_learn_3 (by decide) ?_
    refine rr_iconst (v := (-1)) hG dX2_learn_4 (by decide) ?_
    refine rr_iconst (v := 0) hG dX2_learn_5 (by decide) ?_
    refine rr_cVi hG [.ref (bd_ad (g_E G) S1), .int p2, .int (-1), .int (-1), .int 0] (c_X2_learnBut (g_l G) (g_E G) (hG.hE.mono (by decide)) S1 p2 (-1) (-1) 0 hS1 s_) lk_X2_237 im_X2_learnBut se_X2_learnBut rfl (by decide) (by decide) rfl rfl (Nat.le_of_ble_eq_true rfl) (Nat.le_of_ble_eq_true rfl) rfl rfl (Nat.le_of_ble_eq_true rfl) dX2_learn_6 (fun z6 s6 => ?_)
    exact rr_zret hG ho dX2_learn_9
  exact h
set_option maxRecDepth 100000 in
set_option maxHeartbeats 4000000 in
theorem c_X2_jumped (l : Launch) (E : bd_E) (hE : bd_ok E 55) (p1 : Int32) (p2 : Int32) (s_ : bd_S) : bd_M bd_Qi l yX2_jumped cX2_jumped 3 (some .int) 6 139 E [.ref (bd_ad E 0), .int p1, .int p2] s_ (f_X2_jumped p1 p2 s_) := by
  refine bd_open bd_Qi (by decide +kernel) hE (Nat.le_of_ble_eq_true rfl) (fun G out hG hGE hGl ho => ?_)
  subst hGE
  have hG : bd_OK G cX2_jumped 3 RX2 55 6 139 (some .int) := hG
  have h : bd_WF G out (f_X2_jumped p1 p2 s_) s_ 0 [(0, .ref (bd_ad (g_E G) 0)), (1, .int p1), (2, .int p2)] [] := by
    unfold f_X2_jumped
    refine rr_aload_n hG dX2_jumped_0 rfl 0 rfl ?_
    refine rr_iload_n hG dX2_jumped_1 rfl 1 rfl ?_
    refine rr_iload_n hG dX2_jumped_2 rfl 2 rfl ?_
    refine rr_cVi hG [.int p1, .int p2] (c_X2_noClock (g_l G) (g_E G) (hG.hE.mono (by decide)) p1 p2 s_) lk_X2_129 im_X2_noClock se_X2_noClock rfl (by decide) (by decide) rfl rfl (Nat.le_of_ble_eq_true rfl) (Nat.le_of_ble_eq_true rfl) rfl rfl (Nat.le_of_ble_eq_true rfl) dX2_jumped_3 (fun z3 s3 => ?_)
    refine rr_if_eq hG 11 dX2_jumped_6 (by decide) ?_ ?_
    · refine rr_aload_n hG dX2_jumped_11 rfl 0 rfl ?_
      refine rr_aload_n hG dX2_jumped_12 rfl 0 rfl ?_
      refine gf_X2_37 hG (by decide) dX2_jumped_13 ?_
      refine rr_iload_n hG dX2_jumped_16 rfl 1 rfl ?_
      refine rr_aald hG (by decide) dX2_jumped_17 (fun S17 hS17 => ?_)
      refine rr_iload_n hG dX2_jumped_18 rfl 2 rfl ?_
      refine rr_cVi hG [.ref (bd_ad (g_E G) S17), .int p2] (c_X2_learn (g_l G) (g_E G) (hG.hE.mono (by decide)) S17 p2 hS17 s3) lk_X2_157 im_X2_learn se_X2_learn rfl (by decide) (by decide) rfl rfl (Nat.le_of_ble_eq_true rfl) (Nat.le_of_ble_eq_true rfl) rfl rfl (Nat.le_of_ble_eq_true rfl) dX2_jumped_19 (fun z19 s19 => ?_)
      refine rr_if_eq hG 29 dX2_jumped_22 (by decide) ?_ ?_
      · refine rr_iconst (v := 1) hG dX2_jumped_29 (by decide) ?_
        exact rr_iret hG ho dX2_jumped_30
      · refine rr_iconst (v := 0) hG dX2_jumped_25 (by decide) ?_
        refine rr_goto (tgt := 30) hG dX2_jumped_26 (by decide) ?_
        exact rr_iret hG ho dX2_jumped_30
    · refine rr_iconst (v := (-1)) hG dX2_jumped_9 (by decide) ?_
      exact rr_iret hG ho dX2_jumped_10
  exact h
set_option maxRecDepth 100000 in
set_option maxHeartbeats 4000000 in
theorem c_X2_ahead (l : Launch) (E : bd_E) (hE : bd_ok E 55) (p1 : Int32) (p2 : Int32) (p3 : Int32) (p4 : Int32) (s_ : bd_S) : bd_M bd_Qi l yX2_ahead cX2_ahead 5 (some .int) 6 139 E [.ref (bd_ad E 0), .int p1, .int p2, .int p3, .int p4] s_ (f_X2_ahead p1 p2 p3 p4 s_) := by
  refine bd_open bd_Qi (by decide +kernel) hE (Nat.le_of_ble_eq_true rfl) (fun G out hG hGE hGl ho => ?_)
  subst hGE
  have hG : bd_OK G cX2_ahead 5 RX2 55 6 139 (some .int) := hG
  have h : bd_WF G out (f_X2_ahead p1 p2 p3 p4 s_) s_ 0 [(0, .ref (bd_ad (g_E G) 0)), (1, .int p1), (2, .int p2), (3, .int p3), (4, .int p4)] [] := by
    unfold f_X2_ahead
    refine rr_aload_n hG dX2_ahead_0 rfl 0 rfl ?_
    refine rr_iload_n hG dX2_ahead_1 rfl 1 rfl ?_
    refine rr_iload_n hG dX2_ahead_2 rfl 2 rfl ?_
    refine rr_cVi hG [.int p1, .int p2] (c_X2_noClock (g_l G) (g_E G) (hG.hE.mono (by decide)) p1 p2 s_) lk_X2_129 im_X2_noClock se_X2_noClock rfl (by decide) (by decide) rfl rfl (Nat.le_of_ble_eq_true rfl) (Nat.le_of_ble_eq_true rfl) rfl rfl (Nat.le_of_ble_eq_true rfl) dX2_ahead_3 (fun z3 s3 => ?_)
    refine rr_if_ne hG 16 dX2_ahead_6 (by decide) ?_ ?_
    · refine rr_ldc (v := (-100000001)) hG kc_X2_91 dX2_ahead_16 ?_
      exact rr_iret hG ho dX2_ahead_18
    · refine rr_iload_n hG dX2_ahead_9 rfl 3 rfl ?_
      refine rr_cSi hG [.int p3] (c_X2_noDay (g_l G) (g_E G) (hG.hE.mono (by decide)) p3 s3) lk_X2_64 sm_X2_noDay (Nat.le_of_ble_eq_true rfl) (Nat.le_of_ble_eq_true rfl) rfl rfl (Nat.le_of_ble_eq_true rfl) dX2_ahead_10 (fun z10 s10 => ?_)
      refine rr_if_eq hG 19 dX2_ahead_13 (by decide) ?_ ?_
      · refine rr_iload hG dX2_ahead_19 4 rfl ?_
        refine rr_cSi hG [.int p4] (c_X2_noEnd (g_l G) (g_E G) (hG.hE.mono (by decide)) p4 s10) lk_X2_92 sm_X2_noEnd (Nat.le_of_ble_eq_true rfl) (Nat.le_of_ble_eq_true rfl) rfl rfl (Nat.le_of_ble_eq_true rfl) dX2_ahead_21 (fun z21 s21 => ?_)
        refine rr_if_eq hG 30 dX2_ahead_24 (by decide) ?_ ?_
        · refine rr_aload_n hG dX2_ahead_30 rfl 0 rfl ?_
          refine rr_aload_n hG dX2_ahead_31 rfl 0 rfl ?_
          refine gf_X2_37 hG (by decide) dX2_ahead_32 ?_
          refine rr_iload_n hG dX2_ahead_35 rfl 1 rfl ?_
          refine rr_aald hG (by decide) dX2_ahead_36 (fun S36 hS36 => ?_)
          refine rr_iload_n hG dX2_ahead_37 rfl 2 rfl ?_
          refine rr_cVi hG [.ref (bd_ad (g_E G) S36), .int p2] (c_X2_learn (g_l G) (g_E G) (hG.hE.mono (by decide)) S36 p2 hS36 s21) lk_X2_157 im_X2_learn se_X2_learn rfl (by decide) (by decide) rfl rfl (Nat.le_of_ble_eq_true rfl) (Nat.le_of_ble_eq_true rfl) rfl rfl (Nat.le_of_ble_eq_true rfl) dX2_ahead_38 (fun z38 s38 => ?_)
          refine rr_if_ne hG 47 dX2_ahead_41 (by decide) ?_ ?_
          · refine rr_iload hG dX2_ahead_47 4 rfl ?_
            refine rr_if_ne hG 64 dX2_ahead_49 (by decide) ?_ ?_
            · refine rr_aload_n hG dX2_ahead_64 rfl 0 rfl ?_
              refine gf_X2_19 hG (by decide) dX2_ahead_65 ?_
              refine gf_X2_99 bd_c7 hG (by decide) dX2_ahead_68 ?_
              refine rr_iload_n hG dX2_ahead_71 rfl 3 rfl ?_
              refine rr_iald hG rfl (by decide) dX2_ahead_72 (fun z72 => ?_)
              exact rr_iret hG ho dX2_ahead_73
            · refine rr_aload_n hG dX2_ahead_52 rfl 0 rfl ?_
              refine gf_X2_19 hG (by decide) dX2_ahead_53 ?_
              refine gf_X2_96 bd_c7 hG (by decide) dX2_ahead_56 ?_
              refine rr_iload_n hG dX2_ahead_59 rfl 3 rfl ?_
              refine rr_iald hG rfl (by decide) dX2_ahead_60 (fun z60 => ?_)
              refine rr_goto (tgt := 73) hG dX2_ahead_61 (by decide) ?_
              exact rr_iret hG ho dX2_ahead_73
          · refine rr_ldc (v := (-100000003)) hG kc_X2_161 dX2_ahead_44 ?_
            exact rr_iret hG ho dX2_ahead_46
        · refine rr_ldc (v := (-100000002)) hG kc_X2_95 dX2_ahead_27 ?_
          exact rr_iret hG ho dX2_ahead_29
      · refine rr_ldc (v := (-100000001)) hG kc_X2_91 dX2_ahead_16 ?_
        exact rr_iret hG ho dX2_ahead_18
  exact h
set_option maxRecDepth 100000 in
set_option maxHeartbeats 4000000 in
theorem c_X2_gains (l : Launch) (E : bd_E) (hE : bd_ok E 55) (p1 : Int32) (p2 : Int32) (p3 : Int32) (s_ : bd_S) : bd_M bd_Qi l yX2_gains cX2_gains 4 (some .int) 6 139 E [.ref (bd_ad E 0), .int p1, .int p2, .int p3] s_ (f_X2_gains p1 p2 p3 s_) := by
  refine bd_open bd_Qi (by decide +kernel) hE (Nat.le_of_ble_eq_true rfl) (fun G out hG hGE hGl ho => ?_)
  subst hGE
  have hG : bd_OK G cX2_gains 4 RX2 55 6 139 (some .int) := hG
  have h : bd_WF G out (f_X2_gains p1 p2 p3 s_) s_ 0 [(0, .ref (bd_ad (g_E G) 0)), (1, .int p1), (2, .int p2), (3, .int p3)] [] := by
    unfold f_X2_gains
    refine rr_aload_n hG dX2_gains_0 rfl 0 rfl ?_
    refine rr_iload_n hG dX2_gains_1 rfl 1 rfl ?_
    refine rr_iload_n hG dX2_gains_2 rfl 2 rfl ?_
    refine rr_cVi hG [.int p1, .int p2] (c_X2_noClock (g_l G) (g_E G) (hG.hE.mono (by decide)) p1 p2 s_) lk_X2_129 im_X2_noClock se_X2_noClock rfl (by decide) (by decide) rfl rfl (Nat.le_of_ble_eq_true rfl) (Nat.le_of_ble_eq_true rfl) rfl rfl (Nat.le_of_ble_eq_true rfl) dX2_gains_3 (fun z3 s3 => ?_)
    refine rr_if_eq hG 12 dX2_gains_6 (by decide) ?_ ?_
    · refine rr_iload_n hG dX2_gains_12 rfl 3 rfl ?_
      refine rr_cSi hG [.int p3] (c_X2_noEnd (g_l G) (g_E G) (hG.hE.mono (by decide)) p3 s3) lk_X2_92 sm_X2_noEnd (Nat.le_of_ble_eq_true rfl) (Nat.le_of_ble_eq_true rfl) rfl rfl (Nat.le_of_ble_eq_true rfl) dX2_gains_13 (fun z13 s13 => ?_)
      refine rr_if_eq hG 22 dX2_gains_16 (by decide) ?_ ?_
      · refine rr_aload_n hG dX2_gains_22 rfl 0 rfl ?_
        refine rr_aload_n hG dX2_gains_23 rfl 0 rfl ?_
        refine gf_X2_37 hG (by decide) dX2_gains_24 ?_
        refine rr_iload_n hG dX2_gains_27 rfl 1 rfl ?_
        refine rr_aald hG (by decide) dX2_gains_28 (fun S28 hS28 => ?_)
        refine rr_iload_n hG dX2_gains_29 rfl 2 rfl ?_
        refine rr_cVi hG [.ref (bd_ad (g_E G) S28), .int p2] (c_X2_learn (g_l G) (g_E G) (hG.hE.mono (by decide)) S28 p2 hS28 s13) lk_X2_157 im_X2_learn se_X2_learn rfl (by decide) (by decide) rfl rfl (Nat.le_of_ble_eq_true rfl) (Nat.le_of_ble_eq_true rfl) rfl rfl (Nat.le_of_ble_eq_true rfl) dX2_gains_30 (fun z30 s30 => ?_)
        refine rr_if_ne hG 39 dX2_gains_33 (by decide) ?_ ?_
        · refine rr_iload_n hG dX2_gains_39 rfl 3 rfl ?_
          refine rr_if_ne hG 53 dX2_gains_40 (by decide) ?_ ?_
          · refine rr_aload_n hG dX2_gains_53 rfl 0 rfl ?_
            refine gf_X2_19 hG (by decide) dX2_gains_54 ?_
            refine gf_X2_105 bd_c7 hG (by decide) dX2_gains_57 (fun z57 => ?_)
            exact rr_iret hG ho dX2_gains_60
          · refine rr_aload_n hG dX2_gains_43 rfl 0 rfl ?_
            refine gf_X2_19 hG (by decide) dX2_gains_44 ?_
            refine gf_X2_102 bd_c7 hG (by decide) dX2_gains_47 (fun z47 => ?_)
            refine rr_goto (tgt := 60) hG dX2_gains_50 (by decide) ?_
            exact rr_iret hG ho dX2_gains_60
        · refine rr_ldc (v := (-100000003)) hG kc_X2_161 dX2_gains_36 ?_
          exact rr_iret hG ho dX2_gains_38
      · refine rr_ldc (v := (-100000002)) hG kc_X2_95 dX2_gains_19 ?_
        exact rr_iret hG ho dX2_gains_21
    · refine rr_ldc (v := (-100000001)) hG kc_X2_91 dX2_gains_9 ?_
      exact rr_iret hG ho dX2_gains_11
  exact h
set_option maxRecDepth 100000 in
set_option maxHeartbeats 4000000 in
theorem c_X2_greatestMiles (l : Launch) (E : bd_E) (hE : bd_ok E 55) (p1 : Int32) (p2 : Int32) (s_ : bd_S) : bd_M bd_Qi l yX2_greatestMiles cX2_greatestMiles 3 (some .int) 2 43 E [.ref (bd_ad E 0), .int p1, .int p2] s_ (f_X2_greatestMiles p1 p2 s_) := by
  refine bd_open bd_Qi (by decide +kernel) hE (Nat.le_of_ble_eq_true rfl) (fun G out hG hGE hGl ho => ?_)
  subst hGE
  have hG : bd_OK G cX2_greatestMiles 3 RX2 55 2 43 (some .int) := hG
  have h : bd_WF G out (f_X2_greatestMiles p1 p2 s_) s_ 0 [(0, .ref (bd_ad (g_E G) 0)), (1, .int p1), (2, .int p2)] [] := by
    unfold f_X2_greatestMiles
    refine rr_iload_n hG dX2_greatestMiles_0 rfl 1 rfl ?_
    refine rr_aload_n hG dX2_greatestMiles_1 rfl 0 rfl ?_
    refine gf_X2_19 hG (by decide) dX2_greatestMiles_2 ?_
    refine gf_X2_96 bd_c7 hG (by decide) dX2_greatestMiles_5 ?_
    refine rr_iload_n hG dX2_greatestMiles_8 rfl 2 rfl ?_
    refine rr_iald hG rfl (by decide) dX2_greatestMiles_9 (fun z9 => ?_)
    refine rr_isub hG dX2_greatestMiles_10 (fun z10 => ?_)
    refine rr_iconst (v := 4) hG dX2_greatestMiles_11 (by decide) ?_
    refine rr_cSi hG [.int z10, .int 4] (c_X2_cutUp (g_l G) (g_E G) (hG.hE.mono (by decide)) z10 4 s_) lk_X2_251 sm_X2_cutUp (Nat.le_of_ble_eq_true rfl) (Nat.le_of_ble_eq_true rfl) rfl rfl (Nat.le_of_ble_eq_true rfl) dX2_greatestMiles_12 (fun z12 s12 => ?_)
    exact rr_iret hG ho dX2_greatestMiles_15
  exact h
