set_option maxRecDepth 100000 in
set_option maxHeartbeats 4000000 in
theorem b_X2_worst_19 {G : bd_G} {out : Int32 × bd_S} (hG : bd_OK G cX2_worst 6 RX2 55 7 163 (some .int)) (ho : bd_ends bd_Qi G out) {k52 : Int32 → Int32 → Int32 → bd_S → Option (Int32 × bd_S)} (hk52 : ∀ (x3 : Int32) (x2 : Int32) (x1 : Int32) (s_ : bd_S), bd_WF G out (k52 x3 x2 x1 s_) s_ 52 [(3, .int x3), (2, .int x2), (1, .int x1)] []) : ∀ (n_ : Nat) (x4 : Int32) (x3 : Int32) (x2 : Int32) (x1 : Int32) (s_ : bd_S), bd_WF G out (f_X2_worst_19 k52 n_ x4 x3 x2 x1 s_) s_ 19 [(4, .int x4), (3, .int x3), (2, .int x2), (0, .ref (bd_ad (g_E G) 0)), (1, .int x1)] [] := by
  intro n_
  induction n_ with
  | zero => intros; intro hF; cases hF
  | succ n_ ih =>
    intro x4 x3 x2 x1 s_
    rw [f_X2_worst_19]
    refine rr_iload hG dX2_worst_19 0 rfl ?_
    refine rr_bipush (v := 20) hG dX2_worst_21 (by decide) ?_
    refine rr_icmp_ge hG 52 dX2_worst_23 (by decide) ?_ ?_
    · exact rr_sub [1, 2, 4] rfl (hk52 x3 x2 x1 s_)
    · refine rr_aload_n hG dX2_worst_26 rfl 3 rfl ?_
      refine rr_iload hG dX2_worst_27 0 rfl ?_
      refine rr_cVi hG [.int x4] (c_X2_countSuspects (g_l G) (g_E G) (hG.hE.mono (by decide)) x4 s_) lk_X2_199 im_X2_countSuspects se_X2_countSuspects rfl (by decide) (by decide) rfl rfl (Nat.le_of_ble_eq_true rfl) (Nat.le_of_ble_eq_true rfl) rfl rfl (Nat.le_of_ble_eq_true rfl) dX2_worst_29 (fun z29 s29 => ?_)
      refine rr_istore (lr := [(4, .int x4), (3, .int x3), (2, .int x2), (0, .ref (bd_ad (g_E G) 0)), (1, .int x1)]) hG dX2_worst_32 (by decide) rfl ?_
      refine rr_iload hG dX2_worst_34 0 rfl ?_
      refine rr_iload_n hG dX2_worst_36 rfl 2 rfl ?_
      refine rr_icmp_le hG 46 dX2_worst_37 (by decide) ?_ ?_
      · refine rr_iinc (v := 1) (lr := [(5, .int z29), (3, .int x3), (2, .int x2), (0, .ref (bd_ad (g_E G) 0)), (1, .int x1)]) hG dX2_worst_46 1 rfl (by decide) (by decide) rfl (fun z46 => ?_)
        refine rr_goto (tgt := 19) hG dX2_worst_49 (by decide) ?_
        exact rr_sub [0, 2, 3, 4, 5] rfl (ih z46 x3 x2 x1 s29)
      · refine rr_iload hG dX2_worst_40 0 rfl ?_
        refine rr_istore_n (lr := [(5, .int z29), (4, .int x4), (2, .int x2), (0, .ref (bd_ad (g_E G) 0)), (1, .int x1)]) hG dX2_worst_42 rfl (by decide) rfl ?_
        refine rr_iload hG dX2_worst_43 2 rfl ?_
        refine rr_istore_n (lr := [(3, .int z29), (5, .int z29), (4, .int x4), (0, .ref (bd_ad (g_E G) 0)), (1, .int x1)]) hG dX2_worst_45 rfl (by decide) rfl ?_
        refine rr_iinc (v := 1) (lr := [(2, .int x4), (3, .int z29), (5, .int z29), (0, .ref (bd_ad (g_E G) 0)), (1, .int x1)]) hG dX2_worst_46 3 rfl (by decide) (by decide) rfl (fun z46 => ?_)
        refine rr_goto (tgt := 19) hG dX2_worst_49 (by decide) ?_
        exact rr_sub [0, 2, 1, 4, 5] rfl (ih z46 z29 x4 x1 s29)
set_option maxRecDepth 100000 in
set_option maxHeartbeats 4000000 in
theorem c_X2_worst (l : Launch) (E : bd_E) (hE : bd_ok E 55) (p1 : Int32) (s_ : bd_S) : bd_M bd_Qi l yX2_worst cX2_worst 6 (some .int) 7 163 E [.ref (bd_ad E 0), .int p1] s_ (f_X2_worst p1 s_) := by
  refine bd_open bd_Qi (by decide +kernel) hE (Nat.le_of_ble_eq_true rfl) (fun G out hG hGE hGl ho => ?_)
  subst hGE
  have hG : bd_OK G cX2_worst 6 RX2 55 7 163 (some .int) := hG
  have h : bd_WF G out (f_X2_worst p1 s_) s_ 0 [(0, .ref (bd_ad (g_E G) 0)), (1, .int p1)] [] := by
    unfold f_X2_worst
    refine rr_iload_n hG dX2_worst_0 rfl 1 rfl ?_
    refine rr_iconst (v := 0) hG dX2_worst_1 (by decide) ?_
    refine rr_iconst (v := 1) hG dX2_worst_2 (by decide) ?_
    refine rr_cSi hG [.int p1, .int 0, .int 1] (c_X2_outside (g_l G) (g_E G) (hG.hE.mono (by decide)) p1 0 1 s_) lk_X2_87 sm_X2_outside (Nat.le_of_ble_eq_true rfl) (Nat.le_of_ble_eq_true rfl) rfl rfl (Nat.le_of_ble_eq_true rfl) dX2_worst_3 (fun z3 s3 => ?_)
    refine rr_if_eq hG 12 dX2_worst_6 (by decide) ?_ ?_
    · refine rr_iconst (v := 0) hG dX2_worst_12 (by decide) ?_
      refine rr_istore_n (lr := [(0, .ref (bd_ad (g_E G) 0)), (1, .int p1)]) hG dX2_worst_13 rfl (by decide) rfl ?_
      refine rr_iconst (v := 0) hG dX2_worst_14 (by decide) ?_
      refine rr_istore_n (lr := [(2, .int 0), (0, .ref (bd_ad (g_E G) 0)), (1, .int p1)]) hG dX2_worst_15 rfl (by decide) rfl ?_
      refine rr_iconst (v := 0) hG dX2_worst_16 (by decide) ?_
      refine rr_istore (lr := [(3, .int 0), (2, .int 0), (0, .ref (bd_ad (g_E G) 0)), (1, .int p1)]) hG dX2_worst_17 (by decide) rfl ?_
      refine (b_X2_worst_19 hG ho (fun x3e x2e x1e e52 => ?_) FU_ 0 0 0 p1 s3)
      · refine rr_iload_n hG dX2_worst_52 rfl 2 rfl ?_
        refine rr_if_ne hG 60 dX2_worst_53 (by decide) ?_ ?_
        · refine rr_iload_n hG dX2_worst_60 rfl 0 rfl ?_
          exact rr_iret hG ho dX2_worst_61
        · refine rr_iload_n hG dX2_worst_56 rfl 1 rfl ?_
          refine rr_goto (tgt := 61) hG dX2_worst_57 (by decide) ?_
          exact rr_iret hG ho dX2_worst_61
    · refine rr_bipush (v := (-2)) hG dX2_worst_9 (by decide) ?_
      exact rr_iret hG ho dX2_worst_11
  exact h
set_option maxRecDepth 100000 in
set_option maxHeartbeats 4000000 in
theorem c_X2_bearsSlip (l : Launch) (E : bd_E) (hE : bd_ok E 55) (S1 : Nat) (p2 : Int32) (p3 : Int32) (p4 : Int32) (hS1 : bd_isS S1) (s_ : bd_S) : bd_M bd_Qi l yX2_bearsSlip cX2_bearsSlip 5 (some .boolean) 5 117 E [.ref (bd_ad E 0), .ref (bd_ad E S1), .int p2, .int p3, .int p4] s_ (f_X2_bearsSlip S1 p2 p3 p4 s_) := by
  refine bd_open bd_Qi (by decide +kernel) hE (Nat.le_of_ble_eq_true rfl) (fun G out hG hGE hGl ho => ?_)
  subst hGE
  have hG : bd_OK G cX2_bearsSlip 5 RX2 55 5 117 (some .boolean) := hG
  have h : bd_WF G out (f_X2_bearsSlip S1 p2 p3 p4 s_) s_ 0 [(0, .ref (bd_ad (g_E G) 0)), (1, .ref (bd_ad (g_E G) S1)), (2, .int p2), (3, .int p3), (4, .int p4)] [] := by
    unfold f_X2_bearsSlip
    refine rr_aload_n hG dX2_bearsSlip_0 rfl 0 rfl ?_
    refine rr_aload_n hG dX2_bearsSlip_1 rfl 1 rfl ?_
    refine rr_iload_n hG dX2_bearsSlip_2 rfl 2 rfl ?_
    refine rr_iload_n hG dX2_bearsSlip_3 rfl 3 rfl ?_
    refine rr_cVi hG [.ref (bd_ad (g_E G) S1), .int p2, .int p3] (c_X2_isSetOn (g_l G) (g_E G) (hG.hE.mono (by decide)) S1 p2 p3 hS1 s_) lk_X2_261 im_X2_isSetOn se_X2_isSetOn rfl (by decide) (by decide) rfl rfl (Nat.le_of_ble_eq_true rfl) (Nat.le_of_ble_eq_true rfl) rfl rfl (Nat.le_of_ble_eq_true rfl) dX2_bearsSlip_4 (fun z4 s4 => ?_)
    refine rr_if_eq hG 30 dX2_bearsSlip_7 (by decide) ?_ ?_
    · refine rr_iconst (v := 1) hG dX2_bearsSlip_30 (by decide) ?_
      refine rr_goto (tgt := 35) hG dX2_bearsSlip_31 (by decide) ?_
      exact rr_zret hG ho dX2_bearsSlip_35
    · refine rr_aload_n hG dX2_bearsSlip_10 rfl 0 rfl ?_
      refine rr_aload_n hG dX2_bearsSlip_11 rfl 1 rfl ?_
      refine rr_iload_n hG dX2_bearsSlip_12 rfl 2 rfl ?_
      refine rr_iconst (v := (-1)) hG dX2_bearsSlip_13 (by decide) ?_
      refine rr_iload_n hG dX2_bearsSlip_14 rfl 3 rfl ?_
      refine rr_iload hG dX2_bearsSlip_15 4 rfl ?_
      refine rr_aload_n hG dX2_bearsSlip_17 rfl 0 rfl ?_
      refine gf_X2_29 hG (by decide) dX2_bearsSlip_18 ?_
      refine rr_iload_n hG dX2_bearsSlip_21 rfl 3 rfl ?_
      refine rr_iald hG rfl (by decide) dX2_bearsSlip_22 (fun z22 => ?_)
      refine rr_isub hG dX2_bearsSlip_23 (fun z23 => ?_)
      refine rr_cVi hG [.ref (bd_ad (g_E G) S1), .int p2, .int (-1), .int p3, .int z23] (c_X2_learnBut (g_l G) (g_E G) (hG.hE.mono (by decide)) S1 p2 (-1) p3 z23 hS1 s4) lk_X2_237 im_X2_learnBut se_X2_learnBut rfl (by decide) (by decide) rfl rfl (Nat.le_of_ble_eq_true rfl) (Nat.le_of_ble_eq_true rfl) rfl rfl (Nat.le_of_ble_eq_true rfl) dX2_bearsSlip_24 (fun z24 s24 => ?_)
      refine rr_if_eq hG 34 dX2_bearsSlip_27 (by decide) ?_ ?_
      · refine rr_iconst (v := 0) hG dX2_bearsSlip_34 (by decide) ?_
        exact rr_zret hG ho dX2_bearsSlip_35
      · refine rr_iconst (v := 1) hG dX2_bearsSlip_30 (by decide) ?_
        refine rr_goto (tgt := 35) hG dX2_bearsSlip_31 (by decide) ?_
        exact rr_zret hG ho dX2_bearsSlip_35
  exact h
set_option maxRecDepth 100000 in
set_option maxHeartbeats 4000000 in
theorem b_X2_firstFittingSlip_20 {G : bd_G} {out : Int32 × bd_S} (hG : bd_OK G cX2_firstFittingSlip 9 RX2 55 6 141 (some .int)) (ho : bd_ends bd_Qi G out) : ∀ (n_ : Nat) (x8 : Int32) (x7 : Int32) (x6 : Int32) (x5 : Int32) (x4 : Int32) (x1 : Int32) (x3 : Int32) (s_ : bd_S), bd_WF G out (f_X2_firstFittingSlip_20 n_ x8 x7 x6 x5 x4 x1 x3 s_) s_ 20 [(8, .int x8), (7, .int x7), (6, .int x6), (5, .int x5), (4, .int x4), (0, .ref (bd_ad (g_E G) 0)), (1, .int x1), (3, .int x3)] [] := by
  intro n_
  induction n_ with
  | zero => intros; intro hF; cases hF
  | succ n_ ih =>
    intro x8 x7 x6 x5 x4 x1 x3 s_
    rw [f_X2_firstFittingSlip_20]
    refine rr_iload hG dX2_firstFittingSlip_20 0 rfl ?_
    refine rr_ldc (v := 1000000) hG kc_X2_254 dX2_firstFittingSlip_22 ?_
    refine rr_icmp_ge hG 97 dX2_firstFittingSlip_24 (by decide) ?_ ?_
    · refine rr_iload hG dX2_firstFittingSlip_97 3 rfl ?_
      exact rr_iret hG ho dX2_firstFittingSlip_99
    · refine rr_iload hG dX2_firstFittingSlip_27 1 rfl ?_
      refine rr_iload hG dX2_firstFittingSlip_29 4 rfl ?_
      refine rr_icmp_ge hG 97 dX2_firstFittingSlip_31 (by decide) ?_ ?_
      · refine rr_iload hG dX2_firstFittingSlip_97 3 rfl ?_
        exact rr_iret hG ho dX2_firstFittingSlip_99
      · refine rr_iload hG dX2_firstFittingSlip_34 3 rfl ?_
        refine rr_bipush (v := 60) hG dX2_firstFittingSlip_36 (by decide) ?_
        refine rr_cSi hG [.int x5, .int 60] (c_X2_beyond (g_l G) (g_E G) (hG.hE.mono (by decide)) x5 60 s_) lk_X2_68 sm_X2_beyond (Nat.le_of_ble_eq_true rfl) (Nat.le_of_ble_eq_true rfl) rfl rfl (Nat.le_of_ble_eq_true rfl) dX2_firstFittingSlip_38 (fun z38 s38 => ?_)
        refine rr_if_ne hG 97 dX2_firstFittingSlip_41 (by decide) ?_ ?_
        · refine rr_iload hG dX2_firstFittingSlip_97 3 rfl ?_
          exact rr_iret hG ho dX2_firstFittingSlip_99
        · refine rr_aload_n hG dX2_firstFittingSlip_44 rfl 5 rfl ?_
          refine rr_aload_n hG dX2_firstFittingSlip_45 rfl 5 rfl ?_
          refine gf_X2_37 hG (by decide) dX2_firstFittingSlip_46 ?_
          refine rr_iload hG dX2_firstFittingSlip_49 2 rfl ?_
          refine rr_iconst (v := 3) hG dX2_firstFittingSlip_51 (by decide) ?_
          refine rr_idiv hG dX2_firstFittingSlip_52 (fun z52 => ?_)
          refine rr_aald hG (by decide) dX2_firstFittingSlip_53 (fun S53 hS53 => ?_)
          refine rr_iload hG dX2_firstFittingSlip_54 2 rfl ?_
          refine rr_iconst (v := 3) hG dX2_firstFittingSlip_56 (by decide) ?_
          refine rr_irem hG dX2_firstFittingSlip_57 (fun z57 => ?_)
          refine rr_iload_n hG dX2_firstFittingSlip_58 rfl 6 rfl ?_
          refine rr_iload hG dX2_firstFittingSlip_59 3 rfl ?_
          refine rr_cVi hG [.ref (bd_ad (g_E G) S53), .int z57, .int x1, .int x5] (c_X2_bearsSlip (g_l G) (g_E G) (hG.hE.mono (by decide)) S53 z57 x1 x5 hS53 s38) lk_X2_265 im_X2_bearsSlip se_X2_bearsSlip rfl (by decide) (by decide) rfl rfl (Nat.le_of_ble_eq_true rfl) (Nat.le_of_ble_eq_true rfl) rfl rfl (Nat.le_of_ble_eq_true rfl) dX2_firstFittingSlip_61 (fun z61 s61 => ?_)
          refine rr_if_eq hG 82 dX2_firstFittingSlip_64 (by decide) ?_ ?_
          · refine rr_iconst (v := 0) hG dX2_firstFittingSlip_82 (by decide) ?_
            refine rr_istore (lr := [(8, .int x8), (6, .int x6), (5, .int x5), (4, .int x4), (0, .ref (bd_ad (g_E G) 0)), (1, .int x1), (3, .int x3)]) hG dX2_firstFittingSlip_83 (by decide) rfl ?_
            refine rr_iload hG dX2_firstFittingSlip_85 3 rfl ?_
            refine rr_iload_n hG dX2_firstFittingSlip_87 rfl 7 rfl ?_
            refine rr_iadd hG dX2_firstFittingSlip_88 (fun z88 => ?_)
            refine rr_istore (lr := [(7, .int 0), (8, .int x8), (6, .int x6), (4, .int x4), (0, .ref (bd_ad (g_E G) 0)), (1, .int x1), (3, .int x3)]) hG dX2_firstFittingSlip_89 (by decide) rfl ?_
            refine rr_iinc (v := 1) (lr := [(5, .int z88), (7, .int 0), (6, .int x6), (4, .int x4), (0, .ref (bd_ad (g_E G) 0)), (1, .int x1), (3, .int x3)]) hG dX2_firstFittingSlip_91 2 rfl (by decide) (by decide) rfl (fun z91 => ?_)
            refine rr_goto (tgt := 20) hG dX2_firstFittingSlip_94 (by decide) ?_
            exact rr_sub [0, 2, 3, 1, 4, 5, 6, 7] rfl (ih z91 0 x6 z88 x4 x1 x3 s61)
          · refine rr_iinc (v := 1) (lr := [(8, .int x8), (6, .int x6), (5, .int x5), (4, .int x4), (0, .ref (bd_ad (g_E G) 0)), (1, .int x1), (3, .int x3)]) hG dX2_firstFittingSlip_67 1 rfl (by decide) (by decide) rfl (fun z67 => ?_)
            refine rr_iload hG dX2_firstFittingSlip_70 2 rfl ?_
            refine rr_iconst (v := 1) hG dX2_firstFittingSlip_72 (by decide) ?_
            refine rr_iadd hG dX2_firstFittingSlip_73 (fun z73 => ?_)
            refine rr_iload hG dX2_firstFittingSlip_74 4 rfl ?_
            refine rr_irem hG dX2_firstFittingSlip_76 (fun z76 => ?_)
            refine rr_istore (lr := [(7, .int z67), (8, .int x8), (5, .int x5), (4, .int x4), (0, .ref (bd_ad (g_E G) 0)), (1, .int x1), (3, .int x3)]) hG dX2_firstFittingSlip_77 (by decide) rfl ?_
            refine rr_goto (tgt := 91) hG dX2_firstFittingSlip_79 (by decide) ?_
            refine rr_iinc (v := 1) (lr := [(6, .int z76), (7, .int z67), (5, .int x5), (4, .int x4), (0, .ref (bd_ad (g_E G) 0)), (1, .int x1), (3, .int x3)]) hG dX2_firstFittingSlip_91 2 rfl (by decide) (by decide) rfl (fun z91 => ?_)
            refine rr_goto (tgt := 20) hG dX2_firstFittingSlip_94 (by decide) ?_
            exact rr_sub [0, 2, 1, 3, 4, 5, 6, 7] rfl (ih z91 z67 z76 x5 x4 x1 x3 s61)
set_option maxRecDepth 100000 in
set_option maxHeartbeats 4000000 in
theorem c_X2_firstFittingSlip (l : Launch) (E : bd_E) (hE : bd_ok E 55) (p1 : Int32) (p2 : Int32) (p3 : Int32) (s_ : bd_S) : bd_M bd_Qi l yX2_firstFittingSlip cX2_firstFittingSlip 9 (some .int) 6 141 E [.ref (bd_ad E 0), .int p1, .int p2, .int p3] s_ (f_X2_firstFittingSlip p1 p2 p3 s_) := by
  refine bd_open bd_Qi (by decide +kernel) hE (Nat.le_of_ble_eq_true rfl) (fun G out hG hGE hGl ho => ?_)
  subst hGE
  have hG : bd_OK G cX2_firstFittingSlip 9 RX2 55 6 141 (some .int) := hG
  have h : bd_WF G out (f_X2_firstFittingSlip p1 p2 p3 s_) s_ 0 [(0, .ref (bd_ad (g_E G) 0)), (1, .int p1), (2, .int p2), (3, .int p3)] [] := by
    unfold f_X2_firstFittingSlip
    refine rr_aload_n hG dX2_firstFittingSlip_0 rfl 0 rfl ?_
    refine gf_X2_126 hG (by decide) dX2_firstFittingSlip_1 (fun z1 => ?_)
    refine rr_iconst (v := 3) hG dX2_firstFittingSlip_4 (by decide) ?_
    refine rr_imul hG dX2_firstFittingSlip_5 (fun z5 => ?_)
    refine rr_istore (lr := [(0, .ref (bd_ad (g_E G) 0)), (1, .int p1), (2, .int p2), (3, .int p3)]) hG dX2_firstFittingSlip_6 (by decide) rfl ?_
    refine rr_iload_n hG dX2_firstFittingSlip_8 rfl 3 rfl ?_
    refine rr_istore (lr := [(4, .int z5), (0, .ref (bd_ad (g_E G) 0)), (1, .int p1), (2, .int p2), (3, .int p3)]) hG dX2_firstFittingSlip_9 (by decide) rfl ?_
    refine rr_iconst (v := 0) hG dX2_firstFittingSlip_11 (by decide) ?_
    refine rr_istore (lr := [(5, .int p2), (4, .int z5), (0, .ref (bd_ad (g_E G) 0)), (1, .int p1), (2, .int p2), (3, .int p3)]) hG dX2_firstFittingSlip_12 (by decide) rfl ?_
    refine rr_iconst (v := 0) hG dX2_firstFittingSlip_14 (by decide) ?_
    refine rr_istore (lr := [(6, .int 0), (5, .int p2), (4, .int z5), (0, .ref (bd_ad (g_E G) 0)), (1, .int p1), (2, .int p2), (3, .int p3)]) hG dX2_firstFittingSlip_15 (by decide) rfl ?_
    refine rr_iconst (v := 0) hG dX2_firstFittingSlip_17 (by decide) ?_
    refine rr_istore (lr := [(7, .int 0), (6, .int 0), (5, .int p2), (4, .int z5), (0, .ref (bd_ad (g_E G) 0)), (1, .int p1), (2, .int p2), (3, .int p3)]) hG dX2_firstFittingSlip_18 (by decide) rfl ?_
    exact rr_sub [0, 1, 2, 3, 4, 5, 6, 8] rfl (b_X2_firstFittingSlip_20 hG ho FU_ 0 0 0 p2 z5 p1 p3 s_)
  exact h
set_option maxRecDepth 100000 in
set_option maxHeartbeats 4000000 in
theorem b_X2_slipped_43 {G : bd_G} {out : Int32 × bd_S} (hG : bd_OK G cX2_slipped 4 RX2 55 7 169 (some .int)) (ho : bd_ends bd_Qi G out) (t0 : Int32) (s_ : bd_S) : bd_WF G out (f_X2_slipped_43 t0 s_) s_ 43 [] [.int t0] := by
  unfold f_X2_slipped_43
  refine rr_istore_n (lr := []) hG dX2_slipped_43 rfl (by decide) rfl ?_
  refine rr_iload_n hG dX2_slipped_44 rfl 0 rfl ?_
  refine rr_bipush (v := 60) hG dX2_slipped_45 (by decide) ?_
  refine rr_cSi hG [.int t0, .int 60] (c_X2_beyond (g_l G) (g_E G) (hG.hE.mono (by decide)) t0 60 s_) lk_X2_68 sm_X2_beyond (Nat.le_of_ble_eq_true rfl) (Nat.le_of_ble_eq_true rfl) rfl rfl (Nat.le_of_ble_eq_true rfl) dX2_slipped_47 (fun z47 s47 => ?_)
  refine rr_if_eq hG 58 dX2_slipped_50 (by decide) ?_ ?_
  · refine rr_iload_n hG dX2_slipped_58 rfl 0 rfl ?_
    exact rr_iret hG ho dX2_slipped_59
  · refine rr_ldc (v := (-100000005)) hG kc_X2_206 dX2_slipped_53 ?_
    refine rr_goto (tgt := 59) hG dX2_slipped_55 (by decide) ?_
    exact rr_iret hG ho dX2_slipped_59
set_option maxRecDepth 100000 in
set_option maxHeartbeats 4000000 in
theorem c_X2_slipped (l : Launch) (E : bd_E) (hE : bd_ok E 55) (p1 : Int32) (p2 : Int32) (s_ : bd_S) : bd_M bd_Qi l yX2_slipped cX2_slipped 4 (some .int) 7 169 E [.ref (bd_ad E 0), .int p1, .int p2] s_ (f_X2_slipped p1 p2 s_) := by
  refine bd_open bd_Qi (by decide +kernel) hE (Nat.le_of_ble_eq_true rfl) (fun G out hG hGE hGl ho => ?_)
  subst hGE
  have hG : bd_OK G cX2_slipped 4 RX2 55 7 169 (some .int) := hG
  have h : bd_WF G out (f_X2_slipped p1 p2 s_) s_ 0 [(0, .ref (bd_ad (g_E G) 0)), (1, .int p1), (2, .int p2)] [] := by
    unfold f_X2_slipped
    refine rr_iload_n hG dX2_slipped_0 rfl 1 rfl ?_
    refine rr_cSi hG [.int p1] (c_X2_noDay (g_l G) (g_E G) (hG.hE.mono (by decide)) p1 s_) lk_X2_64 sm_X2_noDay (Nat.le_of_ble_eq_true rfl) (Nat.le_of_ble_eq_true rfl) rfl rfl (Nat.le_of_ble_eq_true rfl) dX2_slipped_1 (fun z1 s1 => ?_)
    refine rr_if_eq hG 10 dX2_slipped_4 (by decide) ?_ ?_
    · refine rr_iload_n hG dX2_slipped_10 rfl 2 rfl ?_
      refine rr_cSi hG [.int p2] (c_X2_noEnd (g_l G) (g_E G) (hG.hE.mono (by decide)) p2 s1) lk_X2_92 sm_X2_noEnd (Nat.le_of_ble_eq_true rfl) (Nat.le_of_ble_eq_true rfl) rfl rfl (Nat.le_of_ble_eq_true rfl) dX2_slipped_11 (fun z11 s11 => ?_)
      refine rr_if_eq hG 20 dX2_slipped_14 (by decide) ?_ ?_
      · refine rr_iload_n hG dX2_slipped_20 rfl 2 rfl ?_
        refine rr_if_ne hG 35 dX2_slipped_21 (by decide) ?_ ?_
        · refine rr_aload_n hG dX2_slipped_35 rfl 0 rfl ?_
          refine rr_iload_n hG dX2_slipped_36 rfl 1 rfl ?_
          refine rr_bipush (v := 60) hG dX2_slipped_37 (by decide) ?_
          refine rr_iconst (v := (-1)) hG dX2_slipped_39 (by decide) ?_
          refine rr_cVi hG [.int p1, .int 60, .int (-1)] (c_X2_firstFittingSlip (g_l G) (g_E G) (hG.hE.mono (by decide)) p1 60 (-1) s11) lk_X2_202 im_X2_firstFittingSlip se_X2_firstFittingSlip rfl (by decide) (by decide) rfl rfl (Nat.le_of_ble_eq_true rfl) (Nat.le_of_ble_eq_true rfl) rfl rfl (Nat.le_of_ble_eq_true rfl) dX2_slipped_40 (fun z40 s40 => ?_)
          exact rr_sub [] rfl (b_X2_slipped_43 hG ho z40 s40)
        · refine rr_aload_n hG dX2_slipped_24 rfl 0 rfl ?_
          refine rr_iload_n hG dX2_slipped_25 rfl 1 rfl ?_
          refine rr_bipush (v := (-60)) hG dX2_slipped_26 (by decide) ?_
          refine rr_iconst (v := 1) hG dX2_slipped_28 (by decide) ?_
          refine rr_cVi hG [.int p1, .int (-60), .int 1] (c_X2_firstFittingSlip (g_l G) (g_E G) (hG.hE.mono (by decide)) p1 (-60) 1 s11) lk_X2_202 im_X2_firstFittingSlip se_X2_firstFittingSlip rfl (by decide) (by decide) rfl rfl (Nat.le_of_ble_eq_true rfl) (Nat.le_of_ble_eq_true rfl) rfl rfl (Nat.le_of_ble_eq_true rfl) dX2_slipped_29 (fun z29 s29 => ?_)
          refine rr_goto (tgt := 43) hG dX2_slipped_32 (by decide) ?_
          exact rr_sub [] rfl (b_X2_slipped_43 hG ho z29 s29)
      · refine rr_ldc (v := (-100000002)) hG kc_X2_95 dX2_slipped_17 ?_
        exact rr_iret hG ho dX2_slipped_19
    · refine rr_ldc (v := (-100000001)) hG kc_X2_91 dX2_slipped_7 ?_
      exact rr_iret hG ho dX2_slipped_9
  exact h
set_option maxRecDepth 100000 in
set_option maxHeartbeats 4000000 in
theorem b_X2_isTold_2 {G : bd_G} {out : Int32 × bd_S} (hG : bd_OK G cX2_isTold 4 RX2 55 1 22 (some .boolean)) (ho : bd_ends bd_Qi G out) : ∀ (n_ : Nat) (x3 : Int32) (S1 : Nat) (x2 : Int32) (hS1 : bd_isS S1) (s_ : bd_S), bd_WF G out (f_X2_isTold_2 n_ x3 S1 x2 s_) s_ 2 [(3, .int x3), (0, .ref (bd_ad (g_E G) 0)), (1, .ref (bd_ad (g_E G) S1)), (2, .int x2)] [] := by
  intro n_
  induction n_ with
  | zero => intros; intro hF; cases hF
  | succ n_ ih =>
    intro x3 S1 x2 hS1 s_
    rw [f_X2_isTold_2]
    refine rr_iload_n hG dX2_isTold_2 rfl 0 rfl ?_
    refine rr_aload_n hG dX2_isTold_3 rfl 2 rfl ?_
    refine gf_X2_145 hS1 hG (by decide) dX2_isTold_4 (fun z4 => ?_)
    refine rr_icmp_ge hG 37 dX2_isTold_7 (by decide) ?_ ?_
    · refine rr_iconst (v := 0) hG dX2_isTold_37 (by decide) ?_
      exact rr_zret hG ho dX2_isTold_38
    · refine rr_aload_n hG dX2_isTold_10 rfl 2 rfl ?_
      refine gf_X2_231 hS1 hG (by decide) dX2_isTold_11 ?_
      refine rr_iload_n hG dX2_isTold_14 rfl 0 rfl ?_
      refine rr_iald hG (bd_kS1 hS1) (bd_bS1 hS1 (by decide)) dX2_isTold_15 (fun z15 => ?_)
      refine rr_iload_n hG dX2_isTold_16 rfl 3 rfl ?_
      refine rr_icmp_ne hG 31 dX2_isTold_17 (by decide) ?_ ?_
      · refine rr_iinc (v := 1) (lr := [(0, .ref (bd_ad (g_E G) 0)), (1, .ref (bd_ad (g_E G) S1)), (2, .int x2)]) hG dX2_isTold_31 0 rfl (by decide) (by decide) rfl (fun z31 => ?_)
        refine rr_goto (tgt := 2) hG dX2_isTold_34 (by decide) ?_
        exact ih z31 S1 x2 hS1 s_
      · refine rr_aload_n hG dX2_isTold_20 rfl 1 rfl ?_
        refine rr_aload_n hG dX2_isTold_21 rfl 2 rfl ?_
        refine rr_iload_n hG dX2_isTold_22 rfl 0 rfl ?_
        refine rr_cVi hG [.ref (bd_ad (g_E G) S1), .int x3] (c_X2_counts (g_l G) (g_E G) (hG.hE.mono (by decide)) S1 x3 hS1 s_) lk_X2_234 im_X2_counts se_X2_counts rfl (by decide) (by decide) rfl rfl (Nat.le_of_ble_eq_true rfl) (Nat.le_of_ble_eq_true rfl) rfl rfl (Nat.le_of_ble_eq_true rfl) dX2_isTold_23 (fun z23 s23 => ?_)
        refine rr_if_eq hG 31 dX2_isTold_26 (by decide) ?_ ?_
        · refine rr_iinc (v := 1) (lr := [(0, .ref (bd_ad (g_E G) 0)), (1, .ref (bd_ad (g_E G) S1)), (2, .int x2)]) hG dX2_isTold_31 0 rfl (by decide) (by decide) rfl (fun z31 => ?_)
          refine rr_goto (tgt := 2) hG dX2_isTold_34 (by decide) ?_
          exact ih z31 S1 x2 hS1 s23
        · refine rr_iconst (v := 1) hG dX2_isTold_29 (by decide) ?_
          exact rr_zret hG ho dX2_isTold_30
set_option maxRecDepth 100000 in
set_option maxHeartbeats 4000000 in
theorem c_X2_isTold (l : Launch) (E : bd_E) (hE : bd_ok E 55) (S1 : Nat) (p2 : Int32) (hS1 : bd_isS S1) (s_ : bd_S) : bd_M bd_Qi l yX2_isTold cX2_isTold 4 (some .boolean) 1 22 E [.ref (bd_ad E 0), .ref (bd_ad E S1), .int p2] s_ (f_X2_isTold S1 p2 s_) := by
  refine bd_open bd_Qi (by decide +kernel) hE (Nat.le_of_ble_eq_true rfl) (fun G out hG hGE hGl ho => ?_)
  subst hGE
  have hG : bd_OK G cX2_isTold 4 RX2 55 1 22 (some .boolean) := hG
  have h : bd_WF G out (f_X2_isTold S1 p2 s_) s_ 0 [(0, .ref (bd_ad (g_E G) 0)), (1, .ref (bd_ad (g_E G) S1)), (2, .int p2)] [] := by
    unfold f_X2_isTold
    refine rr_iconst (v := 0) hG dX2_isTold_0 (by decide) ?_
    refine rr_istore_n (lr := [(0, .ref (bd_ad (g_E G) 0)), (1, .ref (bd_ad (g_E G) S1)), (2, .int p2)]) hG dX2_isTold_1 rfl (by decide) rfl ?_
    exact (b_X2_isTold_2 hG ho FU_ 0 S1 p2 hS1 s_)
  exact h
set_option maxRecDepth 100000 in
set_option maxHeartbeats 4000000 in
theorem b_X2_ask_100 {G : bd_G} {out : Int32 × bd_S} (hG : bd_OK G cX2_ask 7 RX2 55 6 139 (some .int)) (ho : bd_ends bd_Qi G out) {k29 : Int32 → Int32 → Int32 → Int32 → Int32 → bd_S → Option (Int32 × bd_S)} (hk29 : ∀ (x5 : Int32) (x4 : Int32) (x3 : Int32) (x2 : Int32) (x1 : Int32) (s_ : bd_S), bd_WF G out (k29 x5 x4 x3 x2 x1 s_) s_ 29 [(5, .int x5), (4, .int x4), (3, .int x3), (2, .int x2), (0, .ref (bd_ad (g_E G) 0)), (1, .int x1)] []) (x6 : Int32) (x5 : Int32) (x4 : Int32) (x1 : Int32) (s_ : bd_S) : bd_WF G out (f_X2_ask_100 k29 x6 x5 x4 x1 s_) s_ 100 [(6, .int x6), (5, .int x5), (4, .int x4), (0, .ref (bd_ad (g_E G) 0)), (1, .int x1)] [] := by
  unfold f_X2_ask_100
  refine rr_bipush (v := 10) hG dX2_ask_100 (by decide) ?_
  refine rr_iload hG dX2_ask_102 2 rfl ?_
  refine rr_imul hG dX2_ask_104 (fun z104 => ?_)
  refine rr_iload hG dX2_ask_105 1 rfl ?_
  refine rr_iadd hG dX2_ask_107 (fun z107 => ?_)
  refine rr_istore_n (lr := [(6, .int x6), (5, .int x5), (4, .int x4), (0, .ref (bd_ad (g_E G) 0)), (1, .int x1)]) hG dX2_ask_108 rfl (by decide) rfl ?_
  refine rr_iload hG dX2_ask_109 1 rfl ?_
  refine rr_istore_n (lr := [(2, .int z107), (6, .int x6), (5, .int x5), (4, .int x4), (0, .ref (bd_ad (g_E G) 0)), (1, .int x1)]) hG dX2_ask_111 rfl (by decide) rfl ?_
  refine rr_iinc (v := 1) (lr := [(3, .int x6), (2, .int z107), (6, .int x6), (4, .int x4), (0, .ref (bd_ad (g_E G) 0)), (1, .int x1)]) hG dX2_ask_112 3 rfl (by decide) (by decide) rfl (fun z112 => ?_)
  refine rr_goto (tgt := 29) hG dX2_ask_115 (by decide) ?_
  exact rr_sub [0, 4, 1, 2, 5, 6] rfl (hk29 z112 x4 x6 z107 x1 s_)
set_option maxRecDepth 100000 in
set_option maxHeartbeats 4000000 in
theorem b_X2_ask_29 {G : bd_G} {out : Int32 × bd_S} (hG : bd_OK G cX2_ask 7 RX2 55 6 139 (some .int)) (ho : bd_ends bd_Qi G out) {k118 : Int32 → Int32 → Int32 → Int32 → bd_S → Option (Int32 × bd_S)} (hk118 : ∀ (x4 : Int32) (x3 : Int32) (x2 : Int32) (x1 : Int32) (s_ : bd_S), bd_WF G out (k118 x4 x3 x2 x1 s_) s_ 118 [(4, .int x4), (3, .int x3), (2, .int x2), (0, .ref (bd_ad (g_E G) 0)), (1, .int x1)] []) : ∀ (n_ : Nat) (x5 : Int32) (x4 : Int32) (x3 : Int32) (x2 : Int32) (x1 : Int32) (s_ : bd_S), bd_WF G out (f_X2_ask_29 k118 n_ x5 x4 x3 x2 x1 s_) s_ 29 [(5, .int x5), (4, .int x4), (3, .int x3), (2, .int x2), (0, .ref (bd_ad (g_E G) 0)), (1, .int x1)] [] := by
  intro n_
  induction n_ with
  | zero => intros; intro hF; cases hF
  | succ n_ ih =>
    intro x5 x4 x3 x2 x1 s_
    rw [f_X2_ask_29]
    refine rr_iload hG dX2_ask_29 0 rfl ?_
    refine rr_iconst (v := 3) hG dX2_ask_31 (by decide) ?_
    refine rr_icmp_ge hG 118 dX2_ask_32 (by decide) ?_ ?_
    · exact rr_sub [1, 2, 3, 4, 5] rfl (hk118 x4 x3 x2 x1 s_)
    · refine rr_aload_n hG dX2_ask_35 rfl 4 rfl ?_
      refine rr_aload_n hG dX2_ask_36 rfl 4 rfl ?_
      refine gf_X2_37 hG (by decide) dX2_ask_37 ?_
      refine rr_iload hG dX2_ask_40 1 rfl ?_
      refine rr_aald hG (by decide) dX2_ask_42 (fun S42 hS42 => ?_)
      refine rr_iload hG dX2_ask_43 0 rfl ?_
      refine rr_cVi hG [.ref (bd_ad (g_E G) S42), .int x5] (c_X2_isTold (g_l G) (g_E G) (hG.hE.mono (by decide)) S42 x5 hS42 s_) lk_X2_207 im_X2_isTold se_X2_isTold rfl (by decide) (by decide) rfl rfl (Nat.le_of_ble_eq_true rfl) (Nat.le_of_ble_eq_true rfl) rfl rfl (Nat.le_of_ble_eq_true rfl) dX2_ask_45 (fun z45 s45 => ?_)
      refine rr_if_eq hG 112 dX2_ask_48 (by decide) ?_ ?_
      · refine rr_iinc (v := 1) (lr := [(4, .int x4), (3, .int x3), (2, .int x2), (0, .ref (bd_ad (g_E G) 0)), (1, .int x1)]) hG dX2_ask_112 0 rfl (by decide) (by decide) rfl (fun z112 => ?_)
        refine rr_goto (tgt := 29) hG dX2_ask_115 (by decide) ?_
        exact ih z112 x4 x3 x2 x1 s45
      · refine rr_aload_n hG dX2_ask_51 rfl 4 rfl ?_
        refine rr_aload_n hG dX2_ask_52 rfl 4 rfl ?_
        refine gf_X2_37 hG (by decide) dX2_ask_53 ?_
        refine rr_iload hG dX2_ask_56 1 rfl ?_
        refine rr_aald hG (by decide) dX2_ask_58 (fun S58 hS58 => ?_)
        refine rr_iload hG dX2_ask_59 0 rfl ?_
        refine rr_cVi hG [.ref (bd_ad (g_E G) S58), .int x5] (c_X2_learn (g_l G) (g_E G) (hG.hE.mono (by decide)) S58 x5 hS58 s45) lk_X2_157 im_X2_learn se_X2_learn rfl (by decide) (by decide) rfl rfl (Nat.le_of_ble_eq_true rfl) (Nat.le_of_ble_eq_true rfl) rfl rfl (Nat.le_of_ble_eq_true rfl) dX2_ask_61 (fun z61 s61 => ?_)
        refine rr_if_eq hG 112 dX2_ask_64 (by decide) ?_ ?_
        · refine rr_iinc (v := 1) (lr := [(4, .int x4), (3, .int x3), (2, .int x2), (0, .ref (bd_ad (g_E G) 0)), (1, .int x1)]) hG dX2_ask_112 0 rfl (by decide) (by decide) rfl (fun z112 => ?_)
          refine rr_goto (tgt := 29) hG dX2_ask_115 (by decide) ?_
          exact ih z112 x4 x3 x2 x1 s61
        · refine rr_aload_n hG dX2_ask_67 rfl 4 rfl ?_
          refine gf_X2_19 hG (by decide) dX2_ask_68 ?_
          refine gf_X2_99 bd_c7 hG (by decide) dX2_ask_71 ?_
          refine rr_iload_n hG dX2_ask_74 rfl 5 rfl ?_
          refine rr_iald hG rfl (by decide) dX2_ask_75 (fun z75 => ?_)
          refine rr_aload_n hG dX2_ask_76 rfl 4 rfl ?_
          refine gf_X2_19 hG (by decide) dX2_ask_77 ?_
          refine gf_X2_96 bd_c7 hG (by decide) dX2_ask_80 ?_
          refine rr_iload_n hG dX2_ask_83 rfl 5 rfl ?_
          refine rr_iald hG rfl (by decide) dX2_ask_84 (fun z84 => ?_)
          refine rr_isub hG dX2_ask_85 (fun z85 => ?_)
          refine rr_istore (lr := [(5, .int x5), (4, .int x4), (3, .int x3), (2, .int x2), (0, .ref (bd_ad (g_E G) 0)), (1, .int x1)]) hG dX2_ask_86 (by decide) rfl ?_
          refine rr_iload_n hG dX2_ask_88 rfl 4 rfl ?_
          refine rr_bipush (v := (-6)) hG dX2_ask_89 (by decide) ?_
          refine rr_icmp_eq hG 100 dX2_ask_91 (by decide) ?_ ?_
          · exact rr_sub [0, 1, 2, 5, 6] rfl (b_X2_ask_100 hG ho ih z85 x5 x4 x1 s61)
          · refine rr_iload hG dX2_ask_94 0 rfl ?_
            refine rr_iload_n hG dX2_ask_96 rfl 3 rfl ?_
            refine rr_icmp_ge hG 112 dX2_ask_97 (by decide) ?_ ?_
            · refine rr_iinc (v := 1) (lr := [(6, .int z85), (4, .int x4), (3, .int x3), (2, .int x2), (0, .ref (bd_ad (g_E G) 0)), (1, .int x1)]) hG dX2_ask_112 1 rfl (by decide) (by decide) rfl (fun z112 => ?_)
              refine rr_goto (tgt := 29) hG dX2_ask_115 (by decide) ?_
              exact rr_sub [0, 2, 3, 4, 5, 6] rfl (ih z112 x4 x3 x2 x1 s61)
            · exact rr_sub [0, 1, 2, 5, 6] rfl (b_X2_ask_100 hG ho ih z85 x5 x4 x1 s61)
set_option maxRecDepth 100000 in
set_option maxHeartbeats 4000000 in
theorem b_X2_ask_17 {G : bd_G} {out : Int32 × bd_S} (hG : bd_OK G cX2_ask 7 RX2 55 6 139 (some .int)) (ho : bd_ends bd_Qi G out) : ∀ (n_ : Nat) (x4 : Int32) (x3 : Int32) (x2 : Int32) (x1 : Int32) (s_ : bd_S), bd_WF G out (f_X2_ask_17 n_ x4 x3 x2 x1 s_) s_ 17 [(4, .int x4), (3, .int x3), (2, .int x2), (0, .ref (bd_ad (g_E G) 0)), (1, .int x1)] [] := by
  intro n_
  induction n_ with
  | zero => intros; intro hF; cases hF
  | succ n_ ih =>
    intro x4 x3 x2 x1 s_
    rw [f_X2_ask_17]
    refine rr_iload hG dX2_ask_17 0 rfl ?_
    refine rr_aload_n hG dX2_ask_19 rfl 3 rfl ?_
    refine gf_X2_126 hG (by decide) dX2_ask_20 (fun z20 => ?_)
    refine rr_icmp_ge hG 124 dX2_ask_23 (by decide) ?_ ?_
    · refine rr_iload_n hG dX2_ask_124 rfl 2 rfl ?_
      exact rr_iret hG ho dX2_ask_125
    · refine rr_iconst (v := 0) hG dX2_ask_26 (by decide) ?_
      refine rr_istore (lr := [(4, .int x4), (3, .int x3), (2, .int x2), (0, .ref (bd_ad (g_E G) 0)), (1, .int x1)]) hG dX2_ask_27 (by decide) rfl ?_
      refine (b_X2_ask_29 hG ho (fun x4e x3e x2e x1e e118 => ?_) FU_ 0 x4 x3 x2 x1 s_)
      · refine rr_iinc (v := 1) (lr := [(3, .int x3e), (2, .int x2e), (0, .ref (bd_ad (g_E G) 0)), (1, .int x1e)]) hG dX2_ask_118 0 rfl (by decide) (by decide) rfl (fun z118 => ?_)
        refine rr_goto (tgt := 17) hG dX2_ask_121 (by decide) ?_
        exact ih z118 x3e x2e x1e e118
set_option maxRecDepth 100000 in
set_option maxHeartbeats 4000000 in
theorem c_X2_ask (l : Launch) (E : bd_E) (hE : bd_ok E 55) (p1 : Int32) (s_ : bd_S) : bd_M bd_Qi l yX2_ask cX2_ask 7 (some .int) 6 139 E [.ref (bd_ad E 0), .int p1] s_ (f_X2_ask p1 s_) := by
  refine bd_open bd_Qi (by decide +kernel) hE (Nat.le_of_ble_eq_true rfl) (fun G out hG hGE hGl ho => ?_)
  subst hGE
  have hG : bd_OK G cX2_ask 7 RX2 55 6 139 (some .int) := hG
  have h : bd_WF G out (f_X2_ask p1 s_) s_ 0 [(0, .ref (bd_ad (g_E G) 0)), (1, .int p1)] [] := by
    unfold f_X2_ask
    refine rr_iload_n hG dX2_ask_0 rfl 1 rfl ?_
    refine rr_cSi hG [.int p1] (c_X2_noDay (g_l G) (g_E G) (hG.hE.mono (by decide)) p1 s_) lk_X2_64 sm_X2_noDay (Nat.le_of_ble_eq_true rfl) (Nat.le_of_ble_eq_true rfl) rfl rfl (Nat.le_of_ble_eq_true rfl) dX2_ask_1 (fun z1 s1 => ?_)
    refine rr_if_eq hG 9 dX2_ask_4 (by decide) ?_ ?_
    · refine rr_bipush (v := (-6)) hG dX2_ask_9 (by decide) ?_
      refine rr_istore_n (lr := [(0, .ref (bd_ad (g_E G) 0)), (1, .int p1)]) hG dX2_ask_11 rfl (by decide) rfl ?_
      refine rr_iconst (v := 0) hG dX2_ask_12 (by decide) ?_
      refine rr_istore_n (lr := [(2, .int (-6)), (0, .ref (bd_ad (g_E G) 0)), (1, .int p1)]) hG dX2_ask_13 rfl (by decide) rfl ?_
      refine rr_iconst (v := 0) hG dX2_ask_14 (by decide) ?_
      refine rr_istore (lr := [(3, .int 0), (2, .int (-6)), (0, .ref (bd_ad (g_E G) 0)), (1, .int p1)]) hG dX2_ask_15 (by decide) rfl ?_
      exact (b_X2_ask_17 hG ho FU_ 0 0 (-6) p1 s1)
    · refine rr_iconst (v := (-1)) hG dX2_ask_7 (by decide) ?_
      exact rr_iret hG ho dX2_ask_8
  exact h
set_option maxRecDepth 100000 in
set_option maxHeartbeats 4000000 in
theorem c_X2_carry (l : Launch) (E : bd_E) (hE : bd_ok E 55) (p1 : Int32) (p2 : Int32) (p3 : Int32) (p4 : Int32) (p5 : Int32) (s_ : bd_S) : bd_M bd_Qi l yX2_carry cX2_carry 8 (some .int) 6 139 E [.ref (bd_ad E 0), .int p1, .int p2, .int p3, .int p4, .int p5] s_ (f_X2_carry p1 p2 p3 p4 p5 s_) := by
  refine bd_open bd_Qi (by decide +kernel) hE (Nat.le_of_ble_eq_true rfl) (fun G out hG hGE hGl ho => ?_)
  subst hGE
  have hG : bd_OK G cX2_carry 8 RX2 55 6 139 (some .int) := hG
  have h : bd_WF G out (f_X2_carry p1 p2 p3 p4 p5 s_) s_ 0 [(0, .ref (bd_ad (g_E G) 0)), (1, .int p1), (2, .int p2), (3, .int p3), (4, .int p4), (5, .int p5)] [] := by
    unfold f_X2_carry
    refine rr_iload_n hG dX2_carry_0 rfl 1 rfl ?_
    refine rr_iconst (v := 0) hG dX2_carry_1 (by decide) ?_
    refine rr_iconst (v := 3) hG dX2_carry_2 (by decide) ?_
    refine rr_cSi hG [.int p1, .int 0, .int 3] (c_X2_outside (g_l G) (g_E G) (hG.hE.mono (by decide)) p1 0 3 s_) lk_X2_87 sm_X2_outside (Nat.le_of_ble_eq_true rfl) (Nat.le_of_ble_eq_true rfl) rfl rfl (Nat.le_of_ble_eq_true rfl) dX2_carry_3 (fun z3 s3 => ?_)
    refine rr_if_ne hG 26 dX2_carry_6 (by decide) ?_ ?_
    · refine rr_iconst (v := (-1)) hG dX2_carry_26 (by decide) ?_
      exact rr_iret hG ho dX2_carry_27
    · refine rr_aload_n hG dX2_carry_9 rfl 0 rfl ?_
      refine rr_iload_n hG dX2_carry_10 rfl 2 rfl ?_
      refine rr_iload_n hG dX2_carry_11 rfl 3 rfl ?_
      refine rr_cVi hG [.int p2, .int p3] (c_X2_noClock (g_l G) (g_E G) (hG.hE.mono (by decide)) p2 p3 s3) lk_X2_129 im_X2_noClock se_X2_noClock rfl (by decide) (by decide) rfl rfl (Nat.le_of_ble_eq_true rfl) (Nat.le_of_ble_eq_true rfl) rfl rfl (Nat.le_of_ble_eq_true rfl) dX2_carry_12 (fun z12 s12 => ?_)
      refine rr_if_ne hG 26 dX2_carry_15 (by decide) ?_ ?_
      · refine rr_iconst (v := (-1)) hG dX2_carry_26 (by decide) ?_
        exact rr_iret hG ho dX2_carry_27
      · refine rr_iload hG dX2_carry_18 4 rfl ?_
        refine rr_cSi hG [.int p4] (c_X2_noDay (g_l G) (g_E G) (hG.hE.mono (by decide)) p4 s12) lk_X2_64 sm_X2_noDay (Nat.le_of_ble_eq_true rfl) (Nat.le_of_ble_eq_true rfl) rfl rfl (Nat.le_of_ble_eq_true rfl) dX2_carry_20 (fun z20 s20 => ?_)
        refine rr_if_eq hG 28 dX2_carry_23 (by decide) ?_ ?_
        · refine rr_iload hG dX2_carry_28 5 rfl ?_
          refine rr_sipush (v := 9999) hG dX2_carry_30 (by decide) ?_
          refine rr_cSi hG [.int p5, .int 9999] (c_X2_beyond (g_l G) (g_E G) (hG.hE.mono (by decide)) p5 9999 s20) lk_X2_68 sm_X2_beyond (Nat.le_of_ble_eq_true rfl) (Nat.le_of_ble_eq_true rfl) rfl rfl (Nat.le_of_ble_eq_true rfl) dX2_carry_33 (fun z33 s33 => ?_)
          refine rr_if_eq hG 42 dX2_carry_36 (by decide) ?_ ?_
          · refine rr_aload_n hG dX2_carry_42 rfl 0 rfl ?_
            refine rr_aload_n hG dX2_carry_43 rfl 0 rfl ?_
            refine gf_X2_37 hG (by decide) dX2_carry_44 ?_
            refine rr_iload_n hG dX2_carry_47 rfl 2 rfl ?_
            refine rr_aald hG (by decide) dX2_carry_48 (fun S48 hS48 => ?_)
            refine rr_iload_n hG dX2_carry_49 rfl 3 rfl ?_
            refine rr_cVi hG [.ref (bd_ad (g_E G) S48), .int p3] (c_X2_learn (g_l G) (g_E G) (hG.hE.mono (by decide)) S48 p3 hS48 s33) lk_X2_157 im_X2_learn se_X2_learn rfl (by decide) (by decide) rfl rfl (Nat.le_of_ble_eq_true rfl) (Nat.le_of_ble_eq_true rfl) rfl rfl (Nat.le_of_ble_eq_true rfl) dX2_carry_50 (fun z50 s50 => ?_)
            refine rr_if_ne hG 59 dX2_carry_53 (by decide) ?_ ?_
            · refine rr_aload_n hG dX2_carry_59 rfl 0 rfl ?_
              refine gf_X2_41 hG (by decide) dX2_carry_60 ?_
              refine rr_iload_n hG dX2_carry_63 rfl 1 rfl ?_
              refine rr_iald hG rfl (by decide) dX2_carry_64 (fun z64 => ?_)
              refine rr_iload hG dX2_carry_65 5 rfl ?_
              refine rr_aload_n hG dX2_carry_67 rfl 0 rfl ?_
              refine gf_X2_19 hG (by decide) dX2_carry_68 ?_
              refine gf_X2_99 bd_c7 hG (by decide) dX2_carry_71 ?_
              refine rr_iload hG dX2_carry_74 4 rfl ?_
              refine rr_iald hG rfl (by decide) dX2_carry_76 (fun z76 => ?_)
              refine rr_isub hG dX2_carry_77 (fun z77 => ?_)
              refine rr_iconst (v := 2) hG dX2_carry_78 (by decide) ?_
              refine rr_isub hG dX2_carry_79 (fun z79 => ?_)
              refine rr_mmax hG mm_X2_210 mt_max1 mt_max2 mt_max3 (Nat.le_of_ble_eq_true rfl) (Nat.le_of_ble_eq_true rfl) dX2_carry_80 (fun z80 => ?_)
              refine rr_istore (lr := [(0, .ref (bd_ad (g_E G) 0)), (1, .int p1), (2, .int p2), (3, .int p3), (4, .int p4), (5, .int p5)]) hG dX2_carry_83 (by decide) rfl ?_
              refine rr_aload_n hG dX2_carry_85 rfl 1 rfl ?_
              refine gf_X2_44 hG (by decide) dX2_carry_86 ?_
              refine rr_iload_n hG dX2_carry_89 rfl 2 rfl ?_
              refine rr_iald hG rfl (by decide) dX2_carry_90 (fun z90 => ?_)
              refine rr_iload hG dX2_carry_91 6 rfl ?_
              refine rr_aload_n hG dX2_carry_93 rfl 1 rfl ?_
              refine gf_X2_19 hG (by decide) dX2_carry_94 ?_
              refine gf_X2_96 bd_c7 hG (by decide) dX2_carry_97 ?_
              refine rr_iload hG dX2_carry_100 5 rfl ?_
              refine rr_iald hG rfl (by decide) dX2_carry_102 (fun z102 => ?_)
              refine rr_isub hG dX2_carry_103 (fun z103 => ?_)
              refine rr_iconst (v := 2) hG dX2_carry_104 (by decide) ?_
              refine rr_iadd hG dX2_carry_105 (fun z105 => ?_)
              refine rr_mmin hG mm_X2_215 mt_min1 mt_min2 mt_min3 (Nat.le_of_ble_eq_true rfl) (Nat.le_of_ble_eq_true rfl) dX2_carry_106 (fun z106 => ?_)
              refine rr_istore (lr := [(6, .int z80), (0, .ref (bd_ad (g_E G) 0)), (1, .int p1), (2, .int p2), (3, .int p3), (4, .int p4), (5, .int p5)]) hG dX2_carry_109 (by decide) rfl ?_
              refine rr_iload hG dX2_carry_111 1 rfl ?_
              refine rr_iload hG dX2_carry_113 0 rfl ?_
              refine rr_icmp_le hG 121 dX2_carry_115 (by decide) ?_ ?_
              · refine rr_aload_n hG dX2_carry_121 rfl 2 rfl ?_
                refine gf_X2_41 hG (by decide) dX2_carry_122 ?_
                refine rr_iload_n hG dX2_carry_125 rfl 3 rfl ?_
                refine rr_iload hG dX2_carry_126 1 rfl ?_
                refine rr_iast hG rfl (by decide) dX2_carry_128 (fun s128 => ?_)
                refine rr_aload_n hG dX2_carry_129 rfl 2 rfl ?_
                refine gf_X2_44 hG (by decide) dX2_carry_130 ?_
                refine rr_iload_n hG dX2_carry_133 rfl 3 rfl ?_
                refine rr_iload hG dX2_carry_134 0 rfl ?_
                refine rr_iast hG rfl (by decide) dX2_carry_136 (fun s136 => ?_)
                refine rr_iconst (v := 1) hG dX2_carry_137 (by decide) ?_
                exact rr_iret hG ho dX2_carry_138
              · refine rr_bipush (v := (-5)) hG dX2_carry_118 (by decide) ?_
                exact rr_iret hG ho dX2_carry_120
            · refine rr_bipush (v := (-3)) hG dX2_carry_56 (by decide) ?_
              exact rr_iret hG ho dX2_carry_58
          · refine rr_bipush (v := (-2)) hG dX2_carry_39 (by decide) ?_
            exact rr_iret hG ho dX2_carry_41
        · refine rr_iconst (v := (-1)) hG dX2_carry_26 (by decide) ?_
          exact rr_iret hG ho dX2_carry_27
  exact h
set_option maxRecDepth 100000 in
set_option maxHeartbeats 4000000 in
theorem c_X2_port (l : Launch) (E : bd_E) (hE : bd_ok E 55) (p1 : Int32) (p2 : Int32) (s_ : bd_S) : bd_M bd_Qi l yX2_port cX2_port 3 (some .int) 1 22 E [.ref (bd_ad E 0), .int p1, .int p2] s_ (f_X2_port p1 p2 s_) := by
  refine bd_open bd_Qi (by decide +kernel) hE (Nat.le_of_ble_eq_true rfl) (fun G out hG hGE hGl ho => ?_)
  subst hGE
  have hG : bd_OK G cX2_port 3 RX2 55 1 22 (some .int) := hG
  have h : bd_WF G out (f_X2_port p1 p2 s_) s_ 0 [(0, .ref (bd_ad (g_E G) 0)), (1, .int p1), (2, .int p2)] [] := by
    unfold f_X2_port
    refine rr_iload_n hG dX2_port_0 rfl 1 rfl ?_
    refine rr_iconst (v := 0) hG dX2_port_1 (by decide) ?_
    refine rr_iconst (v := 3) hG dX2_port_2 (by decide) ?_
    refine rr_cSi hG [.int p1, .int 0, .int 3] (c_X2_outside (g_l G) (g_E G) (hG.hE.mono (by decide)) p1 0 3 s_) lk_X2_87 sm_X2_outside (Nat.le_of_ble_eq_true rfl) (Nat.le_of_ble_eq_true rfl) rfl rfl (Nat.le_of_ble_eq_true rfl) dX2_port_3 (fun z3 s3 => ?_)
    refine rr_if_eq hG 12 dX2_port_6 (by decide) ?_ ?_
    · refine rr_iload_n hG dX2_port_12 rfl 2 rfl ?_
      refine rr_cSi hG [.int p2] (c_X2_noEnd (g_l G) (g_E G) (hG.hE.mono (by decide)) p2 s3) lk_X2_92 sm_X2_noEnd (Nat.le_of_ble_eq_true rfl) (Nat.le_of_ble_eq_true rfl) rfl rfl (Nat.le_of_ble_eq_true rfl) dX2_port_13 (fun z13 s13 => ?_)
      refine rr_if_eq hG 22 dX2_port_16 (by decide) ?_ ?_
      · refine rr_iload_n hG dX2_port_22 rfl 2 rfl ?_
        refine rr_if_ne hG 35 dX2_port_23 (by decide) ?_ ?_
        · refine rr_aload_n hG dX2_port_35 rfl 0 rfl ?_
          refine gf_X2_44 hG (by decide) dX2_port_36 ?_
          refine rr_iload_n hG dX2_port_39 rfl 1 rfl ?_
          refine rr_iald hG rfl (by decide) dX2_port_40 (fun z40 => ?_)
          exact rr_iret hG ho dX2_port_41
        · refine rr_aload_n hG dX2_port_26 rfl 0 rfl ?_
          refine gf_X2_41 hG (by decide) dX2_port_27 ?_
          refine rr_iload_n hG dX2_port_30 rfl 1 rfl ?_
          refine rr_iald hG rfl (by decide) dX2_port_31 (fun z31 => ?_)
          refine rr_goto (tgt := 41) hG dX2_port_32 (by decide) ?_
          exact rr_iret hG ho dX2_port_41
      · refine rr_ldc (v := (-100000002)) hG kc_X2_95 dX2_port_19 ?_
        exact rr_iret hG ho dX2_port_21
    · refine rr_ldc (v := (-100000001)) hG kc_X2_91 dX2_port_9 ?_
      exact rr_iret hG ho dX2_port_11
  exact h
set_option maxRecDepth 100000 in
set_option maxHeartbeats 4000000 in
theorem b_X2_told_68 {G : bd_G} {out : Int32 × bd_S} (hG : bd_OK G cX2_told 2 RX2 55 1 21 (some .int)) (ho : bd_ends bd_Qi G out) (x1 : Int32) (s_ : bd_S) : bd_WF G out (f_X2_told_68 x1 s_) s_ 68 [(0, .ref (bd_ad (g_E G) 0)), (1, .int x1)] [] := by
  unfold f_X2_told_68
  refine rr_aload_n hG dX2_told_68 rfl 0 rfl ?_
  refine rr_iload_n hG dX2_told_69 rfl 1 rfl ?_
  refine rr_iconst (v := 4) hG dX2_told_70 (by decide) ?_
  refine rr_isub hG dX2_told_71 (fun z71 => ?_)
  refine rr_cVi hG [.int z71] (c_X2_noShip (g_l G) (g_E G) (hG.hE.mono (by decide)) z71 s_) lk_X2_142 im_X2_noShip se_X2_noShip rfl (by decide) (by decide) rfl rfl (Nat.le_of_ble_eq_true rfl) (Nat.le_of_ble_eq_true rfl) rfl rfl (Nat.le_of_ble_eq_true rfl) dX2_told_72 (fun z72 s72 => ?_)
  refine rr_if_eq hG 83 dX2_told_75 (by decide) ?_ ?_
  · refine rr_aload_n hG dX2_told_83 rfl 0 rfl ?_
    refine gf_X2_37 hG (by decide) dX2_told_84 ?_
    refine rr_iload_n hG dX2_told_87 rfl 1 rfl ?_
    refine rr_iconst (v := 4) hG dX2_told_88 (by decide) ?_
    refine rr_isub hG dX2_told_89 (fun z89 => ?_)
    refine rr_aald hG (by decide) dX2_told_90 (fun S90 hS90 => ?_)
    refine gf_X2_145 hS90 hG (by decide) dX2_told_91 (fun z91 => ?_)
    exact rr_iret hG ho dX2_told_94
  · refine rr_bipush (v := (-6)) hG dX2_told_78 (by decide) ?_
    refine rr_goto (tgt := 94) hG dX2_told_80 (by decide) ?_
    exact rr_iret hG ho dX2_told_94
set_option maxRecDepth 100000 in
set_option maxHeartbeats 4000000 in
theorem c_X2_told (l : Launch) (E : bd_E) (hE : bd_ok E 55) (p1 : Int32) (s_ : bd_S) : bd_M bd_Qi l yX2_told cX2_told 2 (some .int) 1 21 E [.ref (bd_ad E 0), .int p1] s_ (f_X2_told p1 s_) := by
  refine bd_open bd_Qi (by decide +kernel) hE (Nat.le_of_ble_eq_true rfl) (fun G out hG hGE hGl ho => ?_)
  subst hGE
  have hG : bd_OK G cX2_told 2 RX2 55 1 21 (some .int) := hG
  have h : bd_WF G out (f_X2_told p1 s_) s_ 0 [(0, .ref (bd_ad (g_E G) 0)), (1, .int p1)] [] := by
    unfold f_X2_told
    refine rr_iload_n hG dX2_told_0 rfl 1 rfl ?_
    refine rr_swc hG 0 48 dX2_told_1 (by decide) ?_ (fun nq0 => ?_)
    · refine rr_aload_n hG dX2_told_48 rfl 0 rfl ?_
      refine gf_X2_72 hG (by decide) dX2_told_49 (fun z49 => ?_)
      exact rr_iret hG ho dX2_told_52
    refine rr_swc hG 1 53 dX2_told_1 (by decide) ?_ (fun nq1 => ?_)
    · refine rr_aload_n hG dX2_told_53 rfl 0 rfl ?_
      refine gf_X2_126 hG (by decide) dX2_told_54 (fun z54 => ?_)
      exact rr_iret hG ho dX2_told_57
    refine rr_swc hG 2 58 dX2_told_1 (by decide) ?_ (fun nq2 => ?_)
    · refine rr_aload_n hG dX2_told_58 rfl 0 rfl ?_
      refine gf_X2_53 hG (by decide) dX2_told_59 (fun z59 => ?_)
      exact rr_iret hG ho dX2_told_62
    refine rr_swc hG 3 63 dX2_told_1 (by decide) ?_ (fun nq3 => ?_)
    · refine rr_aload_n hG dX2_told_63 rfl 0 rfl ?_
      refine gf_X2_108 hG (by decide) dX2_told_64 (fun z64 => ?_)
      exact rr_iret hG ho dX2_told_67
    refine rr_swc hG 4 68 dX2_told_1 (by decide) ?_ (fun nq4 => ?_)
    · exact (b_X2_told_68 hG ho p1 s_)
    refine rr_swc hG 5 68 dX2_told_1 (by decide) ?_ (fun nq5 => ?_)
    · exact (b_X2_told_68 hG ho p1 s_)
    refine rr_swc hG 6 68 dX2_told_1 (by decide) ?_ (fun nq6 => ?_)
    · exact (b_X2_told_68 hG ho p1 s_)
    refine rr_swc hG 7 68 dX2_told_1 (by decide) ?_ (fun nq7 => ?_)
    · exact (b_X2_told_68 hG ho p1 s_)
    refine rr_swd hG 95 dX2_told_1 (bd_swd8 nq0 nq1 nq2 nq3 nq4 nq5 nq6 nq7) (by decide) ?_
    refine rr_bipush (v := (-2)) hG dX2_told_95 (by decide) ?_
    exact rr_iret hG ho dX2_told_97
  exact h
set_option maxRecDepth 100000 in
set_option maxHeartbeats 4000000 in
theorem c_X3_in (l : Launch) (E : bd_E) (hE : bd_ok E 10) (p0 : Int32) (p1 : Int32) (p2 : Int32) (s_ : bd_S) : bd_M bd_Qi l yX3_in cX3_in 3 (some .boolean) 0 0 E [.int p0, .int p1, .int p2] s_ (f_X3_in p0 p1 p2 s_) := by
  refine bd_open bd_Qi (by decide +kernel) hE (Nat.le_of_ble_eq_true rfl) (fun G out hG hGE hGl ho => ?_)
  subst hGE
  have hG : bd_OK G cX3_in 3 RX3 10 0 0 (some .boolean) := hG
  have h : bd_WF G out (f_X3_in p0 p1 p2 s_) s_ 0 [(0, .int p0), (1, .int p1), (2, .int p2)] [] := by
    unfold f_X3_in
    refine rr_iload_n hG dX3_in_0 rfl 0 rfl ?_
    refine rr_iload_n hG dX3_in_1 rfl 1 rfl ?_
    refine rr_icmp_lt hG 14 dX3_in_2 (by decide) ?_ ?_
    · refine rr_iconst (v := 0) hG dX3_in_14 (by decide) ?_
      exact rr_zret hG ho dX3_in_15
    · refine rr_iload_n hG dX3_in_5 rfl 0 rfl ?_
      refine rr_iload_n hG dX3_in_6 rfl 2 rfl ?_
      refine rr_icmp_gt hG 14 dX3_in_7 (by decide) ?_ ?_
      · refine rr_iconst (v := 0) hG dX3_in_14 (by decide) ?_
        exact rr_zret hG ho dX3_in_15
      · refine rr_iconst (v := 1) hG dX3_in_10 (by decide) ?_
        refine rr_goto (tgt := 15) hG dX3_in_11 (by decide) ?_
        exact rr_zret hG ho dX3_in_15
  exact h
set_option maxRecDepth 100000 in
set_option maxHeartbeats 4000000 in
theorem c_X3_isDay (l : Launch) (E : bd_E) (hE : bd_ok E 10) (p0 : Int32) (s_ : bd_S) : bd_M bd_Qi l yX3_isDay cX3_isDay 1 (some .boolean) 1 22 E [.int p0] s_ (f_X3_isDay p0 s_) := by
  refine bd_open bd_Qi (by decide +kernel) hE (Nat.le_of_ble_eq_true rfl) (fun G out hG hGE hGl ho => ?_)
  subst hGE
  have hG : bd_OK G cX3_isDay 1 RX3 10 1 22 (some .boolean) := hG
  have h : bd_WF G out (f_X3_isDay p0 s_) s_ 0 [(0, .int p0)] [] := by
    unfold f_X3_isDay
    refine rr_iload_n hG dX3_isDay_0 rfl 0 rfl ?_
    refine rr_iconst (v := 0) hG dX3_isDay_1 (by decide) ?_
    refine rr_bipush (v := 19) hG dX3_isDay_2 (by decide) ?_
    refine rr_cSi hG [.int p0, .int 0, .int 19] (c_X3_in (g_l G) (g_E G) (hG.hE.mono (by decide)) p0 0 19 s_) lk_X3_111 sm_X3_in (Nat.le_of_ble_eq_true rfl) (Nat.le_of_ble_eq_true rfl) rfl rfl (Nat.le_of_ble_eq_true rfl) dX3_isDay_4 (fun z4 s4 => ?_)
    exact rr_zret hG ho dX3_isDay_7
  exact h
set_option maxRecDepth 100000 in
set_option maxHeartbeats 4000000 in
theorem c_X3_isEnd (l : Launch) (E : bd_E) (hE : bd_ok E 10) (p0 : Int32) (s_ : bd_S) : bd_M bd_Qi l yX3_isEnd cX3_isEnd 1 (some .boolean) 1 22 E [.int p0] s_ (f_X3_isEnd p0 s_) := by
  refine bd_open bd_Qi (by decide +kernel) hE (Nat.le_of_ble_eq_true rfl) (fun G out hG hGE hGl ho => ?_)
  subst hGE
  have hG : bd_OK G cX3_isEnd 1 RX3 10 1 22 (some .boolean) := hG
  have h : bd_WF G out (f_X3_isEnd p0 s_) s_ 0 [(0, .int p0)] [] := by
    unfold f_X3_isEnd
    refine rr_iload_n hG dX3_isEnd_0 rfl 0 rfl ?_
    refine rr_iconst (v := 0) hG dX3_isEnd_1 (by decide) ?_
    refine rr_iconst (v := 1) hG dX3_isEnd_2 (by decide) ?_
    refine rr_cSi hG [.int p0, .int 0, .int 1] (c_X3_in (g_l G) (g_E G) (hG.hE.mono (by decide)) p0 0 1 s_) lk_X3_111 sm_X3_in (Nat.le_of_ble_eq_true rfl) (Nat.le_of_ble_eq_true rfl) rfl rfl (Nat.le_of_ble_eq_true rfl) dX3_isEnd_3 (fun z3 s3 => ?_)
    exact rr_zret hG ho dX3_isEnd_6
  exact h
set_option maxRecDepth 100000 in
set_option maxHeartbeats 4000000 in
theorem c_X3_isShip (l : Launch) (E : bd_E) (hE : bd_ok E 85) (p1 : Int32) (s_ : bd_S) : bd_M bd_Qi l yX3_isShip cX3_isShip 2 (some .boolean) 1 22 E [.ref (bd_ad E 55), .int p1] s_ (f_X3_isShip p1 s_) := by
  refine bd_open bd_Qi (by decide +kernel) hE (Nat.le_of_ble_eq_true rfl) (fun G out hG hGE hGl ho => ?_)
  subst hGE
  have hG : bd_OK G cX3_isShip 2 RX3 85 1 22 (some .boolean) := hG
  have h : bd_WF G out (f_X3_isShip p1 s_) s_ 0 [(0, .ref (bd_ad (g_E G) 55)), (1, .int p1)] [] := by
    unfold f_X3_isShip
    refine rr_iload_n hG dX3_isShip_0 rfl 1 rfl ?_
    refine rr_iconst (v := 0) hG dX3_isShip_1 (by decide) ?_
    refine rr_aload_n hG dX3_isShip_2 rfl 0 rfl ?_
    refine gf_X3_115 hG (by decide) dX3_isShip_3 (fun z3 => ?_)
    refine rr_iconst (v := 1) hG dX3_isShip_6 (by decide) ?_
    refine rr_isub hG dX3_isShip_7 (fun z7 => ?_)
    refine rr_cSi hG [.int p1, .int 0, .int z7] (c_X3_in (g_l G) (g_E G) (hG.hE.mono (by decide)) p1 0 z7 s_) lk_X3_111 sm_X3_in (Nat.le_of_ble_eq_true rfl) (Nat.le_of_ble_eq_true rfl) rfl rfl (Nat.le_of_ble_eq_true rfl) dX3_isShip_8 (fun z8 s8 => ?_)
    exact rr_zret hG ho dX3_isShip_11
  exact h
set_option maxRecDepth 100000 in
set_option maxHeartbeats 4000000 in
theorem c_X3_isClock (l : Launch) (E : bd_E) (hE : bd_ok E 10) (p0 : Int32) (s_ : bd_S) : bd_M bd_Qi l yX3_isClock cX3_isClock 1 (some .boolean) 1 22 E [.int p0] s_ (f_X3_isClock p0 s_) := by
  refine bd_open bd_Qi (by decide +kernel) hE (Nat.le_of_ble_eq_true rfl) (fun G out hG hGE hGl ho => ?_)
  subst hGE
  have hG : bd_OK G cX3_isClock 1 RX3 10 1 22 (some .boolean) := hG
  have h : bd_WF G out (f_X3_isClock p0 s_) s_ 0 [(0, .int p0)] [] := by
    unfold f_X3_isClock
    refine rr_iload_n hG dX3_isClock_0 rfl 0 rfl ?_
    refine rr_iconst (v := 0) hG dX3_isClock_1 (by decide) ?_
    refine rr_iconst (v := 2) hG dX3_isClock_2 (by decide) ?_
    refine rr_cSi hG [.int p0, .int 0, .int 2] (c_X3_in (g_l G) (g_E G) (hG.hE.mono (by decide)) p0 0 2 s_) lk_X3_111 sm_X3_in (Nat.le_of_ble_eq_true rfl) (Nat.le_of_ble_eq_true rfl) rfl rfl (Nat.le_of_ble_eq_true rfl) dX3_isClock_3 (fun z3 s3 => ?_)
    exact rr_zret hG ho dX3_isClock_6
  exact h
set_option maxRecDepth 100000 in
set_option maxHeartbeats 4000000 in
theorem c_X3_down (l : Launch) (E : bd_E) (hE : bd_ok E 10) (p0 : Int32) (p1 : Int32) (s_ : bd_S) : bd_M bd_Qi l yX3_down cX3_down 3 (some .int) 0 0 E [.int p0, .int p1] s_ (f_X3_down p0 p1 s_) := by
  refine bd_open bd_Qi (by decide +kernel) hE (Nat.le_of_ble_eq_true rfl) (fun G out hG hGE hGl ho => ?_)
  subst hGE
  have hG : bd_OK G cX3_down 3 RX3 10 0 0 (some .int) := hG
  have h : bd_WF G out (f_X3_down p0 p1 s_) s_ 0 [(0, .int p0), (1, .int p1)] [] := by
    unfold f_X3_down
    refine rr_iload_n hG dX3_down_0 rfl 0 rfl ?_
    refine rr_iload_n hG dX3_down_1 rfl 1 rfl ?_
    refine rr_idiv hG dX3_down_2 (fun z2 => ?_)
    refine rr_istore_n (lr := [(0, .int p0), (1, .int p1)]) hG dX3_down_3 rfl (by decide) rfl ?_
    refine rr_iload_n hG dX3_down_4 rfl 0 rfl ?_
    refine rr_iload_n hG dX3_down_5 rfl 2 rfl ?_
    refine rr_imul hG dX3_down_6 (fun z6 => ?_)
    refine rr_iload_n hG dX3_down_7 rfl 1 rfl ?_
    refine rr_icmp_le hG 17 dX3_down_8 (by decide) ?_ ?_
    · refine rr_iload_n hG dX3_down_17 rfl 0 rfl ?_
      exact rr_iret hG ho dX3_down_18
    · refine rr_iload_n hG dX3_down_11 rfl 0 rfl ?_
      refine rr_iconst (v := 1) hG dX3_down_12 (by decide) ?_
      refine rr_isub hG dX3_down_13 (fun z13 => ?_)
      refine rr_goto (tgt := 18) hG dX3_down_14 (by decide) ?_
      exact rr_iret hG ho dX3_down_18
  exact h
set_option maxRecDepth 100000 in
set_option maxHeartbeats 4000000 in
theorem c_X3_up (l : Launch) (E : bd_E) (hE : bd_ok E 10) (p0 : Int32) (p1 : Int32) (s_ : bd_S) : bd_M bd_Qi l yX3_up cX3_up 2 (some .int) 1 22 E [.int p0, .int p1] s_ (f_X3_up p0 p1 s_) := by
  refine bd_open bd_Qi (by decide +kernel) hE (Nat.le_of_ble_eq_true rfl) (fun G out hG hGE hGl ho => ?_)
  subst hGE
  have hG : bd_OK G cX3_up 2 RX3 10 1 22 (some .int) := hG
  have h : bd_WF G out (f_X3_up p0 p1 s_) s_ 0 [(0, .int p0), (1, .int p1)] [] := by
    unfold f_X3_up
    refine rr_iload_n hG dX3_up_0 rfl 0 rfl ?_
    refine rr_ineg hG dX3_up_1 (fun z1 => ?_)
    refine rr_iload_n hG dX3_up_2 rfl 1 rfl ?_
    refine rr_cSi hG [.int z1, .int p1] (c_X3_down (g_l G) (g_E G) (hG.hE.mono (by decide)) z1 p1 s_) lk_X3_118 sm_X3_down (Nat.le_of_ble_eq_true rfl) (Nat.le_of_ble_eq_true rfl) rfl rfl (Nat.le_of_ble_eq_true rfl) dX3_up_3 (fun z3 s3 => ?_)
    refine rr_ineg hG dX3_up_6 (fun z6 => ?_)
    exact rr_iret hG ho dX3_up_7
  exact h
set_option maxRecDepth 100000 in
set_option maxHeartbeats 4000000 in
theorem b_X3_within_22 {G : bd_G} {out : Unit × bd_S} (hG : bd_OK G cX3_within 4 RX3 85 0 0 none) (ho : bd_ends bd_Qv G out) (x1 : Int32) (x3 : Int32) (s_ : bd_S) : bd_WF G out (f_X3_within_22 x1 x3 s_) s_ 22 [(0, .ref (bd_ad (g_E G) 55)), (1, .int x1), (3, .int x3)] [] := by
  unfold f_X3_within_22
  refine rr_iload_n hG dX3_within_22 rfl 2 rfl ?_
  refine rr_aload_n hG dX3_within_23 rfl 0 rfl ?_
  refine gf_X3_87 hG (by decide) dX3_within_24 ?_
  refine rr_iload_n hG dX3_within_27 rfl 1 rfl ?_
  refine rr_iald hG rfl (by decide) dX3_within_28 (fun z28 => ?_)
  refine rr_icmp_ge hG 44 dX3_within_29 (by decide) ?_ ?_
  · exact rr_vret hG ho dX3_within_44
  · refine rr_aload_n hG dX3_within_32 rfl 0 rfl ?_
    refine gf_X3_87 hG (by decide) dX3_within_33 ?_
    refine rr_iload_n hG dX3_within_36 rfl 1 rfl ?_
    refine rr_iload_n hG dX3_within_37 rfl 2 rfl ?_
    refine rr_iast hG rfl (by decide) dX3_within_38 (fun s38 => ?_)
    refine rr_aload_n hG dX3_within_39 rfl 0 rfl ?_
    refine rr_iconst (v := 1) hG dX3_within_40 (by decide) ?_
    refine pf_X3_122 hG rfl rfl (by decide) dX3_within_41 (fun s41 => ?_)
    exact rr_vret hG ho dX3_within_44
set_option maxRecDepth 100000 in
set_option maxHeartbeats 4000000 in
theorem c_X3_within (l : Launch) (E : bd_E) (hE : bd_ok E 85) (p1 : Int32) (p2 : Int32) (p3 : Int32) (s_ : bd_S) : bd_M bd_Qv l yX3_within cX3_within 4 none 0 0 E [.ref (bd_ad E 55), .int p1, .int p2, .int p3] s_ (f_X3_within p1 p2 p3 s_) := by
  refine bd_open bd_Qv (by decide +kernel) hE (Nat.le_of_ble_eq_true rfl) (fun G out hG hGE hGl ho => ?_)
  subst hGE
  have hG : bd_OK G cX3_within 4 RX3 85 0 0 none := hG
  have h : bd_WF G out (f_X3_within p1 p2 p3 s_) s_ 0 [(0, .ref (bd_ad (g_E G) 55)), (1, .int p1), (2, .int p2), (3, .int p3)] [] := by
    unfold f_X3_within
    refine rr_iload_n hG dX3_within_0 rfl 2 rfl ?_
    refine rr_aload_n hG dX3_within_1 rfl 0 rfl ?_
    refine gf_X3_84 hG (by decide) dX3_within_2 ?_
    refine rr_iload_n hG dX3_within_5 rfl 1 rfl ?_
    refine rr_iald hG rfl (by decide) dX3_within_6 (fun z6 => ?_)
    refine rr_icmp_le hG 22 dX3_within_7 (by decide) ?_ ?_
    · exact rr_sub [0, 1, 3] rfl (b_X3_within_22 hG ho p1 p3 s_)
    · refine rr_aload_n hG dX3_within_10 rfl 0 rfl ?_
      refine gf_X3_84 hG (by decide) dX3_within_11 ?_
      refine rr_iload_n hG dX3_within_14 rfl 1 rfl ?_
      refine rr_iload_n hG dX3_within_15 rfl 2 rfl ?_
      refine rr_iast hG rfl (by decide) dX3_within_16 (fun s16 => ?_)
      refine rr_aload_n hG dX3_within_17 rfl 0 rfl ?_
      refine rr_iconst (v := 1) hG dX3_within_18 (by decide) ?_
      refine pf_X3_122 hG rfl rfl (by decide) dX3_within_19 (fun s19 => ?_)
      exact rr_sub [0, 1, 3] rfl (b_X3_within_22 hG ho p1 p3 s19)
  exact h
set_option maxRecDepth 100000 in
set_option maxHeartbeats 4000000 in
theorem b_X3_isLeft_2 {G : bd_G} {out : Int32 × bd_S} (hG : bd_OK G cX3_isLeft 2 RX3 85 0 0 (some .boolean)) (ho : bd_ends bd_Qi G out) : ∀ (n_ : Nat) (x1 : Int32) (s_ : bd_S), bd_WF G out (f_X3_isLeft_2 n_ x1 s_) s_ 2 [(1, .int x1), (0, .ref (bd_ad (g_E G) 55))] [] := by
  intro n_
  induction n_ with
  | zero => intros; intro hF; cases hF
  | succ n_ ih =>
    intro x1 s_
    rw [f_X3_isLeft_2]
    refine rr_iload_n hG dX3_isLeft_2 rfl 0 rfl ?_
    refine rr_bipush (v := 21) hG dX3_isLeft_3 (by decide) ?_
    refine rr_icmp_ge hG 31 dX3_isLeft_5 (by decide) ?_ ?_
    · refine rr_iconst (v := 1) hG dX3_isLeft_31 (by decide) ?_
      exact rr_zret hG ho dX3_isLeft_32
    · refine rr_aload_n hG dX3_isLeft_8 rfl 1 rfl ?_
      refine gf_X3_84 hG (by decide) dX3_isLeft_9 ?_
      refine rr_iload_n hG dX3_isLeft_12 rfl 0 rfl ?_
      refine rr_iald hG rfl (by decide) dX3_isLeft_13 (fun z13 => ?_)
      refine rr_aload_n hG dX3_isLeft_14 rfl 1 rfl ?_
      refine gf_X3_87 hG (by decide) dX3_isLeft_15 ?_
      refine rr_iload_n hG dX3_isLeft_18 rfl 0 rfl ?_
      refine rr_iald hG rfl (by decide) dX3_isLeft_19 (fun z19 => ?_)
      refine rr_icmp_le hG 25 dX3_isLeft_20 (by decide) ?_ ?_
      · refine rr_iinc (v := 1) (lr := [(0, .ref (bd_ad (g_E G) 55))]) hG dX3_isLeft_25 0 rfl (by decide) (by decide) rfl (fun z25 => ?_)
        refine rr_goto (tgt := 2) hG dX3_isLeft_28 (by decide) ?_
        exact ih z25 s_
      · refine rr_iconst (v := 0) hG dX3_isLeft_23 (by decide) ?_
        exact rr_zret hG ho dX3_isLeft_24
set_option maxRecDepth 100000 in
set_option maxHeartbeats 4000000 in
theorem c_X3_isLeft (l : Launch) (E : bd_E) (hE : bd_ok E 85) (s_ : bd_S) : bd_M bd_Qi l yX3_isLeft cX3_isLeft 2 (some .boolean) 0 0 E [.ref (bd_ad E 55)] s_ (f_X3_isLeft s_) := by
  refine bd_open bd_Qi (by decide +kernel) hE (Nat.le_of_ble_eq_true rfl) (fun G out hG hGE hGl ho => ?_)
  subst hGE
  have hG : bd_OK G cX3_isLeft 2 RX3 85 0 0 (some .boolean) := hG
  have h : bd_WF G out (f_X3_isLeft  s_) s_ 0 [(0, .ref (bd_ad (g_E G) 55))] [] := by
    unfold f_X3_isLeft
    refine rr_iconst (v := 0) hG dX3_isLeft_0 (by decide) ?_
    refine rr_istore_n (lr := [(0, .ref (bd_ad (g_E G) 55))]) hG dX3_isLeft_1 rfl (by decide) rfl ?_
    exact (b_X3_isLeft_2 hG ho FU_ 0 s_)
  exact h
