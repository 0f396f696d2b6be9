set_option maxRecDepth 100000 in
set_option maxHeartbeats 4000000 in
theorem c_X2_leastMiles (l : Launch) (E : bd_E) (hE : bd_ok E 55) (p1 : Int32) (p2 : Int32) (s_ : bd_S) : bd_M bd_Qi l yX2_leastMiles cX2_leastMiles 3 (some .int) 1 22 E [.ref (bd_ad E 0), .int p1, .int p2] s_ (f_X2_leastMiles p1 p2 s_) := by
  refine bd_open bd_Qi (by decide +kernel) hE (Nat.le_of_ble_eq_true rfl) (fun G out hG hGE hGl ho => ?_)
  subst hGE
  have hG : bd_OK G cX2_leastMiles 3 RX2 55 1 22 (some .int) := hG
  have h : bd_WF G out (f_X2_leastMiles p1 p2 s_) s_ 0 [(0, .ref (bd_ad (g_E G) 0)), (1, .int p1), (2, .int p2)] [] := by
    unfold f_X2_leastMiles
    refine rr_iload_n hG dX2_leastMiles_0 rfl 1 rfl ?_
    refine rr_aload_n hG dX2_leastMiles_1 rfl 0 rfl ?_
    refine gf_X2_19 hG (by decide) dX2_leastMiles_2 ?_
    refine gf_X2_99 bd_c7 hG (by decide) dX2_leastMiles_5 ?_
    refine rr_iload_n hG dX2_leastMiles_8 rfl 2 rfl ?_
    refine rr_iald hG rfl (by decide) dX2_leastMiles_9 (fun z9 => ?_)
    refine rr_isub hG dX2_leastMiles_10 (fun z10 => ?_)
    refine rr_iconst (v := 4) hG dX2_leastMiles_11 (by decide) ?_
    refine rr_cSi hG [.int z10, .int 4] (c_J9_floorDiv_7cf53 (g_l G) (g_E G) (hG.hE.mono (by decide)) z10 4 s_) lk_X2_218 sm_J9_floorDiv_7cf53 (Nat.le_of_ble_eq_true rfl) (Nat.le_of_ble_eq_true rfl) rfl rfl (Nat.le_of_ble_eq_true rfl) dX2_leastMiles_12 (fun z12 s12 => ?_)
    exact rr_iret hG ho dX2_leastMiles_15
  exact h
set_option maxRecDepth 100000 in
set_option maxHeartbeats 4000000 in
theorem c_X2_place (l : Launch) (E : bd_E) (hE : bd_ok E 55) (p1 : Int32) (p2 : Int32) (p3 : Int32) (p4 : Int32) (p5 : Int32) (s_ : bd_S) : bd_M bd_Qi l yX2_place cX2_place 6 (some .int) 6 139 E [.ref (bd_ad E 0), .int p1, .int p2, .int p3, .int p4, .int p5] s_ (f_X2_place p1 p2 p3 p4 p5 s_) := by
  refine bd_open bd_Qi (by decide +kernel) hE (Nat.le_of_ble_eq_true rfl) (fun G out hG hGE hGl ho => ?_)
  subst hGE
  have hG : bd_OK G cX2_place 6 RX2 55 6 139 (some .int) := hG
  have h : bd_WF G out (f_X2_place p1 p2 p3 p4 p5 s_) s_ 0 [(0, .ref (bd_ad (g_E G) 0)), (1, .int p1), (2, .int p2), (3, .int p3), (4, .int p4), (5, .int p5)] [] := by
    unfold f_X2_place
    refine rr_aload_n hG dX2_place_0 rfl 0 rfl ?_
    refine rr_iload_n hG dX2_place_1 rfl 1 rfl ?_
    refine rr_iload_n hG dX2_place_2 rfl 2 rfl ?_
    refine rr_cVi hG [.int p1, .int p2] (c_X2_noClock (g_l G) (g_E G) (hG.hE.mono (by decide)) p1 p2 s_) lk_X2_129 im_X2_noClock se_X2_noClock rfl (by decide) (by decide) rfl rfl (Nat.le_of_ble_eq_true rfl) (Nat.le_of_ble_eq_true rfl) rfl rfl (Nat.le_of_ble_eq_true rfl) dX2_place_3 (fun z3 s3 => ?_)
    refine rr_if_ne hG 16 dX2_place_6 (by decide) ?_ ?_
    · refine rr_ldc (v := (-100000001)) hG kc_X2_91 dX2_place_16 ?_
      exact rr_iret hG ho dX2_place_18
    · refine rr_iload_n hG dX2_place_9 rfl 3 rfl ?_
      refine rr_cSi hG [.int p3] (c_X2_noDay (g_l G) (g_E G) (hG.hE.mono (by decide)) p3 s3) lk_X2_64 sm_X2_noDay (Nat.le_of_ble_eq_true rfl) (Nat.le_of_ble_eq_true rfl) rfl rfl (Nat.le_of_ble_eq_true rfl) dX2_place_10 (fun z10 s10 => ?_)
      refine rr_if_eq hG 19 dX2_place_13 (by decide) ?_ ?_
      · refine rr_iload hG dX2_place_19 5 rfl ?_
        refine rr_cSi hG [.int p5] (c_X2_noEnd (g_l G) (g_E G) (hG.hE.mono (by decide)) p5 s10) lk_X2_92 sm_X2_noEnd (Nat.le_of_ble_eq_true rfl) (Nat.le_of_ble_eq_true rfl) rfl rfl (Nat.le_of_ble_eq_true rfl) dX2_place_21 (fun z21 s21 => ?_)
        refine rr_if_ne hG 37 dX2_place_24 (by decide) ?_ ?_
        · refine rr_ldc (v := (-100000002)) hG kc_X2_95 dX2_place_37 ?_
          exact rr_iret hG ho dX2_place_39
        · refine rr_iload hG dX2_place_27 4 rfl ?_
          refine rr_ldc (v := 99999) hG kc_X2_63 dX2_place_29 ?_
          refine rr_cSi hG [.int p4, .int 99999] (c_X2_beyond (g_l G) (g_E G) (hG.hE.mono (by decide)) p4 99999 s21) lk_X2_68 sm_X2_beyond (Nat.le_of_ble_eq_true rfl) (Nat.le_of_ble_eq_true rfl) rfl rfl (Nat.le_of_ble_eq_true rfl) dX2_place_31 (fun z31 s31 => ?_)
          refine rr_if_eq hG 40 dX2_place_34 (by decide) ?_ ?_
          · refine rr_aload_n hG dX2_place_40 rfl 0 rfl ?_
            refine rr_aload_n hG dX2_place_41 rfl 0 rfl ?_
            refine gf_X2_37 hG (by decide) dX2_place_42 ?_
            refine rr_iload_n hG dX2_place_45 rfl 1 rfl ?_
            refine rr_aald hG (by decide) dX2_place_46 (fun S46 hS46 => ?_)
            refine rr_iload_n hG dX2_place_47 rfl 2 rfl ?_
            refine rr_cVi hG [.ref (bd_ad (g_E G) S46), .int p2] (c_X2_learn (g_l G) (g_E G) (hG.hE.mono (by decide)) S46 p2 hS46 s31) lk_X2_157 im_X2_learn se_X2_learn rfl (by decide) (by decide) rfl rfl (Nat.le_of_ble_eq_true rfl) (Nat.le_of_ble_eq_true rfl) rfl rfl (Nat.le_of_ble_eq_true rfl) dX2_place_48 (fun z48 s48 => ?_)
            refine rr_if_ne hG 57 dX2_place_51 (by decide) ?_ ?_
            · refine rr_iload hG dX2_place_57 5 rfl ?_
              refine rr_if_ne hG 72 dX2_place_59 (by decide) ?_ ?_
              · refine rr_aload_n hG dX2_place_72 rfl 0 rfl ?_
                refine rr_iload hG dX2_place_73 4 rfl ?_
                refine rr_iload_n hG dX2_place_75 rfl 3 rfl ?_
                refine rr_cVi hG [.int p4, .int p3] (c_X2_greatestMiles (g_l G) (g_E G) (hG.hE.mono (by decide)) p4 p3 s48) lk_X2_165 im_X2_greatestMiles se_X2_greatestMiles rfl (by decide) (by decide) rfl rfl (Nat.le_of_ble_eq_true rfl) (Nat.le_of_ble_eq_true rfl) rfl rfl (Nat.le_of_ble_eq_true rfl) dX2_place_76 (fun z76 s76 => ?_)
                exact rr_iret hG ho dX2_place_79
              · refine rr_aload_n hG dX2_place_62 rfl 0 rfl ?_
                refine rr_iload hG dX2_place_63 4 rfl ?_
                refine rr_iload_n hG dX2_place_65 rfl 3 rfl ?_
                refine rr_cVi hG [.int p4, .int p3] (c_X2_leastMiles (g_l G) (g_E G) (hG.hE.mono (by decide)) p4 p3 s48) lk_X2_162 im_X2_leastMiles se_X2_leastMiles rfl (by decide) (by decide) rfl rfl (Nat.le_of_ble_eq_true rfl) (Nat.le_of_ble_eq_true rfl) rfl rfl (Nat.le_of_ble_eq_true rfl) dX2_place_66 (fun z66 s66 => ?_)
                refine rr_goto (tgt := 79) hG dX2_place_69 (by decide) ?_
                exact rr_iret hG ho dX2_place_79
            · refine rr_ldc (v := (-100000003)) hG kc_X2_161 dX2_place_54 ?_
              exact rr_iret hG ho dX2_place_56
          · refine rr_ldc (v := (-100000002)) hG kc_X2_95 dX2_place_37 ?_
            exact rr_iret hG ho dX2_place_39
      · refine rr_ldc (v := (-100000001)) hG kc_X2_91 dX2_place_16 ?_
        exact rr_iret hG ho dX2_place_18
  exact h
set_option maxRecDepth 100000 in
set_option maxHeartbeats 4000000 in
theorem c_X2_reads (l : Launch) (E : bd_E) (hE : bd_ok E 55) (p1 : Int32) (p2 : Int32) (p3 : Int32) (p4 : Int32) (p5 : Int32) (s_ : bd_S) : bd_M bd_Qi l yX2_reads cX2_reads 7 (some .int) 1 21 E [.ref (bd_ad E 0), .int p1, .int p2, .int p3, .int p4, .int p5] s_ (f_X2_reads p1 p2 p3 p4 p5 s_) := by
  refine bd_open bd_Qi (by decide +kernel) hE (Nat.le_of_ble_eq_true rfl) (fun G out hG hGE hGl ho => ?_)
  subst hGE
  have hG : bd_OK G cX2_reads 7 RX2 55 1 21 (some .int) := hG
  have h : bd_WF G out (f_X2_reads p1 p2 p3 p4 p5 s_) s_ 0 [(0, .ref (bd_ad (g_E G) 0)), (1, .int p1), (2, .int p2), (3, .int p3), (4, .int p4), (5, .int p5)] [] := by
    unfold f_X2_reads
    refine rr_aload_n hG dX2_reads_0 rfl 0 rfl ?_
    refine rr_iload_n hG dX2_reads_1 rfl 1 rfl ?_
    refine rr_cVi hG [.int p1] (c_X2_noShip (g_l G) (g_E G) (hG.hE.mono (by decide)) p1 s_) lk_X2_142 im_X2_noShip se_X2_noShip rfl (by decide) (by decide) rfl rfl (Nat.le_of_ble_eq_true rfl) (Nat.le_of_ble_eq_true rfl) rfl rfl (Nat.le_of_ble_eq_true rfl) dX2_reads_2 (fun z2 s2 => ?_)
    refine rr_if_ne hG 15 dX2_reads_5 (by decide) ?_ ?_
    · refine rr_iconst (v := (-1)) hG dX2_reads_15 (by decide) ?_
      exact rr_iret hG ho dX2_reads_16
    · refine rr_iload_n hG dX2_reads_8 rfl 2 rfl ?_
      refine rr_cSi hG [.int p2] (c_X2_noDay (g_l G) (g_E G) (hG.hE.mono (by decide)) p2 s2) lk_X2_64 sm_X2_noDay (Nat.le_of_ble_eq_true rfl) (Nat.le_of_ble_eq_true rfl) rfl rfl (Nat.le_of_ble_eq_true rfl) dX2_reads_9 (fun z9 s9 => ?_)
      refine rr_if_eq hG 17 dX2_reads_12 (by decide) ?_ ?_
      · refine rr_iload_n hG dX2_reads_17 rfl 3 rfl ?_
        refine rr_ldc (v := 99999) hG kc_X2_63 dX2_reads_18 ?_
        refine rr_cSi hG [.int p3, .int 99999] (c_X2_beyond (g_l G) (g_E G) (hG.hE.mono (by decide)) p3 99999 s9) lk_X2_68 sm_X2_beyond (Nat.le_of_ble_eq_true rfl) (Nat.le_of_ble_eq_true rfl) rfl rfl (Nat.le_of_ble_eq_true rfl) dX2_reads_20 (fun z20 s20 => ?_)
        refine rr_if_ne hG 46 dX2_reads_23 (by decide) ?_ ?_
        · refine rr_bipush (v := (-2)) hG dX2_reads_46 (by decide) ?_
          exact rr_iret hG ho dX2_reads_48
        · refine rr_iload hG dX2_reads_26 4 rfl ?_
          refine rr_ldc (v := 99999) hG kc_X2_63 dX2_reads_28 ?_
          refine rr_cSi hG [.int p4, .int 99999] (c_X2_beyond (g_l G) (g_E G) (hG.hE.mono (by decide)) p4 99999 s20) lk_X2_68 sm_X2_beyond (Nat.le_of_ble_eq_true rfl) (Nat.le_of_ble_eq_true rfl) rfl rfl (Nat.le_of_ble_eq_true rfl) dX2_reads_30 (fun z30 s30 => ?_)
          refine rr_if_ne hG 46 dX2_reads_33 (by decide) ?_ ?_
          · refine rr_bipush (v := (-2)) hG dX2_reads_46 (by decide) ?_
            exact rr_iret hG ho dX2_reads_48
          · refine rr_iload hG dX2_reads_36 5 rfl ?_
            refine rr_ldc (v := 99999) hG kc_X2_63 dX2_reads_38 ?_
            refine rr_cSi hG [.int p5, .int 99999] (c_X2_beyond (g_l G) (g_E G) (hG.hE.mono (by decide)) p5 99999 s30) lk_X2_68 sm_X2_beyond (Nat.le_of_ble_eq_true rfl) (Nat.le_of_ble_eq_true rfl) rfl rfl (Nat.le_of_ble_eq_true rfl) dX2_reads_40 (fun z40 s40 => ?_)
            refine rr_if_eq hG 49 dX2_reads_43 (by decide) ?_ ?_
            · refine rr_aload_n hG dX2_reads_49 rfl 0 rfl ?_
              refine gf_X2_37 hG (by decide) dX2_reads_50 ?_
              refine rr_iload_n hG dX2_reads_53 rfl 1 rfl ?_
              refine rr_aald hG (by decide) dX2_reads_54 (fun S54 hS54 => ?_)
              refine rr_astore (lr := [(0, .ref (bd_ad (g_E G) 0)), (1, .int p1), (2, .int p2), (3, .int p3), (4, .int p4), (5, .int p5)]) hG dX2_reads_55 (by decide) rfl ?_
              refine rr_aload hG dX2_reads_57 0 rfl ?_
              refine rr_iload_n hG dX2_reads_59 rfl 3 rfl ?_
              refine pf_X2_168 hS54 hG (by decide) dX2_reads_60 (fun s60 => ?_)
              refine rr_aload hG dX2_reads_63 0 rfl ?_
              refine gf_X2_171 hS54 hG (by decide) dX2_reads_65 ?_
              refine rr_iconst (v := 0) hG dX2_reads_68 (by decide) ?_
              refine rr_iload_n hG dX2_reads_69 rfl 4 rfl ?_
              refine rr_iast hG (bd_kS8 hS54) (bd_bS8 hS54 (by decide)) dX2_reads_70 (fun s70 => ?_)
              refine rr_aload hG dX2_reads_71 0 rfl ?_
              refine gf_X2_171 hS54 hG (by decide) dX2_reads_73 ?_
              refine rr_iconst (v := 1) hG dX2_reads_76 (by decide) ?_
              refine rr_iload hG dX2_reads_77 5 rfl ?_
              refine rr_iast hG (bd_kS8 hS54) (bd_bS8 hS54 (by decide)) dX2_reads_79 (fun s79 => ?_)
              refine rr_aload hG dX2_reads_80 0 rfl ?_
              refine gf_X2_171 hS54 hG (by decide) dX2_reads_82 ?_
              refine rr_iconst (v := 2) hG dX2_reads_85 (by decide) ?_
              refine rr_iload hG dX2_reads_86 6 rfl ?_
              refine rr_iast hG (bd_kS8 hS54) (bd_bS8 hS54 (by decide)) dX2_reads_88 (fun s88 => ?_)
              refine rr_iconst (v := 1) hG dX2_reads_89 (by decide) ?_
              exact rr_iret hG ho dX2_reads_90
            · refine rr_bipush (v := (-2)) hG dX2_reads_46 (by decide) ?_
              exact rr_iret hG ho dX2_reads_48
      · refine rr_iconst (v := (-1)) hG dX2_reads_15 (by decide) ?_
        exact rr_iret hG ho dX2_reads_16
  exact h
set_option maxRecDepth 100000 in
set_option maxHeartbeats 4000000 in
theorem b_X2_findPlaces_2 {G : bd_G} {out : Unit × bd_S} (hG : bd_OK G cX2_findPlaces 3 RX2 55 6 139 none) (ho : bd_ends bd_Qv G out) : ∀ (n_ : Nat) (x2 : Int32) (S1 : Nat) (hS1 : bd_isS S1) (s_ : bd_S), bd_WF G out (f_X2_findPlaces_2 n_ x2 S1 s_) s_ 2 [(2, .int x2), (0, .ref (bd_ad (g_E G) 0)), (1, .ref (bd_ad (g_E G) S1))] [] := by
  intro n_
  induction n_ with
  | zero => intros; intro hF; cases hF
  | succ n_ ih =>
    intro x2 S1 hS1 s_
    rw [f_X2_findPlaces_2]
    refine rr_iload_n hG dX2_findPlaces_2 rfl 0 rfl ?_
    refine rr_iconst (v := 3) hG dX2_findPlaces_3 (by decide) ?_
    refine rr_icmp_ge hG 81 dX2_findPlaces_4 (by decide) ?_ ?_
    · exact rr_vret hG ho dX2_findPlaces_81
    · refine rr_aload_n hG dX2_findPlaces_7 rfl 1 rfl ?_
      refine rr_aload_n hG dX2_findPlaces_8 rfl 2 rfl ?_
      refine rr_iload_n hG dX2_findPlaces_9 rfl 0 rfl ?_
      refine rr_cVi hG [.ref (bd_ad (g_E G) S1), .int x2] (c_X2_learn (g_l G) (g_E G) (hG.hE.mono (by decide)) S1 x2 hS1 s_) lk_X2_157 im_X2_learn se_X2_learn rfl (by decide) (by decide) rfl rfl (Nat.le_of_ble_eq_true rfl) (Nat.le_of_ble_eq_true rfl) rfl rfl (Nat.le_of_ble_eq_true rfl) dX2_findPlaces_10 (fun z10 s10 => ?_)
      refine rr_if_eq hG 59 dX2_findPlaces_13 (by decide) ?_ ?_
      · refine rr_aload_n hG dX2_findPlaces_59 rfl 1 rfl ?_
        refine gf_X2_47 hG (by decide) dX2_findPlaces_60 ?_
        refine rr_iload_n hG dX2_findPlaces_63 rfl 0 rfl ?_
        refine rr_ldc (v := 1000000) hG kc_X2_254 dX2_findPlaces_64 ?_
        refine rr_iast hG rfl (by decide) dX2_findPlaces_66 (fun s66 => ?_)
        refine rr_aload_n hG dX2_findPlaces_67 rfl 1 rfl ?_
        refine gf_X2_50 hG (by decide) dX2_findPlaces_68 ?_
        refine rr_iload_n hG dX2_findPlaces_71 rfl 0 rfl ?_
        refine rr_ldc (v := (-1000000)) hG kc_X2_255 dX2_findPlaces_72 ?_
        refine rr_iast hG rfl (by decide) dX2_findPlaces_74 (fun s74 => ?_)
        refine rr_iinc (v := 1) (lr := [(0, .ref (bd_ad (g_E G) 0)), (1, .ref (bd_ad (g_E G) S1))]) hG dX2_findPlaces_75 0 rfl (by decide) (by decide) rfl (fun z75 => ?_)
        refine rr_goto (tgt := 2) hG dX2_findPlaces_78 (by decide) ?_
        exact ih z75 S1 hS1 s74
      · refine rr_aload_n hG dX2_findPlaces_16 rfl 1 rfl ?_
        refine gf_X2_47 hG (by decide) dX2_findPlaces_17 ?_
        refine rr_iload_n hG dX2_findPlaces_20 rfl 0 rfl ?_
        refine rr_aload_n hG dX2_findPlaces_21 rfl 1 rfl ?_
        refine rr_aload_n hG dX2_findPlaces_22 rfl 2 rfl ?_
        refine gf_X2_171 hS1 hG (by decide) dX2_findPlaces_23 ?_
        refine rr_iload_n hG dX2_findPlaces_26 rfl 0 rfl ?_
        refine rr_iald hG (bd_kS8 hS1) (bd_bS8 hS1 (by decide)) dX2_findPlaces_27 (fun z27 => ?_)
        refine rr_aload_n hG dX2_findPlaces_28 rfl 2 rfl ?_
        refine gf_X2_168 hS1 hG (by decide) dX2_findPlaces_29 (fun z29 => ?_)
        refine rr_cVi hG [.int z27, .int z29] (c_X2_leastMiles (g_l G) (g_E G) (hG.hE.mono (by decide)) z27 z29 s10) lk_X2_162 im_X2_leastMiles se_X2_leastMiles rfl (by decide) (by decide) rfl rfl (Nat.le_of_ble_eq_true rfl) (Nat.le_of_ble_eq_true rfl) rfl rfl (Nat.le_of_ble_eq_true rfl) dX2_findPlaces_32 (fun z32 s32 => ?_)
        refine rr_iast hG rfl (by decide) dX2_findPlaces_35 (fun s35 => ?_)
        refine rr_aload_n hG dX2_findPlaces_36 rfl 1 rfl ?_
        refine gf_X2_50 hG (by decide) dX2_findPlaces_37 ?_
        refine rr_iload_n hG dX2_findPlaces_40 rfl 0 rfl ?_
        refine rr_aload_n hG dX2_findPlaces_41 rfl 1 rfl ?_
        refine rr_aload_n hG dX2_findPlaces_42 rfl 2 rfl ?_
        refine gf_X2_171 hS1 hG (by decide) dX2_findPlaces_43 ?_
        refine rr_iload_n hG dX2_findPlaces_46 rfl 0 rfl ?_
        refine rr_iald hG (bd_kS8 hS1) (bd_bS8 hS1 (by decide)) dX2_findPlaces_47 (fun z47 => ?_)
        refine rr_aload_n hG dX2_findPlaces_48 rfl 2 rfl ?_
        refine gf_X2_168 hS1 hG (by decide) dX2_findPlaces_49 (fun z49 => ?_)
        refine rr_cVi hG [.int z47, .int z49] (c_X2_greatestMiles (g_l G) (g_E G) (hG.hE.mono (by decide)) z47 z49 s35) lk_X2_165 im_X2_greatestMiles se_X2_greatestMiles rfl (by decide) (by decide) rfl rfl (Nat.le_of_ble_eq_true rfl) (Nat.le_of_ble_eq_true rfl) rfl rfl (Nat.le_of_ble_eq_true rfl) dX2_findPlaces_52 (fun z52 s52 => ?_)
        refine rr_iast hG rfl (by decide) dX2_findPlaces_55 (fun s55 => ?_)
        refine rr_goto (tgt := 75) hG dX2_findPlaces_56 (by decide) ?_
        refine rr_iinc (v := 1) (lr := [(0, .ref (bd_ad (g_E G) 0)), (1, .ref (bd_ad (g_E G) S1))]) hG dX2_findPlaces_75 0 rfl (by decide) (by decide) rfl (fun z75 => ?_)
        refine rr_goto (tgt := 2) hG dX2_findPlaces_78 (by decide) ?_
        exact ih z75 S1 hS1 s55
set_option maxRecDepth 100000 in
set_option maxHeartbeats 4000000 in
theorem c_X2_findPlaces (l : Launch) (E : bd_E) (hE : bd_ok E 55) (S1 : Nat) (hS1 : bd_isS S1) (s_ : bd_S) : bd_M bd_Qv l yX2_findPlaces cX2_findPlaces 3 none 6 139 E [.ref (bd_ad E 0), .ref (bd_ad E S1)] s_ (f_X2_findPlaces S1 s_) := by
  refine bd_open bd_Qv (by decide +kernel) hE (Nat.le_of_ble_eq_true rfl) (fun G out hG hGE hGl ho => ?_)
  subst hGE
  have hG : bd_OK G cX2_findPlaces 3 RX2 55 6 139 none := hG
  have h : bd_WF G out (f_X2_findPlaces S1 s_) s_ 0 [(0, .ref (bd_ad (g_E G) 0)), (1, .ref (bd_ad (g_E G) S1))] [] := by
    unfold f_X2_findPlaces
    refine rr_iconst (v := 0) hG dX2_findPlaces_0 (by decide) ?_
    refine rr_istore_n (lr := [(0, .ref (bd_ad (g_E G) 0)), (1, .ref (bd_ad (g_E G) S1))]) hG dX2_findPlaces_1 rfl (by decide) rfl ?_
    exact (b_X2_findPlaces_2 hG ho FU_ 0 S1 hS1 s_)
  exact h
set_option maxRecDepth 100000 in
set_option maxHeartbeats 4000000 in
theorem b_X2_leastShared_5 {G : bd_G} {out : Int32 × bd_S} (hG : bd_OK G cX2_leastShared 4 RX2 55 1 21 (some .int)) (ho : bd_ends bd_Qi G out) : ∀ (n_ : Nat) (x3 : Int32) (x2 : Int32) (x1 : Int32) (s_ : bd_S), bd_WF G out (f_X2_leastShared_5 n_ x3 x2 x1 s_) s_ 5 [(3, .int x3), (2, .int x2), (0, .ref (bd_ad (g_E G) 0)), (1, .int x1)] [] := by
  intro n_
  induction n_ with
  | zero => intros; intro hF; cases hF
  | succ n_ ih =>
    intro x3 x2 x1 s_
    rw [f_X2_leastShared_5]
    refine rr_iload_n hG dX2_leastShared_5 rfl 0 rfl ?_
    refine rr_iconst (v := 3) hG dX2_leastShared_6 (by decide) ?_
    refine rr_icmp_ge hG 36 dX2_leastShared_7 (by decide) ?_ ?_
    · refine rr_iload_n hG dX2_leastShared_36 rfl 1 rfl ?_
      exact rr_iret hG ho dX2_leastShared_37
    · refine rr_iload_n hG dX2_leastShared_10 rfl 3 rfl ?_
      refine rr_iload_n hG dX2_leastShared_11 rfl 0 rfl ?_
      refine rr_cSi hG [.int x1, .int x3] (c_X2_bitOf (g_l G) (g_E G) (hG.hE.mono (by decide)) x1 x3 s_) lk_X2_111 sm_X2_bitOf (Nat.le_of_ble_eq_true rfl) (Nat.le_of_ble_eq_true rfl) rfl rfl (Nat.le_of_ble_eq_true rfl) dX2_leastShared_12 (fun z12 s12 => ?_)
      refine rr_iconst (v := 1) hG dX2_leastShared_15 (by decide) ?_
      refine rr_icmp_ne hG 30 dX2_leastShared_16 (by decide) ?_ ?_
      · refine rr_iinc (v := 1) (lr := [(2, .int x2), (0, .ref (bd_ad (g_E G) 0)), (1, .int x1)]) hG dX2_leastShared_30 0 rfl (by decide) (by decide) rfl (fun z30 => ?_)
        refine rr_goto (tgt := 5) hG dX2_leastShared_33 (by decide) ?_
        exact ih z30 x2 x1 s12
      · refine rr_iload_n hG dX2_leastShared_19 rfl 1 rfl ?_
        refine rr_aload_n hG dX2_leastShared_20 rfl 2 rfl ?_
        refine gf_X2_47 hG (by decide) dX2_leastShared_21 ?_
        refine rr_iload_n hG dX2_leastShared_24 rfl 0 rfl ?_
        refine rr_iald hG rfl (by decide) dX2_leastShared_25 (fun z25 => ?_)
        refine rr_mmax hG mm_X2_210 mt_max1 mt_max2 mt_max3 (Nat.le_of_ble_eq_true rfl) (Nat.le_of_ble_eq_true rfl) dX2_leastShared_26 (fun z26 => ?_)
        refine rr_istore_n (lr := [(3, .int x3), (0, .ref (bd_ad (g_E G) 0)), (1, .int x1)]) hG dX2_leastShared_29 rfl (by decide) rfl ?_
        refine rr_iinc (v := 1) (lr := [(2, .int z26), (0, .ref (bd_ad (g_E G) 0)), (1, .int x1)]) hG dX2_leastShared_30 1 rfl (by decide) (by decide) rfl (fun z30 => ?_)
        refine rr_goto (tgt := 5) hG dX2_leastShared_33 (by decide) ?_
        exact ih z30 z26 x1 s12
set_option maxRecDepth 100000 in
set_option maxHeartbeats 4000000 in
theorem c_X2_leastShared (l : Launch) (E : bd_E) (hE : bd_ok E 55) (p1 : Int32) (s_ : bd_S) : bd_M bd_Qi l yX2_leastShared cX2_leastShared 4 (some .int) 1 21 E [.ref (bd_ad E 0), .int p1] s_ (f_X2_leastShared p1 s_) := by
  refine bd_open bd_Qi (by decide +kernel) hE (Nat.le_of_ble_eq_true rfl) (fun G out hG hGE hGl ho => ?_)
  subst hGE
  have hG : bd_OK G cX2_leastShared 4 RX2 55 1 21 (some .int) := hG
  have h : bd_WF G out (f_X2_leastShared p1 s_) s_ 0 [(0, .ref (bd_ad (g_E G) 0)), (1, .int p1)] [] := by
    unfold f_X2_leastShared
    refine rr_ldc (v := (-1000000)) hG kc_X2_255 dX2_leastShared_0 ?_
    refine rr_istore_n (lr := [(0, .ref (bd_ad (g_E G) 0)), (1, .int p1)]) hG dX2_leastShared_2 rfl (by decide) rfl ?_
    refine rr_iconst (v := 0) hG dX2_leastShared_3 (by decide) ?_
    refine rr_istore_n (lr := [(2, .int (-1000000)), (0, .ref (bd_ad (g_E G) 0)), (1, .int p1)]) hG dX2_leastShared_4 rfl (by decide) rfl ?_
    exact (b_X2_leastShared_5 hG ho FU_ 0 (-1000000) p1 s_)
  exact h
set_option maxRecDepth 100000 in
set_option maxHeartbeats 4000000 in
theorem b_X2_greatestShared_5 {G : bd_G} {out : Int32 × bd_S} (hG : bd_OK G cX2_greatestShared 4 RX2 55 1 21 (some .int)) (ho : bd_ends bd_Qi G out) : ∀ (n_ : Nat) (x3 : Int32) (x2 : Int32) (x1 : Int32) (s_ : bd_S), bd_WF G out (f_X2_greatestShared_5 n_ x3 x2 x1 s_) s_ 5 [(3, .int x3), (2, .int x2), (0, .ref (bd_ad (g_E G) 0)), (1, .int x1)] [] := by
  intro n_
  induction n_ with
  | zero => intros; intro hF; cases hF
  | succ n_ ih =>
    intro x3 x2 x1 s_
    rw [f_X2_greatestShared_5]
    refine rr_iload_n hG dX2_greatestShared_5 rfl 0 rfl ?_
    refine rr_iconst (v := 3) hG dX2_greatestShared_6 (by decide) ?_
    refine rr_icmp_ge hG 36 dX2_greatestShared_7 (by decide) ?_ ?_
    · refine rr_iload_n hG dX2_greatestShared_36 rfl 1 rfl ?_
      exact rr_iret hG ho dX2_greatestShared_37
    · refine rr_iload_n hG dX2_greatestShared_10 rfl 3 rfl ?_
      refine rr_iload_n hG dX2_greatestShared_11 rfl 0 rfl ?_
      refine rr_cSi hG [.int x1, .int x3] (c_X2_bitOf (g_l G) (g_E G) (hG.hE.mono (by decide)) x1 x3 s_) lk_X2_111 sm_X2_bitOf (Nat.le_of_ble_eq_true rfl) (Nat.le_of_ble_eq_true rfl) rfl rfl (Nat.le_of_ble_eq_true rfl) dX2_greatestShared_12 (fun z12 s12 => ?_)
      refine rr_iconst (v := 1) hG dX2_greatestShared_15 (by decide) ?_
      refine rr_icmp_ne hG 30 dX2_greatestShared_16 (by decide) ?_ ?_
      · refine rr_iinc (v := 1) (lr := [(2, .int x2), (0, .ref (bd_ad (g_E G) 0)), (1, .int x1)]) hG dX2_greatestShared_30 0 rfl (by decide) (by decide) rfl (fun z30 => ?_)
        refine rr_goto (tgt := 5) hG dX2_greatestShared_33 (by decide) ?_
        exact ih z30 x2 x1 s12
      · refine rr_iload_n hG dX2_greatestShared_19 rfl 1 rfl ?_
        refine rr_aload_n hG dX2_greatestShared_20 rfl 2 rfl ?_
        refine gf_X2_50 hG (by decide) dX2_greatestShared_21 ?_
        refine rr_iload_n hG dX2_greatestShared_24 rfl 0 rfl ?_
        refine rr_iald hG rfl (by decide) dX2_greatestShared_25 (fun z25 => ?_)
        refine rr_mmin hG mm_X2_215 mt_min1 mt_min2 mt_min3 (Nat.le_of_ble_eq_true rfl) (Nat.le_of_ble_eq_true rfl) dX2_greatestShared_26 (fun z26 => ?_)
        refine rr_istore_n (lr := [(3, .int x3), (0, .ref (bd_ad (g_E G) 0)), (1, .int x1)]) hG dX2_greatestShared_29 rfl (by decide) rfl ?_
        refine rr_iinc (v := 1) (lr := [(2, .int z26), (0, .ref (bd_ad (g_E G) 0)), (1, .int x1)]) hG dX2_greatestShared_30 1 rfl (by decide) (by decide) rfl (fun z30 => ?_)
        refine rr_goto (tgt := 5) hG dX2_greatestShared_33 (by decide) ?_
        exact ih z30 z26 x1 s12
set_option maxRecDepth 100000 in
set_option maxHeartbeats 4000000 in
theorem c_X2_greatestShared (l : Launch) (E : bd_E) (hE : bd_ok E 55) (p1 : Int32) (s_ : bd_S) : bd_M bd_Qi l yX2_greatestShared cX2_greatestShared 4 (some .int) 1 21 E [.ref (bd_ad E 0), .int p1] s_ (f_X2_greatestShared p1 s_) := by
  refine bd_open bd_Qi (by decide +kernel) hE (Nat.le_of_ble_eq_true rfl) (fun G out hG hGE hGl ho => ?_)
  subst hGE
  have hG : bd_OK G cX2_greatestShared 4 RX2 55 1 21 (some .int) := hG
  have h : bd_WF G out (f_X2_greatestShared p1 s_) s_ 0 [(0, .ref (bd_ad (g_E G) 0)), (1, .int p1)] [] := by
    unfold f_X2_greatestShared
    refine rr_ldc (v := 1000000) hG kc_X2_254 dX2_greatestShared_0 ?_
    refine rr_istore_n (lr := [(0, .ref (bd_ad (g_E G) 0)), (1, .int p1)]) hG dX2_greatestShared_2 rfl (by decide) rfl ?_
    refine rr_iconst (v := 0) hG dX2_greatestShared_3 (by decide) ?_
    refine rr_istore_n (lr := [(2, .int 1000000), (0, .ref (bd_ad (g_E G) 0)), (1, .int p1)]) hG dX2_greatestShared_4 rfl (by decide) rfl ?_
    exact (b_X2_greatestShared_5 hG ho FU_ 0 1000000 p1 s_)
  exact h
set_option maxRecDepth 100000 in
set_option maxHeartbeats 4000000 in
theorem b_X2_weigh_20 {G : bd_G} {out : Int32 × bd_S} (hG : bd_OK G cX2_weigh 5 RX2 55 2 44 (some .int)) (ho : bd_ends bd_Qi G out) : ∀ (n_ : Nat) (x4 : Int32) (x3 : Int32) (S1 : Nat) (x2 : Int32) (hS1 : bd_isS S1) (s_ : bd_S), bd_WF G out (f_X2_weigh_20 n_ x4 x3 S1 x2 s_) s_ 20 [(4, .int x4), (3, .int x3), (1, .ref (bd_ad (g_E G) S1)), (2, .int x2)] [] := by
  intro n_
  induction n_ with
  | zero => intros; intro hF; cases hF
  | succ n_ ih =>
    intro x4 x3 S1 x2 hS1 s_
    rw [f_X2_weigh_20]
    refine rr_iload hG dX2_weigh_20 0 rfl ?_
    refine rr_iconst (v := 3) hG dX2_weigh_22 (by decide) ?_
    refine rr_icmp_ge hG 65 dX2_weigh_23 (by decide) ?_ ?_
    · refine rr_iload_n hG dX2_weigh_65 rfl 1 rfl ?_
      exact rr_iret hG ho dX2_weigh_66
    · refine rr_iload_n hG dX2_weigh_26 rfl 1 rfl ?_
      refine rr_iload_n hG dX2_weigh_27 rfl 3 rfl ?_
      refine rr_iload hG dX2_weigh_28 0 rfl ?_
      refine rr_cSi hG [.int x2, .int x4] (c_X2_bitOf (g_l G) (g_E G) (hG.hE.mono (by decide)) x2 x4 s_) lk_X2_111 sm_X2_bitOf (Nat.le_of_ble_eq_true rfl) (Nat.le_of_ble_eq_true rfl) rfl rfl (Nat.le_of_ble_eq_true rfl) dX2_weigh_30 (fun z30 s30 => ?_)
      refine rr_iconst (v := 1) hG dX2_weigh_33 (by decide) ?_
      refine rr_icmp_ne hG 50 dX2_weigh_34 (by decide) ?_ ?_
      · refine rr_aload_n hG dX2_weigh_50 rfl 2 rfl ?_
        refine gf_X2_154 hS1 hG (by decide) dX2_weigh_51 ?_
        refine rr_iload hG dX2_weigh_54 0 rfl ?_
        refine rr_iald hG (bd_kS7 hS1) (bd_bS7 hS1 (by decide)) dX2_weigh_56 (fun z56 => ?_)
        refine rr_imul hG dX2_weigh_57 (fun z57 => ?_)
        refine rr_istore_n (lr := [(4, .int x4), (1, .ref (bd_ad (g_E G) S1)), (2, .int x2)]) hG dX2_weigh_58 rfl (by decide) rfl ?_
        refine rr_iinc (v := 1) (lr := [(3, .int z57), (1, .ref (bd_ad (g_E G) S1)), (2, .int x2)]) hG dX2_weigh_59 1 rfl (by decide) (by decide) rfl (fun z59 => ?_)
        refine rr_goto (tgt := 20) hG dX2_weigh_62 (by decide) ?_
        exact ih z59 z57 S1 x2 hS1 s30
      · refine rr_bipush (v := 10) hG dX2_weigh_37 (by decide) ?_
        refine rr_aload_n hG dX2_weigh_39 rfl 2 rfl ?_
        refine gf_X2_154 hS1 hG (by decide) dX2_weigh_40 ?_
        refine rr_iload hG dX2_weigh_43 0 rfl ?_
        refine rr_iald hG (bd_kS7 hS1) (bd_bS7 hS1 (by decide)) dX2_weigh_45 (fun z45 => ?_)
        refine rr_isub hG dX2_weigh_46 (fun z46 => ?_)
        refine rr_goto (tgt := 57) hG dX2_weigh_47 (by decide) ?_
        refine rr_imul hG dX2_weigh_57 (fun z57 => ?_)
        refine rr_istore_n (lr := [(4, .int x4), (1, .ref (bd_ad (g_E G) S1)), (2, .int x2)]) hG dX2_weigh_58 rfl (by decide) rfl ?_
        refine rr_iinc (v := 1) (lr := [(3, .int z57), (1, .ref (bd_ad (g_E G) S1)), (2, .int x2)]) hG dX2_weigh_59 1 rfl (by decide) (by decide) rfl (fun z59 => ?_)
        refine rr_goto (tgt := 20) hG dX2_weigh_62 (by decide) ?_
        exact ih z59 z57 S1 x2 hS1 s30
set_option maxRecDepth 100000 in
set_option maxHeartbeats 4000000 in
theorem c_X2_weigh (l : Launch) (E : bd_E) (hE : bd_ok E 55) (S1 : Nat) (p2 : Int32) (hS1 : bd_isS S1) (s_ : bd_S) : bd_M bd_Qi l yX2_weigh cX2_weigh 5 (some .int) 2 44 E [.ref (bd_ad E 0), .ref (bd_ad E S1), .int p2] s_ (f_X2_weigh S1 p2 s_) := by
  refine bd_open bd_Qi (by decide +kernel) hE (Nat.le_of_ble_eq_true rfl) (fun G out hG hGE hGl ho => ?_)
  subst hGE
  have hG : bd_OK G cX2_weigh 5 RX2 55 2 44 (some .int) := hG
  have h : bd_WF G out (f_X2_weigh S1 p2 s_) s_ 0 [(0, .ref (bd_ad (g_E G) 0)), (1, .ref (bd_ad (g_E G) S1)), (2, .int p2)] [] := by
    unfold f_X2_weigh
    refine rr_aload_n hG dX2_weigh_0 rfl 0 rfl ?_
    refine rr_iload_n hG dX2_weigh_1 rfl 2 rfl ?_
    refine rr_cVi hG [.int p2] (c_X2_leastShared (g_l G) (g_E G) (hG.hE.mono (by decide)) p2 s_) lk_X2_193 im_X2_leastShared se_X2_leastShared rfl (by decide) (by decide) rfl rfl (Nat.le_of_ble_eq_true rfl) (Nat.le_of_ble_eq_true rfl) rfl rfl (Nat.le_of_ble_eq_true rfl) dX2_weigh_2 (fun z2 s2 => ?_)
    refine rr_aload_n hG dX2_weigh_5 rfl 0 rfl ?_
    refine rr_iload_n hG dX2_weigh_6 rfl 2 rfl ?_
    refine rr_cVi hG [.int p2] (c_X2_greatestShared (g_l G) (g_E G) (hG.hE.mono (by decide)) p2 s2) lk_X2_196 im_X2_greatestShared se_X2_greatestShared rfl (by decide) (by decide) rfl rfl (Nat.le_of_ble_eq_true rfl) (Nat.le_of_ble_eq_true rfl) rfl rfl (Nat.le_of_ble_eq_true rfl) dX2_weigh_7 (fun z7 s7 => ?_)
    refine rr_icmp_le hG 15 dX2_weigh_10 (by decide) ?_ ?_
    · refine rr_iconst (v := 1) hG dX2_weigh_15 (by decide) ?_
      refine rr_istore_n (lr := [(0, .ref (bd_ad (g_E G) 0)), (1, .ref (bd_ad (g_E G) S1)), (2, .int p2)]) hG dX2_weigh_16 rfl (by decide) rfl ?_
      refine rr_iconst (v := 0) hG dX2_weigh_17 (by decide) ?_
      refine rr_istore (lr := [(3, .int 1), (0, .ref (bd_ad (g_E G) 0)), (1, .ref (bd_ad (g_E G) S1)), (2, .int p2)]) hG dX2_weigh_18 (by decide) rfl ?_
      exact rr_sub [0, 1, 3, 4] rfl (b_X2_weigh_20 hG ho FU_ 0 1 S1 p2 hS1 s7)
    · refine rr_iconst (v := 0) hG dX2_weigh_13 (by decide) ?_
      exact rr_iret hG ho dX2_weigh_14
  exact h
set_option maxRecDepth 100000 in
set_option maxHeartbeats 4000000 in
theorem c_X2_weight (l : Launch) (E : bd_E) (hE : bd_ok E 55) (p1 : Int32) (p2 : Int32) (s_ : bd_S) : bd_M bd_Qi l yX2_weight cX2_weight 3 (some .int) 7 161 E [.ref (bd_ad E 0), .int p1, .int p2] s_ (f_X2_weight p1 p2 s_) := by
  refine bd_open bd_Qi (by decide +kernel) hE (Nat.le_of_ble_eq_true rfl) (fun G out hG hGE hGl ho => ?_)
  subst hGE
  have hG : bd_OK G cX2_weight 3 RX2 55 7 161 (some .int) := hG
  have h : bd_WF G out (f_X2_weight p1 p2 s_) s_ 0 [(0, .ref (bd_ad (g_E G) 0)), (1, .int p1), (2, .int p2)] [] := by
    unfold f_X2_weight
    refine rr_aload_n hG dX2_weight_0 rfl 0 rfl ?_
    refine rr_iload_n hG dX2_weight_1 rfl 1 rfl ?_
    refine rr_cVi hG [.int p1] (c_X2_noShip (g_l G) (g_E G) (hG.hE.mono (by decide)) p1 s_) lk_X2_142 im_X2_noShip se_X2_noShip rfl (by decide) (by decide) rfl rfl (Nat.le_of_ble_eq_true rfl) (Nat.le_of_ble_eq_true rfl) rfl rfl (Nat.le_of_ble_eq_true rfl) dX2_weight_2 (fun z2 s2 => ?_)
    refine rr_if_eq hG 10 dX2_weight_5 (by decide) ?_ ?_
    · refine rr_iload_n hG dX2_weight_10 rfl 2 rfl ?_
      refine rr_iconst (v := 0) hG dX2_weight_11 (by decide) ?_
      refine rr_bipush (v := 7) hG dX2_weight_12 (by decide) ?_
      refine rr_cSi hG [.int p2, .int 0, .int 7] (c_X2_outside (g_l G) (g_E G) (hG.hE.mono (by decide)) p2 0 7 s2) lk_X2_87 sm_X2_outside (Nat.le_of_ble_eq_true rfl) (Nat.le_of_ble_eq_true rfl) rfl rfl (Nat.le_of_ble_eq_true rfl) dX2_weight_14 (fun z14 s14 => ?_)
      refine rr_if_eq hG 23 dX2_weight_17 (by decide) ?_ ?_
      · refine rr_aload_n hG dX2_weight_23 rfl 0 rfl ?_
        refine rr_aload_n hG dX2_weight_24 rfl 0 rfl ?_
        refine gf_X2_37 hG (by decide) dX2_weight_25 ?_
        refine rr_iload_n hG dX2_weight_28 rfl 1 rfl ?_
        refine rr_aald hG (by decide) dX2_weight_29 (fun S29 hS29 => ?_)
        refine rr_cVv hG [.ref (bd_ad (g_E G) S29)] (c_X2_findPlaces (g_l G) (g_E G) (hG.hE.mono (by decide)) S29 hS29 s14) lk_X2_174 im_X2_findPlaces se_X2_findPlaces rfl (by decide) (by decide) rfl rfl (Nat.le_of_ble_eq_true rfl) (Nat.le_of_ble_eq_true rfl) rfl rfl (Nat.le_of_ble_eq_true rfl) dX2_weight_30 (fun s30 => ?_)
        refine rr_aload_n hG dX2_weight_33 rfl 0 rfl ?_
        refine rr_aload_n hG dX2_weight_34 rfl 0 rfl ?_
        refine gf_X2_37 hG (by decide) dX2_weight_35 ?_
        refine rr_iload_n hG dX2_weight_38 rfl 1 rfl ?_
        refine rr_aald hG (by decide) dX2_weight_39 (fun S39 hS39 => ?_)
        refine rr_iload_n hG dX2_weight_40 rfl 2 rfl ?_
        refine rr_cVi hG [.ref (bd_ad (g_E G) S39), .int p2] (c_X2_weigh (g_l G) (g_E G) (hG.hE.mono (by decide)) S39 p2 hS39 s30) lk_X2_178 im_X2_weigh se_X2_weigh rfl (by decide) (by decide) rfl rfl (Nat.le_of_ble_eq_true rfl) (Nat.le_of_ble_eq_true rfl) rfl rfl (Nat.le_of_ble_eq_true rfl) dX2_weight_41 (fun z41 s41 => ?_)
        exact rr_iret hG ho dX2_weight_44
      · refine rr_bipush (v := (-2)) hG dX2_weight_20 (by decide) ?_
        exact rr_iret hG ho dX2_weight_22
    · refine rr_iconst (v := (-1)) hG dX2_weight_8 (by decide) ?_
      exact rr_iret hG ho dX2_weight_9
  exact h
set_option maxRecDepth 100000 in
set_option maxHeartbeats 4000000 in
theorem b_X2_greatestDivisor_7 {G : bd_G} {out : Int32 × bd_S} (hG : bd_OK G cX2_greatestDivisor 6 RX2 10 1 21 (some .int)) (ho : bd_ends bd_Qi G out) : ∀ (n_ : Nat) (x4 : Int32) (x3 : Int32) (x2 : Int32) (s_ : bd_S), bd_WF G out (f_X2_greatestDivisor_7 n_ x4 x3 x2 s_) s_ 7 [(4, .int x4), (3, .int x3), (2, .int x2)] [] := by
  intro n_
  induction n_ with
  | zero => intros; intro hF; cases hF
  | succ n_ ih =>
    intro x4 x3 x2 s_
    rw [f_X2_greatestDivisor_7]
    refine rr_iload hG dX2_greatestDivisor_7 0 rfl ?_
    refine rr_bipush (v := 100) hG dX2_greatestDivisor_9 (by decide) ?_
    refine rr_icmp_ge hG 34 dX2_greatestDivisor_11 (by decide) ?_ ?_
    · refine rr_iconst (v := 1) hG dX2_greatestDivisor_34 (by decide) ?_
      refine rr_iload_n hG dX2_greatestDivisor_35 rfl 2 rfl ?_
      refine rr_mmax hG mm_X2_210 mt_max1 mt_max2 mt_max3 (Nat.le_of_ble_eq_true rfl) (Nat.le_of_ble_eq_true rfl) dX2_greatestDivisor_36 (fun z36 => ?_)
      exact rr_iret hG ho dX2_greatestDivisor_39
    · refine rr_iload_n hG dX2_greatestDivisor_14 rfl 1 rfl ?_
      refine rr_if_eq hG 34 dX2_greatestDivisor_15 (by decide) ?_ ?_
      · refine rr_iconst (v := 1) hG dX2_greatestDivisor_34 (by decide) ?_
        refine rr_iload_n hG dX2_greatestDivisor_35 rfl 2 rfl ?_
        refine rr_mmax hG mm_X2_210 mt_max1 mt_max2 mt_max3 (Nat.le_of_ble_eq_true rfl) (Nat.le_of_ble_eq_true rfl) dX2_greatestDivisor_36 (fun z36 => ?_)
        exact rr_iret hG ho dX2_greatestDivisor_39
      · refine rr_iload_n hG dX2_greatestDivisor_18 rfl 2 rfl ?_
        refine rr_iload_n hG dX2_greatestDivisor_19 rfl 1 rfl ?_
        refine rr_irem hG dX2_greatestDivisor_20 (fun z20 => ?_)
        refine rr_istore (lr := [(4, .int x4), (3, .int x3), (2, .int x2)]) hG dX2_greatestDivisor_21 (by decide) rfl ?_
        refine rr_iload_n hG dX2_greatestDivisor_23 rfl 2 rfl ?_
        refine rr_istore_n (lr := [(5, .int z20), (4, .int x4), (3, .int x3)]) hG dX2_greatestDivisor_24 rfl (by decide) rfl ?_
        refine rr_iload hG dX2_greatestDivisor_25 1 rfl ?_
        refine rr_istore_n (lr := [(2, .int x3), (5, .int z20), (4, .int x4)]) hG dX2_greatestDivisor_27 rfl (by decide) rfl ?_
        refine rr_iinc (v := 1) (lr := [(3, .int z20), (2, .int x3), (5, .int z20)]) hG dX2_greatestDivisor_28 3 rfl (by decide) (by decide) rfl (fun z28 => ?_)
        refine rr_goto (tgt := 7) hG dX2_greatestDivisor_31 (by decide) ?_
        exact rr_sub [0, 1, 2] rfl (ih z28 z20 x3 s_)
set_option maxRecDepth 100000 in
set_option maxHeartbeats 4000000 in
theorem c_X2_greatestDivisor (l : Launch) (E : bd_E) (hE : bd_ok E 10) (p0 : Int32) (p1 : Int32) (s_ : bd_S) : bd_M bd_Qi l yX2_greatestDivisor cX2_greatestDivisor 6 (some .int) 1 21 E [.int p0, .int p1] s_ (f_X2_greatestDivisor p0 p1 s_) := by
  refine bd_open bd_Qi (by decide +kernel) hE (Nat.le_of_ble_eq_true rfl) (fun G out hG hGE hGl ho => ?_)
  subst hGE
  have hG : bd_OK G cX2_greatestDivisor 6 RX2 10 1 21 (some .int) := hG
  have h : bd_WF G out (f_X2_greatestDivisor p0 p1 s_) s_ 0 [(0, .int p0), (1, .int p1)] [] := by
    unfold f_X2_greatestDivisor
    refine rr_iload_n hG dX2_greatestDivisor_0 rfl 0 rfl ?_
    refine rr_istore_n (lr := [(0, .int p0), (1, .int p1)]) hG dX2_greatestDivisor_1 rfl (by decide) rfl ?_
    refine rr_iload_n hG dX2_greatestDivisor_2 rfl 2 rfl ?_
    refine rr_istore_n (lr := [(2, .int p0), (0, .int p0), (1, .int p1)]) hG dX2_greatestDivisor_3 rfl (by decide) rfl ?_
    refine rr_iconst (v := 0) hG dX2_greatestDivisor_4 (by decide) ?_
    refine rr_istore (lr := [(3, .int p1), (2, .int p0), (0, .int p0), (1, .int p1)]) hG dX2_greatestDivisor_5 (by decide) rfl ?_
    exact rr_sub [0, 1, 2] rfl (b_X2_greatestDivisor_7 hG ho FU_ 0 p1 p0 s_)
  exact h
set_option maxRecDepth 100000 in
set_option maxHeartbeats 4000000 in
theorem b_X2_odds_64 {G : bd_G} {out : Int64 × bd_S} (hG : bd_OK G cX2_odds 7 RX2 55 7 161 (some .long)) (ho : bd_ends bd_Ql G out) {k94 : Int32 → Int32 → Int32 → bd_S → Option (Int64 × bd_S)} (hk94 : ∀ (x5 : Int32) (x4 : Int32) (x3 : Int32) (s_ : bd_S), bd_WF G out (k94 x5 x4 x3 s_) s_ 94 [(5, .int x5), (4, .int x4), (3, .int x3)] []) : ∀ (n_ : Nat) (x6 : Int32) (x5 : Int32) (x4 : Int32) (x1 : Int32) (x3 : Int32) (s_ : bd_S), bd_WF G out (f_X2_odds_64 k94 n_ x6 x5 x4 x1 x3 s_) s_ 64 [(6, .int x6), (5, .int x5), (4, .int x4), (0, .ref (bd_ad (g_E G) 0)), (1, .int x1), (3, .int x3)] [] := by
  intro n_
  induction n_ with
  | zero => intros; intro hF; cases hF
  | succ n_ ih =>
    intro x6 x5 x4 x1 x3 s_
    rw [f_X2_odds_64]
    refine rr_iload hG dX2_odds_64 0 rfl ?_
    refine rr_bipush (v := 8) hG dX2_odds_66 (by decide) ?_
    refine rr_icmp_ge hG 94 dX2_odds_68 (by decide) ?_ ?_
    · exact rr_sub [1, 2, 5] rfl (hk94 x5 x4 x3 s_)
    · refine rr_iload hG dX2_odds_71 1 rfl ?_
      refine rr_aload_n hG dX2_odds_73 rfl 3 rfl ?_
      refine rr_aload_n hG dX2_odds_74 rfl 3 rfl ?_
      refine gf_X2_37 hG (by decide) dX2_odds_75 ?_
      refine rr_iload_n hG dX2_odds_78 rfl 4 rfl ?_
      refine rr_aald hG (by decide) dX2_odds_79 (fun S79 hS79 => ?_)
      refine rr_iload hG dX2_odds_80 0 rfl ?_
      refine rr_cVi hG [.ref (bd_ad (g_E G) S79), .int x6] (c_X2_weigh (g_l G) (g_E G) (hG.hE.mono (by decide)) S79 x6 hS79 s_) lk_X2_178 im_X2_weigh se_X2_weigh rfl (by decide) (by decide) rfl rfl (Nat.le_of_ble_eq_true rfl) (Nat.le_of_ble_eq_true rfl) rfl rfl (Nat.le_of_ble_eq_true rfl) dX2_odds_82 (fun z82 s82 => ?_)
      refine rr_iadd hG dX2_odds_85 (fun z85 => ?_)
      refine rr_istore (lr := [(6, .int x6), (4, .int x4), (0, .ref (bd_ad (g_E G) 0)), (1, .int x1), (3, .int x3)]) hG dX2_odds_86 (by decide) rfl ?_
      refine rr_iinc (v := 1) (lr := [(5, .int z85), (4, .int x4), (0, .ref (bd_ad (g_E G) 0)), (1, .int x1), (3, .int x3)]) hG dX2_odds_88 1 rfl (by decide) (by decide) rfl (fun z88 => ?_)
      refine rr_goto (tgt := 64) hG dX2_odds_91 (by decide) ?_
      exact ih z88 z85 x4 x1 x3 s82
set_option maxRecDepth 100000 in
set_option maxHeartbeats 4000000 in
theorem c_X2_odds (l : Launch) (E : bd_E) (hE : bd_ok E 55) (p1 : Int32) (p2 : Int32) (p3 : Int32) (s_ : bd_S) : bd_M bd_Ql l yX2_odds cX2_odds 7 (some .long) 7 161 E [.ref (bd_ad E 0), .int p1, .int p2, .int p3] s_ (f_X2_odds p1 p2 p3 s_) := by
  refine bd_open bd_Ql (by decide +kernel) hE (Nat.le_of_ble_eq_true rfl) (fun G out hG hGE hGl ho => ?_)
  subst hGE
  have hG : bd_OK G cX2_odds 7 RX2 55 7 161 (some .long) := hG
  have h : bd_WF G out (f_X2_odds p1 p2 p3 s_) s_ 0 [(0, .ref (bd_ad (g_E G) 0)), (1, .int p1), (2, .int p2), (3, .int p3)] [] := by
    unfold f_X2_odds
    refine rr_aload_n hG dX2_odds_0 rfl 0 rfl ?_
    refine rr_iload_n hG dX2_odds_1 rfl 1 rfl ?_
    refine rr_cVi hG [.int p1] (c_X2_noShip (g_l G) (g_E G) (hG.hE.mono (by decide)) p1 s_) lk_X2_142 im_X2_noShip se_X2_noShip rfl (by decide) (by decide) rfl rfl (Nat.le_of_ble_eq_true rfl) (Nat.le_of_ble_eq_true rfl) rfl rfl (Nat.le_of_ble_eq_true rfl) dX2_odds_2 (fun z2 s2 => ?_)
    refine rr_if_eq hG 12 dX2_odds_5 (by decide) ?_ ?_
    · refine rr_iload_n hG dX2_odds_12 rfl 2 rfl ?_
      refine rr_iconst (v := 0) hG dX2_odds_13 (by decide) ?_
      refine rr_bipush (v := 7) hG dX2_odds_14 (by decide) ?_
      refine rr_cSi hG [.int p2, .int 0, .int 7] (c_X2_outside (g_l G) (g_E G) (hG.hE.mono (by decide)) p2 0 7 s2) lk_X2_87 sm_X2_outside (Nat.le_of_ble_eq_true rfl) (Nat.le_of_ble_eq_true rfl) rfl rfl (Nat.le_of_ble_eq_true rfl) dX2_odds_16 (fun z16 s16 => ?_)
      refine rr_if_ne hG 31 dX2_odds_19 (by decide) ?_ ?_
      · refine rr_ldc2 (v := (-1000000000000000002)) hG kl_X2_184 dX2_odds_31 ?_
        exact rr_lret hG ho dX2_odds_34
      · refine rr_iload_n hG dX2_odds_22 rfl 3 rfl ?_
        refine rr_iconst (v := 0) hG dX2_odds_23 (by decide) ?_
        refine rr_iconst (v := 1) hG dX2_odds_24 (by decide) ?_
        refine rr_cSi hG [.int p3, .int 0, .int 1] (c_X2_outside (g_l G) (g_E G) (hG.hE.mono (by decide)) p3 0 1 s16) lk_X2_87 sm_X2_outside (Nat.le_of_ble_eq_true rfl) (Nat.le_of_ble_eq_true rfl) rfl rfl (Nat.le_of_ble_eq_true rfl) dX2_odds_25 (fun z25 s25 => ?_)
        refine rr_if_eq hG 35 dX2_odds_28 (by decide) ?_ ?_
        · refine rr_aload_n hG dX2_odds_35 rfl 0 rfl ?_
          refine rr_aload_n hG dX2_odds_36 rfl 0 rfl ?_
          refine gf_X2_37 hG (by decide) dX2_odds_37 ?_
          refine rr_iload_n hG dX2_odds_40 rfl 1 rfl ?_
          refine rr_aald hG (by decide) dX2_odds_41 (fun S41 hS41 => ?_)
          refine rr_cVv hG [.ref (bd_ad (g_E G) S41)] (c_X2_findPlaces (g_l G) (g_E G) (hG.hE.mono (by decide)) S41 hS41 s25) lk_X2_174 im_X2_findPlaces se_X2_findPlaces rfl (by decide) (by decide) rfl rfl (Nat.le_of_ble_eq_true rfl) (Nat.le_of_ble_eq_true rfl) rfl rfl (Nat.le_of_ble_eq_true rfl) dX2_odds_42 (fun s42 => ?_)
          refine rr_aload_n hG dX2_odds_45 rfl 0 rfl ?_
          refine rr_aload_n hG dX2_odds_46 rfl 0 rfl ?_
          refine gf_X2_37 hG (by decide) dX2_odds_47 ?_
          refine rr_iload_n hG dX2_odds_50 rfl 1 rfl ?_
          refine rr_aald hG (by decide) dX2_odds_51 (fun S51 hS51 => ?_)
          refine rr_iload_n hG dX2_odds_52 rfl 2 rfl ?_
          refine rr_cVi hG [.ref (bd_ad (g_E G) S51), .int p2] (c_X2_weigh (g_l G) (g_E G) (hG.hE.mono (by decide)) S51 p2 hS51 s42) lk_X2_178 im_X2_weigh se_X2_weigh rfl (by decide) (by decide) rfl rfl (Nat.le_of_ble_eq_true rfl) (Nat.le_of_ble_eq_true rfl) rfl rfl (Nat.le_of_ble_eq_true rfl) dX2_odds_53 (fun z53 s53 => ?_)
          refine rr_istore (lr := [(0, .ref (bd_ad (g_E G) 0)), (1, .int p1), (2, .int p2), (3, .int p3)]) hG dX2_odds_56 (by decide) rfl ?_
          refine rr_iconst (v := 0) hG dX2_odds_58 (by decide) ?_
          refine rr_istore (lr := [(4, .int z53), (0, .ref (bd_ad (g_E G) 0)), (1, .int p1), (2, .int p2), (3, .int p3)]) hG dX2_odds_59 (by decide) rfl ?_
          refine rr_iconst (v := 0) hG dX2_odds_61 (by decide) ?_
          refine rr_istore (lr := [(5, .int 0), (4, .int z53), (0, .ref (bd_ad (g_E G) 0)), (1, .int p1), (2, .int p2), (3, .int p3)]) hG dX2_odds_62 (by decide) rfl ?_
          refine rr_sub [0, 1, 2, 3, 4, 6] rfl (b_X2_odds_64 hG ho (fun x5e x4e x3e e94 => ?_) FU_ 0 0 z53 p1 p3 s53)
          · refine rr_iload hG dX2_odds_94 1 rfl ?_
            refine rr_iload hG dX2_odds_96 0 rfl ?_
            refine rr_cSi hG [.int x4e, .int x5e] (c_X2_greatestDivisor (g_l G) (g_E G) (hG.hE.mono (by decide)) x4e x5e e94) lk_X2_186 sm_X2_greatestDivisor (Nat.le_of_ble_eq_true rfl) (Nat.le_of_ble_eq_true rfl) rfl rfl (Nat.le_of_ble_eq_true rfl) dX2_odds_98 (fun z98 s98 => ?_)
            refine rr_istore (lr := [(5, .int x5e), (4, .int x4e), (3, .int x3e)]) hG dX2_odds_101 (by decide) rfl ?_
            refine rr_iload_n hG dX2_odds_103 rfl 3 rfl ?_
            refine rr_if_ne hG 116 dX2_odds_104 (by decide) ?_ ?_
            · refine rr_iload hG dX2_odds_116 1 rfl ?_
              refine rr_iload hG dX2_odds_118 0 rfl ?_
              refine rr_idiv hG dX2_odds_120 (fun z120 => ?_)
              refine rr_i2l hG dX2_odds_121 (fun z121 => ?_)
              exact rr_lret hG ho dX2_odds_122
            · refine rr_iload hG dX2_odds_107 2 rfl ?_
              refine rr_iload hG dX2_odds_109 0 rfl ?_
              refine rr_idiv hG dX2_odds_111 (fun z111 => ?_)
              refine rr_i2l hG dX2_odds_112 (fun z112 => ?_)
              refine rr_goto (tgt := 122) hG dX2_odds_113 (by decide) ?_
              exact rr_lret hG ho dX2_odds_122
        · refine rr_ldc2 (v := (-1000000000000000002)) hG kl_X2_184 dX2_odds_31 ?_
          exact rr_lret hG ho dX2_odds_34
    · refine rr_ldc2 (v := (-1000000000000000001)) hG kl_X2_182 dX2_odds_8 ?_
      exact rr_lret hG ho dX2_odds_11
  exact h
set_option maxRecDepth 100000 in
set_option maxHeartbeats 4000000 in
theorem c_J6_bitCount_0f7a4 (l : Launch) (E : bd_E) (hE : bd_ok E 10) (p0 : Int32) (s_ : bd_S) : bd_M bd_Qi l yJ6_bitCount_0f7a4 cJ6_bitCount_0f7a4 1 (some .int) 0 0 E [.int p0] s_ (f_J6_bitCount_0f7a4 p0 s_) := by
  refine bd_open bd_Qi (by decide +kernel) hE (Nat.le_of_ble_eq_true rfl) (fun G out hG hGE hGl ho => ?_)
  subst hGE
  have hG : bd_OK G cJ6_bitCount_0f7a4 1 RJ6 10 0 0 (some .int) := hG
  have h : bd_WF G out (f_J6_bitCount_0f7a4 p0 s_) s_ 0 [(0, .int p0)] [] := by
    unfold f_J6_bitCount_0f7a4
    refine rr_iload_n hG dJ6_bitCount_0f7a4_0 rfl 0 rfl ?_
    refine rr_iload_n hG dJ6_bitCount_0f7a4_1 rfl 0 rfl ?_
    refine rr_iconst (v := 1) hG dJ6_bitCount_0f7a4_2 (by decide) ?_
    refine rr_iushr hG dJ6_bitCount_0f7a4_3 (fun z3 => ?_)
    refine rr_ldcw (v := 1431655765) hG kc_J6_265 dJ6_bitCount_0f7a4_4 ?_
    refine rr_iand hG dJ6_bitCount_0f7a4_7 (fun z7 => ?_)
    refine rr_isub hG dJ6_bitCount_0f7a4_8 (fun z8 => ?_)
    refine rr_istore_n (lr := []) hG dJ6_bitCount_0f7a4_9 rfl (by decide) rfl ?_
    refine rr_iload_n hG dJ6_bitCount_0f7a4_10 rfl 0 rfl ?_
    refine rr_ldcw (v := 858993459) hG kc_J6_266 dJ6_bitCount_0f7a4_11 ?_
    refine rr_iand hG dJ6_bitCount_0f7a4_14 (fun z14 => ?_)
    refine rr_iload_n hG dJ6_bitCount_0f7a4_15 rfl 0 rfl ?_
    refine rr_iconst (v := 2) hG dJ6_bitCount_0f7a4_16 (by decide) ?_
    refine rr_iushr hG dJ6_bitCount_0f7a4_17 (fun z17 => ?_)
    refine rr_ldcw (v := 858993459) hG kc_J6_266 dJ6_bitCount_0f7a4_18 ?_
    refine rr_iand hG dJ6_bitCount_0f7a4_21 (fun z21 => ?_)
    refine rr_iadd hG dJ6_bitCount_0f7a4_22 (fun z22 => ?_)
    refine rr_istore_n (lr := []) hG dJ6_bitCount_0f7a4_23 rfl (by decide) rfl ?_
    refine rr_iload_n hG dJ6_bitCount_0f7a4_24 rfl 0 rfl ?_
    refine rr_iload_n hG dJ6_bitCount_0f7a4_25 rfl 0 rfl ?_
    refine rr_iconst (v := 4) hG dJ6_bitCount_0f7a4_26 (by decide) ?_
    refine rr_iushr hG dJ6_bitCount_0f7a4_27 (fun z27 => ?_)
    refine rr_iadd hG dJ6_bitCount_0f7a4_28 (fun z28 => ?_)
    refine rr_ldcw (v := 252645135) hG kc_J6_267 dJ6_bitCount_0f7a4_29 ?_
    refine rr_iand hG dJ6_bitCount_0f7a4_32 (fun z32 => ?_)
    refine rr_istore_n (lr := []) hG dJ6_bitCount_0f7a4_33 rfl (by decide) rfl ?_
    refine rr_iload_n hG dJ6_bitCount_0f7a4_34 rfl 0 rfl ?_
    refine rr_iload_n hG dJ6_bitCount_0f7a4_35 rfl 0 rfl ?_
    refine rr_bipush (v := 8) hG dJ6_bitCount_0f7a4_36 (by decide) ?_
    refine rr_iushr hG dJ6_bitCount_0f7a4_38 (fun z38 => ?_)
    refine rr_iadd hG dJ6_bitCount_0f7a4_39 (fun z39 => ?_)
    refine rr_istore_n (lr := []) hG dJ6_bitCount_0f7a4_40 rfl (by decide) rfl ?_
    refine rr_iload_n hG dJ6_bitCount_0f7a4_41 rfl 0 rfl ?_
    refine rr_iload_n hG dJ6_bitCount_0f7a4_42 rfl 0 rfl ?_
    refine rr_bipush (v := 16) hG dJ6_bitCount_0f7a4_43 (by decide) ?_
    refine rr_iushr hG dJ6_bitCount_0f7a4_45 (fun z45 => ?_)
    refine rr_iadd hG dJ6_bitCount_0f7a4_46 (fun z46 => ?_)
    refine rr_istore_n (lr := []) hG dJ6_bitCount_0f7a4_47 rfl (by decide) rfl ?_
    refine rr_iload_n hG dJ6_bitCount_0f7a4_48 rfl 0 rfl ?_
    refine rr_bipush (v := 63) hG dJ6_bitCount_0f7a4_49 (by decide) ?_
    refine rr_iand hG dJ6_bitCount_0f7a4_51 (fun z51 => ?_)
    exact rr_iret hG ho dJ6_bitCount_0f7a4_52
  exact h
set_option maxRecDepth 100000 in
set_option maxHeartbeats 4000000 in
theorem b_X2_heaviest_12 {G : bd_G} {out : Int32 × bd_S} (hG : bd_OK G cX2_heaviest 6 RX2 55 3 68 (some .int)) (ho : bd_ends bd_Qi G out) : ∀ (n_ : Nat) (x4 : Int32) (x3 : Int32) (x2 : Int32) (S1 : Nat) (hS1 : bd_isS S1) (s_ : bd_S), bd_WF G out (f_X2_heaviest_12 n_ x4 x3 x2 S1 s_) s_ 12 [(4, .int x4), (3, .int x3), (2, .int x2), (0, .ref (bd_ad (g_E G) 0)), (1, .ref (bd_ad (g_E G) S1))] [] := by
  intro n_
  induction n_ with
  | zero => intros; intro hF; cases hF
  | succ n_ ih =>
    intro x4 x3 x2 S1 hS1 s_
    rw [f_X2_heaviest_12]
    refine rr_iload hG dX2_heaviest_12 0 rfl ?_
    refine rr_bipush (v := 8) hG dX2_heaviest_14 (by decide) ?_
    refine rr_icmp_ge hG 64 dX2_heaviest_16 (by decide) ?_ ?_
    · refine rr_iload_n hG dX2_heaviest_64 rfl 2 rfl ?_
      exact rr_iret hG ho dX2_heaviest_65
    · refine rr_aload_n hG dX2_heaviest_19 rfl 3 rfl ?_
      refine rr_aload_n hG dX2_heaviest_20 rfl 4 rfl ?_
      refine rr_iload hG dX2_heaviest_21 0 rfl ?_
      refine rr_cVi hG [.ref (bd_ad (g_E G) S1), .int x4] (c_X2_weigh (g_l G) (g_E G) (hG.hE.mono (by decide)) S1 x4 hS1 s_) lk_X2_178 im_X2_weigh se_X2_weigh rfl (by decide) (by decide) rfl rfl (Nat.le_of_ble_eq_true rfl) (Nat.le_of_ble_eq_true rfl) rfl rfl (Nat.le_of_ble_eq_true rfl) dX2_heaviest_23 (fun z23 s23 => ?_)
      refine rr_istore (lr := [(4, .int x4), (3, .int x3), (2, .int x2), (0, .ref (bd_ad (g_E G) 0)), (1, .ref (bd_ad (g_E G) S1))]) hG dX2_heaviest_26 (by decide) rfl ?_
      refine rr_iload hG dX2_heaviest_28 0 rfl ?_
      refine rr_iload_n hG dX2_heaviest_30 rfl 2 rfl ?_
      refine rr_icmp_gt hG 52 dX2_heaviest_31 (by decide) ?_ ?_
      · refine rr_iload hG dX2_heaviest_52 1 rfl ?_
        refine rr_istore_n (lr := [(5, .int z23), (4, .int x4), (3, .int x3), (0, .ref (bd_ad (g_E G) 0)), (1, .ref (bd_ad (g_E G) S1))]) hG dX2_heaviest_54 rfl (by decide) rfl ?_
        refine rr_iload hG dX2_heaviest_55 1 rfl ?_
        refine rr_istore_n (lr := [(2, .int x4), (5, .int z23), (4, .int x4), (0, .ref (bd_ad (g_E G) 0)), (1, .ref (bd_ad (g_E G) S1))]) hG dX2_heaviest_57 rfl (by decide) rfl ?_
        refine rr_iinc (v := 1) (lr := [(3, .int z23), (2, .int x4), (5, .int z23), (0, .ref (bd_ad (g_E G) 0)), (1, .ref (bd_ad (g_E G) S1))]) hG dX2_heaviest_58 3 rfl (by decide) (by decide) rfl (fun z58 => ?_)
        refine rr_goto (tgt := 12) hG dX2_heaviest_61 (by decide) ?_
        exact rr_sub [0, 1, 2, 4, 5] rfl (ih z58 z23 x4 S1 hS1 s23)
      · refine rr_iload hG dX2_heaviest_34 0 rfl ?_
        refine rr_iload_n hG dX2_heaviest_36 rfl 2 rfl ?_
        refine rr_icmp_ne hG 58 dX2_heaviest_37 (by decide) ?_ ?_
        · refine rr_iinc (v := 1) (lr := [(5, .int z23), (3, .int x3), (2, .int x2), (0, .ref (bd_ad (g_E G) 0)), (1, .ref (bd_ad (g_E G) S1))]) hG dX2_heaviest_58 1 rfl (by decide) (by decide) rfl (fun z58 => ?_)
          refine rr_goto (tgt := 12) hG dX2_heaviest_61 (by decide) ?_
          exact rr_sub [0, 2, 3, 4, 5] rfl (ih z58 x3 x2 S1 hS1 s23)
        · refine rr_iload hG dX2_heaviest_40 1 rfl ?_
          refine rr_cSi hG [.int x4] (c_J6_bitCount_0f7a4 (g_l G) (g_E G) (hG.hE.mono (by decide)) x4 s23) lk_X2_256 sm_J6_bitCount_0f7a4 (Nat.le_of_ble_eq_true rfl) (Nat.le_of_ble_eq_true rfl) rfl rfl (Nat.le_of_ble_eq_true rfl) dX2_heaviest_42 (fun z42 s42 => ?_)
          refine rr_iload_n hG dX2_heaviest_45 rfl 3 rfl ?_
          refine rr_cSi hG [.int x2] (c_J6_bitCount_0f7a4 (g_l G) (g_E G) (hG.hE.mono (by decide)) x2 s42) lk_X2_256 sm_J6_bitCount_0f7a4 (Nat.le_of_ble_eq_true rfl) (Nat.le_of_ble_eq_true rfl) rfl rfl (Nat.le_of_ble_eq_true rfl) dX2_heaviest_46 (fun z46 s46 => ?_)
          refine rr_icmp_le hG 58 dX2_heaviest_49 (by decide) ?_ ?_
          · refine rr_iinc (v := 1) (lr := [(5, .int z23), (3, .int x3), (2, .int x2), (0, .ref (bd_ad (g_E G) 0)), (1, .ref (bd_ad (g_E G) S1))]) hG dX2_heaviest_58 1 rfl (by decide) (by decide) rfl (fun z58 => ?_)
            refine rr_goto (tgt := 12) hG dX2_heaviest_61 (by decide) ?_
            exact rr_sub [0, 2, 3, 4, 5] rfl (ih z58 x3 x2 S1 hS1 s46)
          · refine rr_iload hG dX2_heaviest_52 1 rfl ?_
            refine rr_istore_n (lr := [(5, .int z23), (4, .int x4), (3, .int x3), (0, .ref (bd_ad (g_E G) 0)), (1, .ref (bd_ad (g_E G) S1))]) hG dX2_heaviest_54 rfl (by decide) rfl ?_
            refine rr_iload hG dX2_heaviest_55 1 rfl ?_
            refine rr_istore_n (lr := [(2, .int x4), (5, .int z23), (4, .int x4), (0, .ref (bd_ad (g_E G) 0)), (1, .ref (bd_ad (g_E G) S1))]) hG dX2_heaviest_57 rfl (by decide) rfl ?_
            refine rr_iinc (v := 1) (lr := [(3, .int z23), (2, .int x4), (5, .int z23), (0, .ref (bd_ad (g_E G) 0)), (1, .ref (bd_ad (g_E G) S1))]) hG dX2_heaviest_58 3 rfl (by decide) (by decide) rfl (fun z58 => ?_)
            refine rr_goto (tgt := 12) hG dX2_heaviest_61 (by decide) ?_
            exact rr_sub [0, 1, 2, 4, 5] rfl (ih z58 z23 x4 S1 hS1 s46)
set_option maxRecDepth 100000 in
set_option maxHeartbeats 4000000 in
theorem c_X2_heaviest (l : Launch) (E : bd_E) (hE : bd_ok E 55) (S1 : Nat) (hS1 : bd_isS S1) (s_ : bd_S) : bd_M bd_Qi l yX2_heaviest cX2_heaviest 6 (some .int) 3 68 E [.ref (bd_ad E 0), .ref (bd_ad E S1)] s_ (f_X2_heaviest S1 s_) := by
  refine bd_open bd_Qi (by decide +kernel) hE (Nat.le_of_ble_eq_true rfl) (fun G out hG hGE hGl ho => ?_)
  subst hGE
  have hG : bd_OK G cX2_heaviest 6 RX2 55 3 68 (some .int) := hG
  have h : bd_WF G out (f_X2_heaviest S1 s_) s_ 0 [(0, .ref (bd_ad (g_E G) 0)), (1, .ref (bd_ad (g_E G) S1))] [] := by
    unfold f_X2_heaviest
    refine rr_iconst (v := 0) hG dX2_heaviest_0 (by decide) ?_
    refine rr_istore_n (lr := [(0, .ref (bd_ad (g_E G) 0)), (1, .ref (bd_ad (g_E G) S1))]) hG dX2_heaviest_1 rfl (by decide) rfl ?_
    refine rr_aload_n hG dX2_heaviest_2 rfl 1 rfl ?_
    refine rr_aload_n hG dX2_heaviest_3 rfl 2 rfl ?_
    refine rr_iconst (v := 0) hG dX2_heaviest_4 (by decide) ?_
    refine rr_cVi hG [.ref (bd_ad (g_E G) S1), .int 0] (c_X2_weigh (g_l G) (g_E G) (hG.hE.mono (by decide)) S1 0 hS1 s_) lk_X2_178 im_X2_weigh se_X2_weigh rfl (by decide) (by decide) rfl rfl (Nat.le_of_ble_eq_true rfl) (Nat.le_of_ble_eq_true rfl) rfl rfl (Nat.le_of_ble_eq_true rfl) dX2_heaviest_5 (fun z5 s5 => ?_)
    refine rr_istore_n (lr := [(2, .int 0), (0, .ref (bd_ad (g_E G) 0)), (1, .ref (bd_ad (g_E G) S1))]) hG dX2_heaviest_8 rfl (by decide) rfl ?_
    refine rr_iconst (v := 1) hG dX2_heaviest_9 (by decide) ?_
    refine rr_istore (lr := [(3, .int z5), (2, .int 0), (0, .ref (bd_ad (g_E G) 0)), (1, .ref (bd_ad (g_E G) S1))]) hG dX2_heaviest_10 (by decide) rfl ?_
    exact (b_X2_heaviest_12 hG ho FU_ 1 z5 0 S1 hS1 s5)
  exact h
set_option maxRecDepth 100000 in
set_option maxHeartbeats 4000000 in
theorem c_X2_best (l : Launch) (E : bd_E) (hE : bd_ok E 55) (p1 : Int32) (s_ : bd_S) : bd_M bd_Qi l yX2_best cX2_best 2 (some .int) 7 161 E [.ref (bd_ad E 0), .int p1] s_ (f_X2_best p1 s_) := by
  refine bd_open bd_Qi (by decide +kernel) hE (Nat.le_of_ble_eq_true rfl) (fun G out hG hGE hGl ho => ?_)
  subst hGE
  have hG : bd_OK G cX2_best 2 RX2 55 7 161 (some .int) := hG
  have h : bd_WF G out (f_X2_best p1 s_) s_ 0 [(0, .ref (bd_ad (g_E G) 0)), (1, .int p1)] [] := by
    unfold f_X2_best
    refine rr_aload_n hG dX2_best_0 rfl 0 rfl ?_
    refine rr_iload_n hG dX2_best_1 rfl 1 rfl ?_
    refine rr_cVi hG [.int p1] (c_X2_noShip (g_l G) (g_E G) (hG.hE.mono (by decide)) p1 s_) lk_X2_142 im_X2_noShip se_X2_noShip rfl (by decide) (by decide) rfl rfl (Nat.le_of_ble_eq_true rfl) (Nat.le_of_ble_eq_true rfl) rfl rfl (Nat.le_of_ble_eq_true rfl) dX2_best_2 (fun z2 s2 => ?_)
    refine rr_if_eq hG 10 dX2_best_5 (by decide) ?_ ?_
    · refine rr_aload_n hG dX2_best_10 rfl 0 rfl ?_
      refine rr_aload_n hG dX2_best_11 rfl 0 rfl ?_
      refine gf_X2_37 hG (by decide) dX2_best_12 ?_
      refine rr_iload_n hG dX2_best_15 rfl 1 rfl ?_
      refine rr_aald hG (by decide) dX2_best_16 (fun S16 hS16 => ?_)
      refine rr_cVv hG [.ref (bd_ad (g_E G) S16)] (c_X2_findPlaces (g_l G) (g_E G) (hG.hE.mono (by decide)) S16 hS16 s2) lk_X2_174 im_X2_findPlaces se_X2_findPlaces rfl (by decide) (by decide) rfl rfl (Nat.le_of_ble_eq_true rfl) (Nat.le_of_ble_eq_true rfl) rfl rfl (Nat.le_of_ble_eq_true rfl) dX2_best_17 (fun s17 => ?_)
      refine rr_aload_n hG dX2_best_20 rfl 0 rfl ?_
      refine rr_aload_n hG dX2_best_21 rfl 0 rfl ?_
      refine gf_X2_37 hG (by decide) dX2_best_22 ?_
      refine rr_iload_n hG dX2_best_25 rfl 1 rfl ?_
      refine rr_aald hG (by decide) dX2_best_26 (fun S26 hS26 => ?_)
      refine rr_cVi hG [.ref (bd_ad (g_E G) S26)] (c_X2_heaviest (g_l G) (g_E G) (hG.hE.mono (by decide)) S26 hS26 s17) lk_X2_189 im_X2_heaviest se_X2_heaviest rfl (by decide) (by decide) rfl rfl (Nat.le_of_ble_eq_true rfl) (Nat.le_of_ble_eq_true rfl) rfl rfl (Nat.le_of_ble_eq_true rfl) dX2_best_27 (fun z27 s27 => ?_)
      exact rr_iret hG ho dX2_best_30
    · refine rr_iconst (v := (-1)) hG dX2_best_8 (by decide) ?_
      exact rr_iret hG ho dX2_best_9
  exact h
set_option maxRecDepth 100000 in
set_option maxHeartbeats 4000000 in
theorem c_X2_landfall (l : Launch) (E : bd_E) (hE : bd_ok E 55) (p1 : Int32) (p2 : Int32) (s_ : bd_S) : bd_M bd_Qi l yX2_landfall cX2_landfall 4 (some .int) 7 161 E [.ref (bd_ad E 0), .int p1, .int p2] s_ (f_X2_landfall p1 p2 s_) := by
  refine bd_open bd_Qi (by decide +kernel) hE (Nat.le_of_ble_eq_true rfl) (fun G out hG hGE hGl ho => ?_)
  subst hGE
  have hG : bd_OK G cX2_landfall 4 RX2 55 7 161 (some .int) := hG
  have h : bd_WF G out (f_X2_landfall p1 p2 s_) s_ 0 [(0, .ref (bd_ad (g_E G) 0)), (1, .int p1), (2, .int p2)] [] := by
    unfold f_X2_landfall
    refine rr_aload_n hG dX2_landfall_0 rfl 0 rfl ?_
    refine rr_iload_n hG dX2_landfall_1 rfl 1 rfl ?_
    refine rr_cVi hG [.int p1] (c_X2_noShip (g_l G) (g_E G) (hG.hE.mono (by decide)) p1 s_) lk_X2_142 im_X2_noShip se_X2_noShip rfl (by decide) (by decide) rfl rfl (Nat.le_of_ble_eq_true rfl) (Nat.le_of_ble_eq_true rfl) rfl rfl (Nat.le_of_ble_eq_true rfl) dX2_landfall_2 (fun z2 s2 => ?_)
    refine rr_if_eq hG 11 dX2_landfall_5 (by decide) ?_ ?_
    · refine rr_iload_n hG dX2_landfall_11 rfl 2 rfl ?_
      refine rr_cSi hG [.int p2] (c_X2_noEnd (g_l G) (g_E G) (hG.hE.mono (by decide)) p2 s2) lk_X2_92 sm_X2_noEnd (Nat.le_of_ble_eq_true rfl) (Nat.le_of_ble_eq_true rfl) rfl rfl (Nat.le_of_ble_eq_true rfl) dX2_landfall_12 (fun z12 s12 => ?_)
      refine rr_if_eq hG 21 dX2_landfall_15 (by decide) ?_ ?_
      · refine rr_aload_n hG dX2_landfall_21 rfl 0 rfl ?_
        refine rr_aload_n hG dX2_landfall_22 rfl 0 rfl ?_
        refine gf_X2_37 hG (by decide) dX2_landfall_23 ?_
        refine rr_iload_n hG dX2_landfall_26 rfl 1 rfl ?_
        refine rr_aald hG (by decide) dX2_landfall_27 (fun S27 hS27 => ?_)
        refine rr_cVv hG [.ref (bd_ad (g_E G) S27)] (c_X2_findPlaces (g_l G) (g_E G) (hG.hE.mono (by decide)) S27 hS27 s12) lk_X2_174 im_X2_findPlaces se_X2_findPlaces rfl (by decide) (by decide) rfl rfl (Nat.le_of_ble_eq_true rfl) (Nat.le_of_ble_eq_true rfl) rfl rfl (Nat.le_of_ble_eq_true rfl) dX2_landfall_28 (fun s28 => ?_)
        refine rr_aload_n hG dX2_landfall_31 rfl 0 rfl ?_
        refine rr_aload_n hG dX2_landfall_32 rfl 0 rfl ?_
        refine gf_X2_37 hG (by decide) dX2_landfall_33 ?_
        refine rr_iload_n hG dX2_landfall_36 rfl 1 rfl ?_
        refine rr_aald hG (by decide) dX2_landfall_37 (fun S37 hS37 => ?_)
        refine rr_cVi hG [.ref (bd_ad (g_E G) S37)] (c_X2_heaviest (g_l G) (g_E G) (hG.hE.mono (by decide)) S37 hS37 s28) lk_X2_189 im_X2_heaviest se_X2_heaviest rfl (by decide) (by decide) rfl rfl (Nat.le_of_ble_eq_true rfl) (Nat.le_of_ble_eq_true rfl) rfl rfl (Nat.le_of_ble_eq_true rfl) dX2_landfall_38 (fun z38 s38 => ?_)
        refine rr_istore_n (lr := [(0, .ref (bd_ad (g_E G) 0)), (1, .int p1), (2, .int p2)]) hG dX2_landfall_41 rfl (by decide) rfl ?_
        refine rr_iload_n hG dX2_landfall_42 rfl 0 rfl ?_
        refine rr_if_ne hG 49 dX2_landfall_43 (by decide) ?_ ?_
        · refine rr_iload_n hG dX2_landfall_49 rfl 3 rfl ?_
          refine rr_if_ne hG 61 dX2_landfall_50 (by decide) ?_ ?_
          · refine rr_aload_n hG dX2_landfall_61 rfl 1 rfl ?_
            refine rr_iload_n hG dX2_landfall_62 rfl 0 rfl ?_
            refine rr_cVi hG [.int z38] (c_X2_greatestShared (g_l G) (g_E G) (hG.hE.mono (by decide)) z38 s38) lk_X2_196 im_X2_greatestShared se_X2_greatestShared rfl (by decide) (by decide) rfl rfl (Nat.le_of_ble_eq_true rfl) (Nat.le_of_ble_eq_true rfl) rfl rfl (Nat.le_of_ble_eq_true rfl) dX2_landfall_63 (fun z63 s63 => ?_)
            exact rr_iret hG ho dX2_landfall_66
          · refine rr_aload_n hG dX2_landfall_53 rfl 1 rfl ?_
            refine rr_iload_n hG dX2_landfall_54 rfl 0 rfl ?_
            refine rr_cVi hG [.int z38] (c_X2_leastShared (g_l G) (g_E G) (hG.hE.mono (by decide)) z38 s38) lk_X2_193 im_X2_leastShared se_X2_leastShared rfl (by decide) (by decide) rfl rfl (Nat.le_of_ble_eq_true rfl) (Nat.le_of_ble_eq_true rfl) rfl rfl (Nat.le_of_ble_eq_true rfl) dX2_landfall_55 (fun z55 s55 => ?_)
            refine rr_goto (tgt := 66) hG dX2_landfall_58 (by decide) ?_
            exact rr_iret hG ho dX2_landfall_66
        · refine rr_ldc (v := (-100000003)) hG kc_X2_161 dX2_landfall_46 ?_
          exact rr_iret hG ho dX2_landfall_48
      · refine rr_ldc (v := (-100000002)) hG kc_X2_95 dX2_landfall_18 ?_
        exact rr_iret hG ho dX2_landfall_20
    · refine rr_ldc (v := (-100000001)) hG kc_X2_91 dX2_landfall_8 ?_
      exact rr_iret hG ho dX2_landfall_10
  exact h
set_option maxRecDepth 100000 in
set_option maxHeartbeats 4000000 in
theorem b_X2_isSetOn_3 {G : bd_G} {out : Int32 × bd_S} (hG : bd_OK G cX2_isSetOn 5 RX2 55 1 22 (some .boolean)) (ho : bd_ends bd_Qi G out) : ∀ (n_ : Nat) (x4 : Int32) (S1 : Nat) (x2 : Int32) (x3 : Int32) (hS1 : bd_isS S1) (s_ : bd_S), bd_WF G out (f_X2_isSetOn_3 n_ x4 S1 x2 x3 s_) s_ 3 [(4, .int x4), (0, .ref (bd_ad (g_E G) 0)), (1, .ref (bd_ad (g_E G) S1)), (2, .int x2), (3, .int x3)] [] := by
  intro n_
  induction n_ with
  | zero => intros; intro hF; cases hF
  | succ n_ ih =>
    intro x4 S1 x2 x3 hS1 s_
    rw [f_X2_isSetOn_3]
    refine rr_iload hG dX2_isSetOn_3 0 rfl ?_
    refine rr_aload_n hG dX2_isSetOn_5 rfl 2 rfl ?_
    refine gf_X2_145 hS1 hG (by decide) dX2_isSetOn_6 (fun z6 => ?_)
    refine rr_icmp_ge hG 62 dX2_isSetOn_9 (by decide) ?_ ?_
    · refine rr_iconst (v := 0) hG dX2_isSetOn_62 (by decide) ?_
      exact rr_zret hG ho dX2_isSetOn_63
    · refine rr_aload_n hG dX2_isSetOn_12 rfl 2 rfl ?_
      refine gf_X2_231 hS1 hG (by decide) dX2_isSetOn_13 ?_
      refine rr_iload hG dX2_isSetOn_16 0 rfl ?_
      refine rr_iald hG (bd_kS1 hS1) (bd_bS1 hS1 (by decide)) dX2_isSetOn_18 (fun z18 => ?_)
      refine rr_iload_n hG dX2_isSetOn_19 rfl 3 rfl ?_
      refine rr_icmp_ne hG 56 dX2_isSetOn_20 (by decide) ?_ ?_
      · refine rr_iinc (v := 1) (lr := [(0, .ref (bd_ad (g_E G) 0)), (1, .ref (bd_ad (g_E G) S1)), (2, .int x2), (3, .int x3)]) hG dX2_isSetOn_56 0 rfl (by decide) (by decide) rfl (fun z56 => ?_)
        refine rr_goto (tgt := 3) hG dX2_isSetOn_59 (by decide) ?_
        exact ih z56 S1 x2 x3 hS1 s_
      · refine rr_aload_n hG dX2_isSetOn_23 rfl 2 rfl ?_
        refine gf_X2_224 hS1 hG (by decide) dX2_isSetOn_24 ?_
        refine rr_iload hG dX2_isSetOn_27 0 rfl ?_
        refine rr_zald hG (bd_kS3 hS1) (bd_bS3 hS1 (by decide)) dX2_isSetOn_29 (fun z29 => ?_)
        refine rr_if_eq hG 56 dX2_isSetOn_30 (by decide) ?_ ?_
        · refine rr_iinc (v := 1) (lr := [(0, .ref (bd_ad (g_E G) 0)), (1, .ref (bd_ad (g_E G) S1)), (2, .int x2), (3, .int x3)]) hG dX2_isSetOn_56 0 rfl (by decide) (by decide) rfl (fun z56 => ?_)
          refine rr_goto (tgt := 3) hG dX2_isSetOn_59 (by decide) ?_
          exact ih z56 S1 x2 x3 hS1 s_
        · refine rr_aload_n hG dX2_isSetOn_33 rfl 2 rfl ?_
          refine gf_X2_228 hS1 hG (by decide) dX2_isSetOn_34 ?_
          refine rr_iload hG dX2_isSetOn_37 0 rfl ?_
          refine rr_iald hG (bd_kS2 hS1) (bd_bS2 hS1 (by decide)) dX2_isSetOn_39 (fun z39 => ?_)
          refine rr_iload_n hG dX2_isSetOn_40 rfl 4 rfl ?_
          refine rr_icmp_ne hG 56 dX2_isSetOn_41 (by decide) ?_ ?_
          · refine rr_iinc (v := 1) (lr := [(0, .ref (bd_ad (g_E G) 0)), (1, .ref (bd_ad (g_E G) S1)), (2, .int x2), (3, .int x3)]) hG dX2_isSetOn_56 0 rfl (by decide) (by decide) rfl (fun z56 => ?_)
            refine rr_goto (tgt := 3) hG dX2_isSetOn_59 (by decide) ?_
            exact ih z56 S1 x2 x3 hS1 s_
          · refine rr_aload_n hG dX2_isSetOn_44 rfl 1 rfl ?_
            refine rr_aload_n hG dX2_isSetOn_45 rfl 2 rfl ?_
            refine rr_iload hG dX2_isSetOn_46 0 rfl ?_
            refine rr_cVi hG [.ref (bd_ad (g_E G) S1), .int x4] (c_X2_counts (g_l G) (g_E G) (hG.hE.mono (by decide)) S1 x4 hS1 s_) lk_X2_234 im_X2_counts se_X2_counts rfl (by decide) (by decide) rfl rfl (Nat.le_of_ble_eq_true rfl) (Nat.le_of_ble_eq_true rfl) rfl rfl (Nat.le_of_ble_eq_true rfl) dX2_isSetOn_48 (fun z48 s48 => ?_)
            refine rr_if_eq hG 56 dX2_isSetOn_51 (by decide) ?_ ?_
            · refine rr_iinc (v := 1) (lr := [(0, .ref (bd_ad (g_E G) 0)), (1, .ref (bd_ad (g_E G) S1)), (2, .int x2), (3, .int x3)]) hG dX2_isSetOn_56 0 rfl (by decide) (by decide) rfl (fun z56 => ?_)
              refine rr_goto (tgt := 3) hG dX2_isSetOn_59 (by decide) ?_
              exact ih z56 S1 x2 x3 hS1 s48
            · refine rr_iconst (v := 1) hG dX2_isSetOn_54 (by decide) ?_
              exact rr_zret hG ho dX2_isSetOn_55
set_option maxRecDepth 100000 in
set_option maxHeartbeats 4000000 in
theorem c_X2_isSetOn (l : Launch) (E : bd_E) (hE : bd_ok E 55) (S1 : Nat) (p2 : Int32) (p3 : Int32) (hS1 : bd_isS S1) (s_ : bd_S) : bd_M bd_Qi l yX2_isSetOn cX2_isSetOn 5 (some .boolean) 1 22 E [.ref (bd_ad E 0), .ref (bd_ad E S1), .int p2, .int p3] s_ (f_X2_isSetOn S1 p2 p3 s_) := by
  refine bd_open bd_Qi (by decide +kernel) hE (Nat.le_of_ble_eq_true rfl) (fun G out hG hGE hGl ho => ?_)
  subst hGE
  have hG : bd_OK G cX2_isSetOn 5 RX2 55 1 22 (some .boolean) := hG
  have h : bd_WF G out (f_X2_isSetOn S1 p2 p3 s_) s_ 0 [(0, .ref (bd_ad (g_E G) 0)), (1, .ref (bd_ad (g_E G) S1)), (2, .int p2), (3, .int p3)] [] := by
    unfold f_X2_isSetOn
    refine rr_iconst (v := 0) hG dX2_isSetOn_0 (by decide) ?_
    refine rr_istore (lr := [(0, .ref (bd_ad (g_E G) 0)), (1, .ref (bd_ad (g_E G) S1)), (2, .int p2), (3, .int p3)]) hG dX2_isSetOn_1 (by decide) rfl ?_
    exact (b_X2_isSetOn_3 hG ho FU_ 0 S1 p2 p3 hS1 s_)
  exact h
set_option maxRecDepth 100000 in
set_option maxHeartbeats 4000000 in
theorem b_X2_countSuspects_15 {G : bd_G} {out : Int32 × bd_S} (hG : bd_OK G cX2_countSuspects 5 RX2 55 6 139 (some .int)) (ho : bd_ends bd_Qi G out) {k79 : Int32 → Int32 → Int32 → bd_S → Option (Int32 × bd_S)} (hk79 : ∀ (x3 : Int32) (x2 : Int32) (x1 : Int32) (s_ : bd_S), bd_WF G out (k79 x3 x2 x1 s_) s_ 79 [(3, .int x3), (2, .int x2), (0, .ref (bd_ad (g_E G) 0)), (1, .int x1)] []) : ∀ (n_ : Nat) (x4 : Int32) (x3 : Int32) (x2 : Int32) (x1 : Int32) (s_ : bd_S), bd_WF G out (f_X2_countSuspects_15 k79 n_ x4 x3 x2 x1 s_) s_ 15 [(4, .int x4), (3, .int x3), (2, .int x2), (0, .ref (bd_ad (g_E G) 0)), (1, .int x1)] [] := by
  intro n_
  induction n_ with
  | zero => intros; intro hF; cases hF
  | succ n_ ih =>
    intro x4 x3 x2 x1 s_
    rw [f_X2_countSuspects_15]
    refine rr_iload hG dX2_countSuspects_15 0 rfl ?_
    refine rr_iconst (v := 3) hG dX2_countSuspects_17 (by decide) ?_
    refine rr_icmp_ge hG 79 dX2_countSuspects_18 (by decide) ?_ ?_
    · exact rr_sub [1, 2, 3, 4] rfl (hk79 x3 x2 x1 s_)
    · refine rr_aload_n hG dX2_countSuspects_21 rfl 3 rfl ?_
      refine rr_aload_n hG dX2_countSuspects_22 rfl 3 rfl ?_
      refine gf_X2_37 hG (by decide) dX2_countSuspects_23 ?_
      refine rr_iload_n hG dX2_countSuspects_26 rfl 1 rfl ?_
      refine rr_aald hG (by decide) dX2_countSuspects_27 (fun S27 hS27 => ?_)
      refine rr_iload hG dX2_countSuspects_28 0 rfl ?_
      refine rr_iload_n hG dX2_countSuspects_30 rfl 4 rfl ?_
      refine rr_cVi hG [.ref (bd_ad (g_E G) S27), .int x4, .int x1] (c_X2_isSetOn (g_l G) (g_E G) (hG.hE.mono (by decide)) S27 x4 x1 hS27 s_) lk_X2_261 im_X2_isSetOn se_X2_isSetOn rfl (by decide) (by decide) rfl rfl (Nat.le_of_ble_eq_true rfl) (Nat.le_of_ble_eq_true rfl) rfl rfl (Nat.le_of_ble_eq_true rfl) dX2_countSuspects_31 (fun z31 s31 => ?_)
      refine rr_if_eq hG 73 dX2_countSuspects_34 (by decide) ?_ ?_
      · refine rr_iinc (v := 1) (lr := [(3, .int x3), (2, .int x2), (0, .ref (bd_ad (g_E G) 0)), (1, .int x1)]) hG dX2_countSuspects_73 0 rfl (by decide) (by decide) rfl (fun z73 => ?_)
        refine rr_goto (tgt := 15) hG dX2_countSuspects_76 (by decide) ?_
        exact ih z73 x3 x2 x1 s31
      · refine rr_aload_n hG dX2_countSuspects_37 rfl 3 rfl ?_
        refine rr_aload_n hG dX2_countSuspects_38 rfl 3 rfl ?_
        refine gf_X2_37 hG (by decide) dX2_countSuspects_39 ?_
        refine rr_iload_n hG dX2_countSuspects_42 rfl 1 rfl ?_
        refine rr_aald hG (by decide) dX2_countSuspects_43 (fun S43 hS43 => ?_)
        refine rr_iload hG dX2_countSuspects_44 0 rfl ?_
        refine rr_cVi hG [.ref (bd_ad (g_E G) S43), .int x4] (c_X2_learn (g_l G) (g_E G) (hG.hE.mono (by decide)) S43 x4 hS43 s31) lk_X2_157 im_X2_learn se_X2_learn rfl (by decide) (by decide) rfl rfl (Nat.le_of_ble_eq_true rfl) (Nat.le_of_ble_eq_true rfl) rfl rfl (Nat.le_of_ble_eq_true rfl) dX2_countSuspects_46 (fun z46 s46 => ?_)
        refine rr_if_ne hG 73 dX2_countSuspects_49 (by decide) ?_ ?_
        · refine rr_iinc (v := 1) (lr := [(3, .int x3), (2, .int x2), (0, .ref (bd_ad (g_E G) 0)), (1, .int x1)]) hG dX2_countSuspects_73 0 rfl (by decide) (by decide) rfl (fun z73 => ?_)
          refine rr_goto (tgt := 15) hG dX2_countSuspects_76 (by decide) ?_
          exact ih z73 x3 x2 x1 s46
        · refine rr_aload_n hG dX2_countSuspects_52 rfl 3 rfl ?_
          refine rr_aload_n hG dX2_countSuspects_53 rfl 3 rfl ?_
          refine gf_X2_37 hG (by decide) dX2_countSuspects_54 ?_
          refine rr_iload_n hG dX2_countSuspects_57 rfl 1 rfl ?_
          refine rr_aald hG (by decide) dX2_countSuspects_58 (fun S58 hS58 => ?_)
          refine rr_iload hG dX2_countSuspects_59 0 rfl ?_
          refine rr_iload_n hG dX2_countSuspects_61 rfl 4 rfl ?_
          refine rr_iconst (v := (-1)) hG dX2_countSuspects_62 (by decide) ?_
          refine rr_iconst (v := 0) hG dX2_countSuspects_63 (by decide) ?_
          refine rr_cVi hG [.ref (bd_ad (g_E G) S58), .int x4, .int x1, .int (-1), .int 0] (c_X2_learnBut (g_l G) (g_E G) (hG.hE.mono (by decide)) S58 x4 x1 (-1) 0 hS58 s46) lk_X2_237 im_X2_learnBut se_X2_learnBut rfl (by decide) (by decide) rfl rfl (Nat.le_of_ble_eq_true rfl) (Nat.le_of_ble_eq_true rfl) rfl rfl (Nat.le_of_ble_eq_true rfl) dX2_countSuspects_64 (fun z64 s64 => ?_)
          refine rr_if_eq hG 73 dX2_countSuspects_67 (by decide) ?_ ?_
          · refine rr_iinc (v := 1) (lr := [(3, .int x3), (2, .int x2), (0, .ref (bd_ad (g_E G) 0)), (1, .int x1)]) hG dX2_countSuspects_73 0 rfl (by decide) (by decide) rfl (fun z73 => ?_)
            refine rr_goto (tgt := 15) hG dX2_countSuspects_76 (by decide) ?_
            exact ih z73 x3 x2 x1 s64
          · refine rr_iinc (v := 1) (lr := [(4, .int x4), (3, .int x3), (0, .ref (bd_ad (g_E G) 0)), (1, .int x1)]) hG dX2_countSuspects_70 2 rfl (by decide) (by decide) rfl (fun z70 => ?_)
            refine rr_iinc (v := 1) (lr := [(2, .int z70), (3, .int x3), (0, .ref (bd_ad (g_E G) 0)), (1, .int x1)]) hG dX2_countSuspects_73 1 rfl (by decide) (by decide) rfl (fun z73 => ?_)
            refine rr_goto (tgt := 15) hG dX2_countSuspects_76 (by decide) ?_
            exact rr_sub [0, 2, 1, 3, 4] rfl (ih z73 x3 z70 x1 s64)
set_option maxRecDepth 100000 in
set_option maxHeartbeats 4000000 in
theorem b_X2_countSuspects_4 {G : bd_G} {out : Int32 × bd_S} (hG : bd_OK G cX2_countSuspects 5 RX2 55 6 139 (some .int)) (ho : bd_ends bd_Qi G out) : ∀ (n_ : Nat) (x3 : Int32) (x2 : Int32) (x1 : Int32) (s_ : bd_S), bd_WF G out (f_X2_countSuspects_4 n_ x3 x2 x1 s_) s_ 4 [(3, .int x3), (2, .int x2), (0, .ref (bd_ad (g_E G) 0)), (1, .int x1)] [] := by
  intro n_
  induction n_ with
  | zero => intros; intro hF; cases hF
  | succ n_ ih =>
    intro x3 x2 x1 s_
    rw [f_X2_countSuspects_4]
    refine rr_iload_n hG dX2_countSuspects_4 rfl 0 rfl ?_
    refine rr_aload_n hG dX2_countSuspects_5 rfl 2 rfl ?_
    refine gf_X2_126 hG (by decide) dX2_countSuspects_6 (fun z6 => ?_)
    refine rr_icmp_ge hG 85 dX2_countSuspects_9 (by decide) ?_ ?_
    · refine rr_iload_n hG dX2_countSuspects_85 rfl 1 rfl ?_
      exact rr_iret hG ho dX2_countSuspects_86
    · refine rr_iconst (v := 0) hG dX2_countSuspects_12 (by decide) ?_
      refine rr_istore (lr := [(3, .int x3), (2, .int x2), (0, .ref (bd_ad (g_E G) 0)), (1, .int x1)]) hG dX2_countSuspects_13 (by decide) rfl ?_
      refine (b_X2_countSuspects_15 hG ho (fun x3e x2e x1e e79 => ?_) FU_ 0 x3 x2 x1 s_)
      · refine rr_iinc (v := 1) (lr := [(2, .int x2e), (0, .ref (bd_ad (g_E G) 0)), (1, .int x1e)]) hG dX2_countSuspects_79 0 rfl (by decide) (by decide) rfl (fun z79 => ?_)
        refine rr_goto (tgt := 4) hG dX2_countSuspects_82 (by decide) ?_
        exact ih z79 x2e x1e e79
set_option maxRecDepth 100000 in
set_option maxHeartbeats 4000000 in
theorem c_X2_countSuspects (l : Launch) (E : bd_E) (hE : bd_ok E 55) (p1 : Int32) (s_ : bd_S) : bd_M bd_Qi l yX2_countSuspects cX2_countSuspects 5 (some .int) 6 139 E [.ref (bd_ad E 0), .int p1] s_ (f_X2_countSuspects p1 s_) := by
  refine bd_open bd_Qi (by decide +kernel) hE (Nat.le_of_ble_eq_true rfl) (fun G out hG hGE hGl ho => ?_)
  subst hGE
  have hG : bd_OK G cX2_countSuspects 5 RX2 55 6 139 (some .int) := hG
  have h : bd_WF G out (f_X2_countSuspects p1 s_) s_ 0 [(0, .ref (bd_ad (g_E G) 0)), (1, .int p1)] [] := by
    unfold f_X2_countSuspects
    refine rr_iconst (v := 0) hG dX2_countSuspects_0 (by decide) ?_
    refine rr_istore_n (lr := [(0, .ref (bd_ad (g_E G) 0)), (1, .int p1)]) hG dX2_countSuspects_1 rfl (by decide) rfl ?_
    refine rr_iconst (v := 0) hG dX2_countSuspects_2 (by decide) ?_
    refine rr_istore_n (lr := [(2, .int 0), (0, .ref (bd_ad (g_E G) 0)), (1, .int p1)]) hG dX2_countSuspects_3 rfl (by decide) rfl ?_
    exact (b_X2_countSuspects_4 hG ho FU_ 0 0 p1 s_)
  exact h
set_option maxRecDepth 100000 in
set_option maxHeartbeats 4000000 in
theorem c_X2_suspect (l : Launch) (E : bd_E) (hE : bd_ok E 55) (p1 : Int32) (s_ : bd_S) : bd_M bd_Qi l yX2_suspect cX2_suspect 2 (some .int) 7 163 E [.ref (bd_ad E 0), .int p1] s_ (f_X2_suspect p1 s_) := by
  refine bd_open bd_Qi (by decide +kernel) hE (Nat.le_of_ble_eq_true rfl) (fun G out hG hGE hGl ho => ?_)
  subst hGE
  have hG : bd_OK G cX2_suspect 2 RX2 55 7 163 (some .int) := hG
  have h : bd_WF G out (f_X2_suspect p1 s_) s_ 0 [(0, .ref (bd_ad (g_E G) 0)), (1, .int p1)] [] := by
    unfold f_X2_suspect
    refine rr_iload_n hG dX2_suspect_0 rfl 1 rfl ?_
    refine rr_cSi hG [.int p1] (c_X2_noDay (g_l G) (g_E G) (hG.hE.mono (by decide)) p1 s_) lk_X2_64 sm_X2_noDay (Nat.le_of_ble_eq_true rfl) (Nat.le_of_ble_eq_true rfl) rfl rfl (Nat.le_of_ble_eq_true rfl) dX2_suspect_1 (fun z1 s1 => ?_)
    refine rr_if_eq hG 9 dX2_suspect_4 (by decide) ?_ ?_
    · refine rr_aload_n hG dX2_suspect_9 rfl 0 rfl ?_
      refine rr_iload_n hG dX2_suspect_10 rfl 1 rfl ?_
      refine rr_cVi hG [.int p1] (c_X2_countSuspects (g_l G) (g_E G) (hG.hE.mono (by decide)) p1 s1) lk_X2_199 im_X2_countSuspects se_X2_countSuspects rfl (by decide) (by decide) rfl rfl (Nat.le_of_ble_eq_true rfl) (Nat.le_of_ble_eq_true rfl) rfl rfl (Nat.le_of_ble_eq_true rfl) dX2_suspect_11 (fun z11 s11 => ?_)
      exact rr_iret hG ho dX2_suspect_14
    · refine rr_iconst (v := (-1)) hG dX2_suspect_7 (by decide) ?_
      exact rr_iret hG ho dX2_suspect_8
  exact h
