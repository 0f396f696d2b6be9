set_option maxRecDepth 100000 in
set_option maxHeartbeats 4000000 in
theorem c_X2_noDay (l : Launch) (E : bd_E) (hE : bd_ok E 10) (p0 : Int32) (s_ : bd_S) : bd_M bd_Qi l yX2_noDay cX2_noDay 1 (some .boolean) 0 0 E [.int p0] s_ (f_X2_noDay p0 s_) := by
  refine bd_open bd_Qi (by decide +kernel) hE (Nat.le_of_ble_eq_true rfl) (fun G out hG hGE hGl ho => ?_)
  subst hGE
  have hG : bd_OK G cX2_noDay 1 RX2 10 0 0 (some .boolean) := hG
  have h : bd_WF G out (f_X2_noDay p0 s_) s_ 0 [(0, .int p0)] [] := by
    unfold f_X2_noDay
    refine rr_iload_n hG dX2_noDay_0 rfl 0 rfl ?_
    refine rr_if_lt hG 10 dX2_noDay_1 (by decide) ?_ ?_
    · refine rr_iconst (v := 1) hG dX2_noDay_10 (by decide) ?_
      refine rr_goto (tgt := 15) hG dX2_noDay_11 (by decide) ?_
      exact rr_zret hG ho dX2_noDay_15
    · refine rr_iload_n hG dX2_noDay_4 rfl 0 rfl ?_
      refine rr_bipush (v := 20) hG dX2_noDay_5 (by decide) ?_
      refine rr_icmp_lt hG 14 dX2_noDay_7 (by decide) ?_ ?_
      · refine rr_iconst (v := 0) hG dX2_noDay_14 (by decide) ?_
        exact rr_zret hG ho dX2_noDay_15
      · refine rr_iconst (v := 1) hG dX2_noDay_10 (by decide) ?_
        refine rr_goto (tgt := 15) hG dX2_noDay_11 (by decide) ?_
        exact rr_zret hG ho dX2_noDay_15
  exact h
set_option maxRecDepth 100000 in
set_option maxHeartbeats 4000000 in
theorem c_X2_beyond (l : Launch) (E : bd_E) (hE : bd_ok E 10) (p0 : Int32) (p1 : Int32) (s_ : bd_S) : bd_M bd_Qi l yX2_beyond cX2_beyond 2 (some .boolean) 0 0 E [.int p0, .int p1] s_ (f_X2_beyond p0 p1 s_) := by
  refine bd_open bd_Qi (by decide +kernel) hE (Nat.le_of_ble_eq_true rfl) (fun G out hG hGE hGl ho => ?_)
  subst hGE
  have hG : bd_OK G cX2_beyond 2 RX2 10 0 0 (some .boolean) := hG
  have h : bd_WF G out (f_X2_beyond p0 p1 s_) s_ 0 [(0, .int p0), (1, .int p1)] [] := by
    unfold f_X2_beyond
    refine rr_iload_n hG dX2_beyond_0 rfl 0 rfl ?_
    refine rr_iload_n hG dX2_beyond_1 rfl 1 rfl ?_
    refine rr_ineg hG dX2_beyond_2 (fun z2 => ?_)
    refine rr_icmp_lt hG 11 dX2_beyond_3 (by decide) ?_ ?_
    · refine rr_iconst (v := 1) hG dX2_beyond_11 (by decide) ?_
      refine rr_goto (tgt := 16) hG dX2_beyond_12 (by decide) ?_
      exact rr_zret hG ho dX2_beyond_16
    · refine rr_iload_n hG dX2_beyond_6 rfl 0 rfl ?_
      refine rr_iload_n hG dX2_beyond_7 rfl 1 rfl ?_
      refine rr_icmp_le hG 15 dX2_beyond_8 (by decide) ?_ ?_
      · refine rr_iconst (v := 0) hG dX2_beyond_15 (by decide) ?_
        exact rr_zret hG ho dX2_beyond_16
      · refine rr_iconst (v := 1) hG dX2_beyond_11 (by decide) ?_
        refine rr_goto (tgt := 16) hG dX2_beyond_12 (by decide) ?_
        exact rr_zret hG ho dX2_beyond_16
  exact h
set_option maxRecDepth 100000 in
set_option maxHeartbeats 4000000 in
theorem c_X0_copyFrom (l : Launch) (E : bd_E) (hE : bd_ok E 10) (L0 : Nat) (L1 : Nat) (hL0 : bd_isL L0) (hL1 : bd_isL L1) (s_ : bd_S) : bd_M bd_Qv l yX0_copyFrom cX0_copyFrom 2 none 1 60 E [.ref (bd_ad E L0), .ref (bd_ad E L1)] s_ (f_X0_copyFrom L0 L1 s_) := by
  refine bd_open bd_Qv (by decide +kernel) hE (Nat.le_of_ble_eq_true rfl) (fun G out hG hGE hGl ho => ?_)
  subst hGE
  have hG : bd_OK G cX0_copyFrom 2 RX0 10 1 60 none := hG
  have h : bd_WF G out (f_X0_copyFrom L0 L1 s_) s_ 0 [(0, .ref (bd_ad (g_E G) L0)), (1, .ref (bd_ad (g_E G) L1))] [] := by
    unfold f_X0_copyFrom
    refine rr_aload_n hG dX0_copyFrom_0 rfl 1 rfl ?_
    refine gf_X0_9 hL1 hG (by decide) dX0_copyFrom_1 ?_
    refine rr_iconst (v := 0) hG dX0_copyFrom_4 (by decide) ?_
    refine rr_aload_n hG dX0_copyFrom_5 rfl 0 rfl ?_
    refine gf_X0_9 hL0 hG (by decide) dX0_copyFrom_6 ?_
    refine rr_iconst (v := 0) hG dX0_copyFrom_9 (by decide) ?_
    refine rr_bipush (v := 20) hG dX0_copyFrom_10 (by decide) ?_
    refine rr_acopy hG ac_X0_25 (bd_kL1 hL1) (bd_kL1 hL0) (bd_bL1 hL1 (by decide)) (bd_bL1 hL0 (by decide)) (Nat.le_of_ble_eq_true rfl) (Nat.le_of_ble_eq_true rfl) dX0_copyFrom_12 (fun s12 => ?_)
    refine rr_aload_n hG dX0_copyFrom_15 rfl 1 rfl ?_
    refine gf_X0_15 hL1 hG (by decide) dX0_copyFrom_16 ?_
    refine rr_iconst (v := 0) hG dX0_copyFrom_19 (by decide) ?_
    refine rr_aload_n hG dX0_copyFrom_20 rfl 0 rfl ?_
    refine gf_X0_15 hL0 hG (by decide) dX0_copyFrom_21 ?_
    refine rr_iconst (v := 0) hG dX0_copyFrom_24 (by decide) ?_
    refine rr_bipush (v := 20) hG dX0_copyFrom_25 (by decide) ?_
    refine rr_acopy hG ac_X0_25 (bd_kL2 hL1) (bd_kL2 hL0) (bd_bL2 hL1 (by decide)) (bd_bL2 hL0 (by decide)) (Nat.le_of_ble_eq_true rfl) (Nat.le_of_ble_eq_true rfl) dX0_copyFrom_27 (fun s27 => ?_)
    refine rr_aload_n hG dX0_copyFrom_30 rfl 0 rfl ?_
    refine rr_aload_n hG dX0_copyFrom_31 rfl 1 rfl ?_
    refine gf_X0_18 hL1 hG (by decide) dX0_copyFrom_32 (fun z32 => ?_)
    refine pf_X0_18 hL0 hG (by decide) dX0_copyFrom_35 (fun s35 => ?_)
    refine rr_aload_n hG dX0_copyFrom_38 rfl 0 rfl ?_
    refine rr_aload_n hG dX0_copyFrom_39 rfl 1 rfl ?_
    refine gf_X0_22 hL1 hG (by decide) dX0_copyFrom_40 (fun z40 => ?_)
    refine pf_X0_22 hL0 hG (by decide) dX0_copyFrom_43 (fun s43 => ?_)
    exact rr_vret hG ho dX0_copyFrom_46
  exact h
set_option maxRecDepth 100000 in
set_option maxHeartbeats 4000000 in
theorem c_X0_cut (l : Launch) (E : bd_E) (hE : bd_ok E 10) (L0 : Nat) (p1 : Int32) (p2 : Int32) (p3 : Int32) (hL0 : bd_isL L0) (s_ : bd_S) : bd_M bd_Qv l yX0_cut cX0_cut 4 none 1 21 E [.ref (bd_ad E L0), .int p1, .int p2, .int p3] s_ (f_X0_cut L0 p1 p2 p3 s_) := by
  refine bd_open bd_Qv (by decide +kernel) hE (Nat.le_of_ble_eq_true rfl) (fun G out hG hGE hGl ho => ?_)
  subst hGE
  have hG : bd_OK G cX0_cut 4 RX0 10 1 21 none := hG
  have h : bd_WF G out (f_X0_cut L0 p1 p2 p3 s_) s_ 0 [(0, .ref (bd_ad (g_E G) L0)), (1, .int p1), (2, .int p2), (3, .int p3)] [] := by
    unfold f_X0_cut
    refine rr_aload_n hG dX0_cut_0 rfl 0 rfl ?_
    refine gf_X0_9 hL0 hG (by decide) dX0_cut_1 ?_
    refine rr_iload_n hG dX0_cut_4 rfl 1 rfl ?_
    refine rr_aload_n hG dX0_cut_5 rfl 0 rfl ?_
    refine gf_X0_9 hL0 hG (by decide) dX0_cut_6 ?_
    refine rr_iload_n hG dX0_cut_9 rfl 1 rfl ?_
    refine rr_iald hG (bd_kL1 hL0) (bd_bL1 hL0 (by decide)) dX0_cut_10 (fun z10 => ?_)
    refine rr_iload_n hG dX0_cut_11 rfl 2 rfl ?_
    refine rr_mmax hG mm_X0_31 mt_max1 mt_max2 mt_max3 (Nat.le_of_ble_eq_true rfl) (Nat.le_of_ble_eq_true rfl) dX0_cut_12 (fun z12 => ?_)
    refine rr_iast hG (bd_kL1 hL0) (bd_bL1 hL0 (by decide)) dX0_cut_15 (fun s15 => ?_)
    refine rr_aload_n hG dX0_cut_16 rfl 0 rfl ?_
    refine gf_X0_15 hL0 hG (by decide) dX0_cut_17 ?_
    refine rr_iload_n hG dX0_cut_20 rfl 1 rfl ?_
    refine rr_aload_n hG dX0_cut_21 rfl 0 rfl ?_
    refine gf_X0_15 hL0 hG (by decide) dX0_cut_22 ?_
    refine rr_iload_n hG dX0_cut_25 rfl 1 rfl ?_
    refine rr_iald hG (bd_kL2 hL0) (bd_bL2 hL0 (by decide)) dX0_cut_26 (fun z26 => ?_)
    refine rr_iload_n hG dX0_cut_27 rfl 3 rfl ?_
    refine rr_mmin hG mm_X0_37 mt_min1 mt_min2 mt_min3 (Nat.le_of_ble_eq_true rfl) (Nat.le_of_ble_eq_true rfl) dX0_cut_28 (fun z28 => ?_)
    refine rr_iast hG (bd_kL2 hL0) (bd_bL2 hL0 (by decide)) dX0_cut_31 (fun s31 => ?_)
    exact rr_vret hG ho dX0_cut_32
  exact h
set_option maxRecDepth 100000 in
set_option maxHeartbeats 4000000 in
theorem c_J9_floorDiv_7cf53 (l : Launch) (E : bd_E) (hE : bd_ok E 10) (p0 : Int32) (p1 : Int32) (s_ : bd_S) : bd_M bd_Qi l yJ9_floorDiv_7cf53 cJ9_floorDiv_7cf53 3 (some .int) 0 0 E [.int p0, .int p1] s_ (f_J9_floorDiv_7cf53 p0 p1 s_) := by
  refine bd_open bd_Qi (by decide +kernel) hE (Nat.le_of_ble_eq_true rfl) (fun G out hG hGE hGl ho => ?_)
  subst hGE
  have hG : bd_OK G cJ9_floorDiv_7cf53 3 RJ9 10 0 0 (some .int) := hG
  have h : bd_WF G out (f_J9_floorDiv_7cf53 p0 p1 s_) s_ 0 [(0, .int p0), (1, .int p1)] [] := by
    unfold f_J9_floorDiv_7cf53
    refine rr_iload_n hG dJ9_floorDiv_7cf53_0 rfl 0 rfl ?_
    refine rr_iload_n hG dJ9_floorDiv_7cf53_1 rfl 1 rfl ?_
    refine rr_idiv hG dJ9_floorDiv_7cf53_2 (fun z2 => ?_)
    refine rr_istore_n (lr := [(0, .int p0), (1, .int p1)]) hG dJ9_floorDiv_7cf53_3 rfl (by decide) rfl ?_
    refine rr_iload_n hG dJ9_floorDiv_7cf53_4 rfl 1 rfl ?_
    refine rr_iload_n hG dJ9_floorDiv_7cf53_5 rfl 2 rfl ?_
    refine rr_ixor hG dJ9_floorDiv_7cf53_6 (fun z6 => ?_)
    refine rr_if_ge hG 21 dJ9_floorDiv_7cf53_7 (by decide) ?_ ?_
    · refine rr_iload_n hG dJ9_floorDiv_7cf53_21 rfl 0 rfl ?_
      exact rr_iret hG ho dJ9_floorDiv_7cf53_22
    · refine rr_iload_n hG dJ9_floorDiv_7cf53_10 rfl 0 rfl ?_
      refine rr_iload_n hG dJ9_floorDiv_7cf53_11 rfl 2 rfl ?_
      refine rr_imul hG dJ9_floorDiv_7cf53_12 (fun z12 => ?_)
      refine rr_iload_n hG dJ9_floorDiv_7cf53_13 rfl 1 rfl ?_
      refine rr_icmp_eq hG 21 dJ9_floorDiv_7cf53_14 (by decide) ?_ ?_
      · refine rr_iload_n hG dJ9_floorDiv_7cf53_21 rfl 0 rfl ?_
        exact rr_iret hG ho dJ9_floorDiv_7cf53_22
      · refine rr_iload_n hG dJ9_floorDiv_7cf53_17 rfl 0 rfl ?_
        refine rr_iconst (v := 1) hG dJ9_floorDiv_7cf53_18 (by decide) ?_
        refine rr_isub hG dJ9_floorDiv_7cf53_19 (fun z19 => ?_)
        exact rr_iret hG ho dJ9_floorDiv_7cf53_20
  exact h
set_option maxRecDepth 100000 in
set_option maxHeartbeats 4000000 in
theorem c_X2_cutUp (l : Launch) (E : bd_E) (hE : bd_ok E 10) (p0 : Int32) (p1 : Int32) (s_ : bd_S) : bd_M bd_Qi l yX2_cutUp cX2_cutUp 2 (some .int) 1 22 E [.int p0, .int p1] s_ (f_X2_cutUp p0 p1 s_) := by
  refine bd_open bd_Qi (by decide +kernel) hE (Nat.le_of_ble_eq_true rfl) (fun G out hG hGE hGl ho => ?_)
  subst hGE
  have hG : bd_OK G cX2_cutUp 2 RX2 10 1 22 (some .int) := hG
  have h : bd_WF G out (f_X2_cutUp p0 p1 s_) s_ 0 [(0, .int p0), (1, .int p1)] [] := by
    unfold f_X2_cutUp
    refine rr_iload_n hG dX2_cutUp_0 rfl 0 rfl ?_
    refine rr_ineg hG dX2_cutUp_1 (fun z1 => ?_)
    refine rr_iload_n hG dX2_cutUp_2 rfl 1 rfl ?_
    refine rr_cSi hG [.int z1, .int p1] (c_J9_floorDiv_7cf53 (g_l G) (g_E G) (hG.hE.mono (by decide)) z1 p1 s_) lk_X2_218 sm_J9_floorDiv_7cf53 (Nat.le_of_ble_eq_true rfl) (Nat.le_of_ble_eq_true rfl) rfl rfl (Nat.le_of_ble_eq_true rfl) dX2_cutUp_3 (fun z3 s3 => ?_)
    refine rr_ineg hG dX2_cutUp_6 (fun z6 => ?_)
    exact rr_iret hG ho dX2_cutUp_7
  exact h
set_option maxRecDepth 100000 in
set_option maxHeartbeats 4000000 in
theorem b_X0_narrowGain_73 {G : bd_G} {out : Unit × bd_S} (hG : bd_OK G cX0_narrowGain 6 RX0 10 2 43 none) (ho : bd_ends bd_Qv G out) {k12 : Int32 → Int32 → Nat → bd_S → Option (Unit × bd_S)} (hk12 : ∀ (x2 : Int32) (x1 : Int32) (L0 : Nat) (hL0 : bd_isL L0) (s_ : bd_S), bd_WF G out (k12 x2 x1 L0 s_) s_ 12 [(2, .int x2), (1, .int x1), (0, .ref (bd_ad (g_E G) L0))] []) (x5 : Int32) (x3 : Int32) (x2 : Int32) (x1 : Int32) (L0 : Nat) (hL0 : bd_isL L0) (s_ : bd_S) : bd_WF G out (f_X0_narrowGain_73 k12 x5 x3 x2 x1 L0 s_) s_ 73 [(5, .int x5), (3, .int x3), (2, .int x2), (1, .int x1), (0, .ref (bd_ad (g_E G) L0))] [] := by
  unfold f_X0_narrowGain_73
  refine rr_iload hG dX0_narrowGain_73 0 rfl ?_
  refine rr_aload_n hG dX0_narrowGain_75 rfl 4 rfl ?_
  refine gf_X0_22 hL0 hG (by decide) dX0_narrowGain_76 (fun z76 => ?_)
  refine rr_iload_n hG dX0_narrowGain_79 rfl 1 rfl ?_
  refine rr_imul hG dX0_narrowGain_80 (fun z80 => ?_)
  refine rr_icmp_ge hG 94 dX0_narrowGain_81 (by decide) ?_ ?_
  · refine rr_iinc (v := 1) (lr := [(5, .int x5), (3, .int x3), (1, .int x1), (0, .ref (bd_ad (g_E G) L0))]) hG dX0_narrowGain_94 2 rfl (by decide) (by decide) rfl (fun z94 => ?_)
    refine rr_goto (tgt := 12) hG dX0_narrowGain_97 (by decide) ?_
    exact rr_sub [0, 3, 4] rfl (hk12 z94 x1 L0 hL0 s_)
  · refine rr_aload_n hG dX0_narrowGain_84 rfl 4 rfl ?_
    refine rr_iload hG dX0_narrowGain_85 0 rfl ?_
    refine rr_iload_n hG dX0_narrowGain_87 rfl 1 rfl ?_
    refine rr_cSi hG [.int x5, .int x3] (c_J9_floorDiv_7cf53 (g_l G) (g_E G) (hG.hE.mono (by decide)) x5 x3 s_) lk_X0_49 sm_J9_floorDiv_7cf53 (Nat.le_of_ble_eq_true rfl) (Nat.le_of_ble_eq_true rfl) rfl rfl (Nat.le_of_ble_eq_true rfl) dX0_narrowGain_88 (fun z88 s88 => ?_)
    refine pf_X0_22 hL0 hG (by decide) dX0_narrowGain_91 (fun s91 => ?_)
    refine rr_iinc (v := 1) (lr := [(5, .int x5), (3, .int x3), (1, .int x1), (0, .ref (bd_ad (g_E G) L0))]) hG dX0_narrowGain_94 2 rfl (by decide) (by decide) rfl (fun z94 => ?_)
    refine rr_goto (tgt := 12) hG dX0_narrowGain_97 (by decide) ?_
    exact rr_sub [0, 3, 4] rfl (hk12 z94 x1 L0 hL0 s91)
set_option maxRecDepth 100000 in
set_option maxHeartbeats 4000000 in
theorem b_X0_narrowGain_12 {G : bd_G} {out : Unit × bd_S} (hG : bd_OK G cX0_narrowGain 6 RX0 10 2 43 none) (ho : bd_ends bd_Qv G out) {k100 : Int32 → Nat → bd_S → Option (Unit × bd_S)} (hk100 : ∀ (x1 : Int32) (L0 : Nat) (hL0 : bd_isL L0) (s_ : bd_S), bd_WF G out (k100 x1 L0 s_) s_ 100 [(1, .int x1), (0, .ref (bd_ad (g_E G) L0))] []) : ∀ (n_ : Nat) (x2 : Int32) (x1 : Int32) (L0 : Nat) (hL0 : bd_isL L0) (s_ : bd_S), bd_WF G out (f_X0_narrowGain_12 k100 n_ x2 x1 L0 s_) s_ 12 [(2, .int x2), (1, .int x1), (0, .ref (bd_ad (g_E G) L0))] [] := by
  intro n_
  induction n_ with
  | zero => intros; intro hF; cases hF
  | succ n_ ih =>
    intro x2 x1 L0 hL0 s_
    rw [f_X0_narrowGain_12]
    refine rr_iload_n hG dX0_narrowGain_12 rfl 0 rfl ?_
    refine rr_bipush (v := 20) hG dX0_narrowGain_13 (by decide) ?_
    refine rr_icmp_ge hG 100 dX0_narrowGain_15 (by decide) ?_ ?_
    · exact rr_sub [1, 2] rfl (hk100 x1 L0 hL0 s_)
    · refine rr_iload_n hG dX0_narrowGain_18 rfl 0 rfl ?_
      refine rr_iload_n hG dX0_narrowGain_19 rfl 1 rfl ?_
      refine rr_isub hG dX0_narrowGain_20 (fun z20 => ?_)
      refine rr_istore_n (lr := [(2, .int x2), (1, .int x1), (0, .ref (bd_ad (g_E G) L0))]) hG dX0_narrowGain_21 rfl (by decide) rfl ?_
      refine rr_aload_n hG dX0_narrowGain_22 rfl 3 rfl ?_
      refine gf_X0_9 hL0 hG (by decide) dX0_narrowGain_23 ?_
      refine rr_iload_n hG dX0_narrowGain_26 rfl 1 rfl ?_
      refine rr_iald hG (bd_kL1 hL0) (bd_bL1 hL0 (by decide)) dX0_narrowGain_27 (fun z27 => ?_)
      refine rr_aload_n hG dX0_narrowGain_28 rfl 3 rfl ?_
      refine gf_X0_15 hL0 hG (by decide) dX0_narrowGain_29 ?_
      refine rr_iload_n hG dX0_narrowGain_32 rfl 2 rfl ?_
      refine rr_iald hG (bd_kL2 hL0) (bd_bL2 hL0 (by decide)) dX0_narrowGain_33 (fun z33 => ?_)
      refine rr_isub hG dX0_narrowGain_34 (fun z34 => ?_)
      refine rr_istore (lr := [(3, .int z20), (2, .int x2), (1, .int x1), (0, .ref (bd_ad (g_E G) L0))]) hG dX0_narrowGain_35 (by decide) rfl ?_
      refine rr_aload_n hG dX0_narrowGain_37 rfl 4 rfl ?_
      refine gf_X0_15 hL0 hG (by decide) dX0_narrowGain_38 ?_
      refine rr_iload_n hG dX0_narrowGain_41 rfl 2 rfl ?_
      refine rr_iald hG (bd_kL2 hL0) (bd_bL2 hL0 (by decide)) dX0_narrowGain_42 (fun z42 => ?_)
      refine rr_aload_n hG dX0_narrowGain_43 rfl 4 rfl ?_
      refine gf_X0_9 hL0 hG (by decide) dX0_narrowGain_44 ?_
      refine rr_iload_n hG dX0_narrowGain_47 rfl 3 rfl ?_
      refine rr_iald hG (bd_kL1 hL0) (bd_bL1 hL0 (by decide)) dX0_narrowGain_48 (fun z48 => ?_)
      refine rr_isub hG dX0_narrowGain_49 (fun z49 => ?_)
      refine rr_istore (lr := [(4, .int z34), (3, .int z20), (2, .int x2), (1, .int x1), (0, .ref (bd_ad (g_E G) L0))]) hG dX0_narrowGain_50 (by decide) rfl ?_
      refine rr_iload hG dX0_narrowGain_52 1 rfl ?_
      refine rr_aload_n hG dX0_narrowGain_54 rfl 5 rfl ?_
      refine gf_X0_18 hL0 hG (by decide) dX0_narrowGain_55 (fun z55 => ?_)
      refine rr_iload_n hG dX0_narrowGain_58 rfl 2 rfl ?_
      refine rr_imul hG dX0_narrowGain_59 (fun z59 => ?_)
      refine rr_icmp_le hG 73 dX0_narrowGain_60 (by decide) ?_ ?_
      · exact rr_sub [0, 2, 3, 4, 5] rfl (b_X0_narrowGain_73 hG ho ih z49 z20 x2 x1 L0 hL0 s_)
      · refine rr_aload_n hG dX0_narrowGain_63 rfl 5 rfl ?_
        refine rr_iload hG dX0_narrowGain_64 1 rfl ?_
        refine rr_iload_n hG dX0_narrowGain_66 rfl 2 rfl ?_
        refine rr_cMi hG [.int z34, .int z20] (c_X2_cutUp (g_l G) (g_E G) (hG.hE.mono (by decide)) z34 z20 s_) lk_X0_46 sm_X2_cutUp (Nat.le_of_ble_eq_true rfl) (Nat.le_of_ble_eq_true rfl) rfl rfl (Nat.le_of_ble_eq_true rfl) dX0_narrowGain_67 (fun z67 s67 => ?_)
        refine pf_X0_18 hL0 hG (by decide) dX0_narrowGain_70 (fun s70 => ?_)
        exact rr_sub [0, 2, 3, 4, 5] rfl (b_X0_narrowGain_73 hG ho ih z49 z20 x2 x1 L0 hL0 s70)
set_option maxRecDepth 100000 in
set_option maxHeartbeats 4000000 in
theorem b_X0_narrowGain_2 {G : bd_G} {out : Unit × bd_S} (hG : bd_OK G cX0_narrowGain 6 RX0 10 2 43 none) (ho : bd_ends bd_Qv G out) : ∀ (n_ : Nat) (x1 : Int32) (L0 : Nat) (hL0 : bd_isL L0) (s_ : bd_S), bd_WF G out (f_X0_narrowGain_2 n_ x1 L0 s_) s_ 2 [(1, .int x1), (0, .ref (bd_ad (g_E G) L0))] [] := by
  intro n_
  induction n_ with
  | zero => intros; intro hF; cases hF
  | succ n_ ih =>
    intro x1 L0 hL0 s_
    rw [f_X0_narrowGain_2]
    refine rr_iload_n hG dX0_narrowGain_2 rfl 0 rfl ?_
    refine rr_bipush (v := 20) hG dX0_narrowGain_3 (by decide) ?_
    refine rr_icmp_ge hG 106 dX0_narrowGain_5 (by decide) ?_ ?_
    · exact rr_vret hG ho dX0_narrowGain_106
    · refine rr_iload_n hG dX0_narrowGain_8 rfl 0 rfl ?_
      refine rr_iconst (v := 1) hG dX0_narrowGain_9 (by decide) ?_
      refine rr_iadd hG dX0_narrowGain_10 (fun z10 => ?_)
      refine rr_istore_n (lr := [(1, .int x1), (0, .ref (bd_ad (g_E G) L0))]) hG dX0_narrowGain_11 rfl (by decide) rfl ?_
      refine (b_X0_narrowGain_12 hG ho (fun x1e L0e hL0e e100 => ?_) FU_ z10 x1 L0 hL0 s_)
      · refine rr_iinc (v := 1) (lr := [(0, .ref (bd_ad (g_E G) L0e))]) hG dX0_narrowGain_100 0 rfl (by decide) (by decide) rfl (fun z100 => ?_)
        refine rr_goto (tgt := 2) hG dX0_narrowGain_103 (by decide) ?_
        exact ih z100 L0e hL0e e100
set_option maxRecDepth 100000 in
set_option maxHeartbeats 4000000 in
theorem c_X0_narrowGain (l : Launch) (E : bd_E) (hE : bd_ok E 10) (L0 : Nat) (hL0 : bd_isL L0) (s_ : bd_S) : bd_M bd_Qv l yX0_narrowGain cX0_narrowGain 6 none 2 43 E [.ref (bd_ad E L0)] s_ (f_X0_narrowGain L0 s_) := by
  refine bd_open bd_Qv (by decide +kernel) hE (Nat.le_of_ble_eq_true rfl) (fun G out hG hGE hGl ho => ?_)
  subst hGE
  have hG : bd_OK G cX0_narrowGain 6 RX0 10 2 43 none := hG
  have h : bd_WF G out (f_X0_narrowGain L0 s_) s_ 0 [(0, .ref (bd_ad (g_E G) L0))] [] := by
    unfold f_X0_narrowGain
    refine rr_iconst (v := 0) hG dX0_narrowGain_0 (by decide) ?_
    refine rr_istore_n (lr := [(0, .ref (bd_ad (g_E G) L0))]) hG dX0_narrowGain_1 rfl (by decide) rfl ?_
    exact (b_X0_narrowGain_2 hG ho FU_ 0 L0 hL0 s_)
  exact h
set_option maxRecDepth 100000 in
set_option maxHeartbeats 4000000 in
theorem b_X0_narrowDays_2 {G : bd_G} {out : Unit × bd_S} (hG : bd_OK G cX0_narrowDays 2 RX0 10 2 44 none) (ho : bd_ends bd_Qv G out) {k45 : Nat → bd_S → Option (Unit × bd_S)} (hk45 : ∀ (L0 : Nat) (hL0 : bd_isL L0) (s_ : bd_S), bd_WF G out (k45 L0 s_) s_ 45 [(0, .ref (bd_ad (g_E G) L0))] []) : ∀ (n_ : Nat) (x1 : Int32) (L0 : Nat) (hL0 : bd_isL L0) (s_ : bd_S), bd_WF G out (f_X0_narrowDays_2 k45 n_ x1 L0 s_) s_ 2 [(1, .int x1), (0, .ref (bd_ad (g_E G) L0))] [] := by
  intro n_
  induction n_ with
  | zero => intros; intro hF; cases hF
  | succ n_ ih =>
    intro x1 L0 hL0 s_
    rw [f_X0_narrowDays_2]
    refine rr_iload_n hG dX0_narrowDays_2 rfl 0 rfl ?_
    refine rr_bipush (v := 20) hG dX0_narrowDays_3 (by decide) ?_
    refine rr_icmp_ge hG 45 dX0_narrowDays_5 (by decide) ?_ ?_
    · exact rr_sub [1] rfl (hk45 L0 hL0 s_)
    · refine rr_aload_n hG dX0_narrowDays_8 rfl 1 rfl ?_
      refine rr_iload_n hG dX0_narrowDays_9 rfl 0 rfl ?_
      refine rr_aload_n hG dX0_narrowDays_10 rfl 1 rfl ?_
      refine gf_X0_9 hL0 hG (by decide) dX0_narrowDays_11 ?_
      refine rr_iload_n hG dX0_narrowDays_14 rfl 0 rfl ?_
      refine rr_iconst (v := 1) hG dX0_narrowDays_15 (by decide) ?_
      refine rr_isub hG dX0_narrowDays_16 (fun z16 => ?_)
      refine rr_iald hG (bd_kL1 hL0) (bd_bL1 hL0 (by decide)) dX0_narrowDays_17 (fun z17 => ?_)
      refine rr_aload_n hG dX0_narrowDays_18 rfl 1 rfl ?_
      refine gf_X0_18 hL0 hG (by decide) dX0_narrowDays_19 (fun z19 => ?_)
      refine rr_iadd hG dX0_narrowDays_22 (fun z22 => ?_)
      refine rr_aload_n hG dX0_narrowDays_23 rfl 1 rfl ?_
      refine gf_X0_15 hL0 hG (by decide) dX0_narrowDays_24 ?_
      refine rr_iload_n hG dX0_narrowDays_27 rfl 0 rfl ?_
      refine rr_iconst (v := 1) hG dX0_narrowDays_28 (by decide) ?_
      refine rr_isub hG dX0_narrowDays_29 (fun z29 => ?_)
      refine rr_iald hG (bd_kL2 hL0) (bd_bL2 hL0 (by decide)) dX0_narrowDays_30 (fun z30 => ?_)
      refine rr_aload_n hG dX0_narrowDays_31 rfl 1 rfl ?_
      refine gf_X0_22 hL0 hG (by decide) dX0_narrowDays_32 (fun z32 => ?_)
      refine rr_iadd hG dX0_narrowDays_35 (fun z35 => ?_)
      refine rr_cVv hG [.int x1, .int z22, .int z35] (c_X0_cut (g_l G) (g_E G) (hG.hE.mono (by decide)) L0 x1 z22 z35 hL0 s_) lk_X0_52 im_X0_cut se_X0_cut (bd_kL0 hL0) (bd_bL0 hL0 (by decide)) (by decide) rfl rfl (Nat.le_of_ble_eq_true rfl) (Nat.le_of_ble_eq_true rfl) rfl rfl (Nat.le_of_ble_eq_true rfl) dX0_narrowDays_36 (fun s36 => ?_)
      refine rr_iinc (v := 1) (lr := [(0, .ref (bd_ad (g_E G) L0))]) hG dX0_narrowDays_39 0 rfl (by decide) (by decide) rfl (fun z39 => ?_)
      refine rr_goto (tgt := 2) hG dX0_narrowDays_42 (by decide) ?_
      exact ih z39 L0 hL0 s36
set_option maxRecDepth 100000 in
set_option maxHeartbeats 4000000 in
theorem b_X0_narrowDays_48 {G : bd_G} {out : Unit × bd_S} (hG : bd_OK G cX0_narrowDays 2 RX0 10 2 44 none) (ho : bd_ends bd_Qv G out) : ∀ (n_ : Nat) (x1 : Int32) (Lv0 : Nat) (hLv0 : bd_isL Lv0) (s_ : bd_S), bd_WF G out (f_X0_narrowDays_48 n_ x1 Lv0 s_) s_ 48 [(1, .int x1), (0, .ref (bd_ad (g_E G) Lv0))] [] := by
  intro n_
  induction n_ with
  | zero => intros; intro hF; cases hF
  | succ n_ ih =>
    intro x1 Lv0 hLv0 s_
    rw [f_X0_narrowDays_48]
    refine rr_iload_n hG dX0_narrowDays_48 rfl 0 rfl ?_
    refine rr_if_lt hG 89 dX0_narrowDays_49 (by decide) ?_ ?_
    · exact rr_vret hG ho dX0_narrowDays_89
    · refine rr_aload_n hG dX0_narrowDays_52 rfl 1 rfl ?_
      refine rr_iload_n hG dX0_narrowDays_53 rfl 0 rfl ?_
      refine rr_aload_n hG dX0_narrowDays_54 rfl 1 rfl ?_
      refine gf_X0_9 hLv0 hG (by decide) dX0_narrowDays_55 ?_
      refine rr_iload_n hG dX0_narrowDays_58 rfl 0 rfl ?_
      refine rr_iconst (v := 1) hG dX0_narrowDays_59 (by decide) ?_
      refine rr_iadd hG dX0_narrowDays_60 (fun z60 => ?_)
      refine rr_iald hG (bd_kL1 hLv0) (bd_bL1 hLv0 (by decide)) dX0_narrowDays_61 (fun z61 => ?_)
      refine rr_aload_n hG dX0_narrowDays_62 rfl 1 rfl ?_
      refine gf_X0_22 hLv0 hG (by decide) dX0_narrowDays_63 (fun z63 => ?_)
      refine rr_isub hG dX0_narrowDays_66 (fun z66 => ?_)
      refine rr_aload_n hG dX0_narrowDays_67 rfl 1 rfl ?_
      refine gf_X0_15 hLv0 hG (by decide) dX0_narrowDays_68 ?_
      refine rr_iload_n hG dX0_narrowDays_71 rfl 0 rfl ?_
      refine rr_iconst (v := 1) hG dX0_narrowDays_72 (by decide) ?_
      refine rr_iadd hG dX0_narrowDays_73 (fun z73 => ?_)
      refine rr_iald hG (bd_kL2 hLv0) (bd_bL2 hLv0 (by decide)) dX0_narrowDays_74 (fun z74 => ?_)
      refine rr_aload_n hG dX0_narrowDays_75 rfl 1 rfl ?_
      refine gf_X0_18 hLv0 hG (by decide) dX0_narrowDays_76 (fun z76 => ?_)
      refine rr_isub hG dX0_narrowDays_79 (fun z79 => ?_)
      refine rr_cVv hG [.int x1, .int z66, .int z79] (c_X0_cut (g_l G) (g_E G) (hG.hE.mono (by decide)) Lv0 x1 z66 z79 hLv0 s_) lk_X0_52 im_X0_cut se_X0_cut (bd_kL0 hLv0) (bd_bL0 hLv0 (by decide)) (by decide) rfl rfl (Nat.le_of_ble_eq_true rfl) (Nat.le_of_ble_eq_true rfl) rfl rfl (Nat.le_of_ble_eq_true rfl) dX0_narrowDays_80 (fun s80 => ?_)
      refine rr_iinc (v := (-1)) (lr := [(0, .ref (bd_ad (g_E G) Lv0))]) hG dX0_narrowDays_83 0 rfl (by decide) (by decide) rfl (fun z83 => ?_)
      refine rr_goto (tgt := 48) hG dX0_narrowDays_86 (by decide) ?_
      exact ih z83 Lv0 hLv0 s80
set_option maxRecDepth 100000 in
set_option maxHeartbeats 4000000 in
theorem c_X0_narrowDays (l : Launch) (E : bd_E) (hE : bd_ok E 10) (L0 : Nat) (hL0 : bd_isL L0) (s_ : bd_S) : bd_M bd_Qv l yX0_narrowDays cX0_narrowDays 2 none 2 44 E [.ref (bd_ad E L0)] s_ (f_X0_narrowDays L0 s_) := by
  refine bd_open bd_Qv (by decide +kernel) hE (Nat.le_of_ble_eq_true rfl) (fun G out hG hGE hGl ho => ?_)
  subst hGE
  have hG : bd_OK G cX0_narrowDays 2 RX0 10 2 44 none := hG
  have h : bd_WF G out (f_X0_narrowDays L0 s_) s_ 0 [(0, .ref (bd_ad (g_E G) L0))] [] := by
    unfold f_X0_narrowDays
    refine rr_iconst (v := 1) hG dX0_narrowDays_0 (by decide) ?_
    refine rr_istore_n (lr := [(0, .ref (bd_ad (g_E G) L0))]) hG dX0_narrowDays_1 rfl (by decide) rfl ?_
    refine (b_X0_narrowDays_2 hG ho (fun L0e hL0e e45 => ?_) FU_ 1 L0 hL0 s_)
    · refine rr_bipush (v := 18) hG dX0_narrowDays_45 (by decide) ?_
      refine rr_istore_n (lr := [(0, .ref (bd_ad (g_E G) L0e))]) hG dX0_narrowDays_47 rfl (by decide) rfl ?_
      exact (b_X0_narrowDays_48 hG ho FU_ 18 L0e hL0e e45)
  exact h
set_option maxRecDepth 100000 in
set_option maxHeartbeats 4000000 in
theorem b_X0_narrow_2 {G : bd_G} {out : Int32 × bd_S} (hG : bd_OK G cX0_narrow 2 RX0 10 3 68 (some .boolean)) (ho : bd_ends bd_Qi G out) {k31 : Nat → bd_S → Option (Int32 × bd_S)} (hk31 : ∀ (L0 : Nat) (hL0 : bd_isL L0) (s_ : bd_S), bd_WF G out (k31 L0 s_) s_ 31 [(0, .ref (bd_ad (g_E G) L0))] []) : ∀ (n_ : Nat) (x1 : Int32) (L0 : Nat) (hL0 : bd_isL L0) (s_ : bd_S), bd_WF G out (f_X0_narrow_2 k31 n_ x1 L0 s_) s_ 2 [(1, .int x1), (0, .ref (bd_ad (g_E G) L0))] [] := by
  intro n_
  induction n_ with
  | zero => intros; intro hF; cases hF
  | succ n_ ih =>
    intro x1 L0 hL0 s_
    rw [f_X0_narrow_2]
    refine rr_iload_n hG dX0_narrow_2 rfl 0 rfl ?_
    refine rr_bipush (v := 20) hG dX0_narrow_3 (by decide) ?_
    refine rr_icmp_ge hG 31 dX0_narrow_5 (by decide) ?_ ?_
    · exact rr_sub [1] rfl (hk31 L0 hL0 s_)
    · refine rr_aload_n hG dX0_narrow_8 rfl 1 rfl ?_
      refine gf_X0_9 hL0 hG (by decide) dX0_narrow_9 ?_
      refine rr_iload_n hG dX0_narrow_12 rfl 0 rfl ?_
      refine rr_iald hG (bd_kL1 hL0) (bd_bL1 hL0 (by decide)) dX0_narrow_13 (fun z13 => ?_)
      refine rr_aload_n hG dX0_narrow_14 rfl 1 rfl ?_
      refine gf_X0_15 hL0 hG (by decide) dX0_narrow_15 ?_
      refine rr_iload_n hG dX0_narrow_18 rfl 0 rfl ?_
      refine rr_iald hG (bd_kL2 hL0) (bd_bL2 hL0 (by decide)) dX0_narrow_19 (fun z19 => ?_)
      refine rr_icmp_le hG 25 dX0_narrow_20 (by decide) ?_ ?_
      · refine rr_iinc (v := 1) (lr := [(0, .ref (bd_ad (g_E G) L0))]) hG dX0_narrow_25 0 rfl (by decide) (by decide) rfl (fun z25 => ?_)
        refine rr_goto (tgt := 2) hG dX0_narrow_28 (by decide) ?_
        exact ih z25 L0 hL0 s_
      · refine rr_iconst (v := 0) hG dX0_narrow_23 (by decide) ?_
        exact rr_zret hG ho dX0_narrow_24
set_option maxRecDepth 100000 in
set_option maxHeartbeats 4000000 in
theorem c_X0_narrow (l : Launch) (E : bd_E) (hE : bd_ok E 10) (L0 : Nat) (hL0 : bd_isL L0) (s_ : bd_S) : bd_M bd_Qi l yX0_narrow cX0_narrow 2 (some .boolean) 3 68 E [.ref (bd_ad E L0)] s_ (f_X0_narrow L0 s_) := by
  refine bd_open bd_Qi (by decide +kernel) hE (Nat.le_of_ble_eq_true rfl) (fun G out hG hGE hGl ho => ?_)
  subst hGE
  have hG : bd_OK G cX0_narrow 2 RX0 10 3 68 (some .boolean) := hG
  have h : bd_WF G out (f_X0_narrow L0 s_) s_ 0 [(0, .ref (bd_ad (g_E G) L0))] [] := by
    unfold f_X0_narrow
    refine rr_iconst (v := 0) hG dX0_narrow_0 (by decide) ?_
    refine rr_istore_n (lr := [(0, .ref (bd_ad (g_E G) L0))]) hG dX0_narrow_1 rfl (by decide) rfl ?_
    refine (b_X0_narrow_2 hG ho (fun L0e hL0e e31 => ?_) FU_ 0 L0 hL0 s_)
    · refine rr_aload_n hG dX0_narrow_31 rfl 0 rfl ?_
      refine rr_cVv hG [] (c_X0_narrowGain (g_l G) (g_E G) (hG.hE.mono (by decide)) L0e hL0e e31) lk_X0_40 im_X0_narrowGain se_X0_narrowGain (bd_kL0 hL0e) (bd_bL0 hL0e (by decide)) (by decide) rfl rfl (Nat.le_of_ble_eq_true rfl) (Nat.le_of_ble_eq_true rfl) rfl rfl (Nat.le_of_ble_eq_true rfl) dX0_narrow_32 (fun s32 => ?_)
      refine rr_aload_n hG dX0_narrow_35 rfl 0 rfl ?_
      refine gf_X0_18 hL0e hG (by decide) dX0_narrow_36 (fun z36 => ?_)
      refine rr_aload_n hG dX0_narrow_39 rfl 0 rfl ?_
      refine gf_X0_22 hL0e hG (by decide) dX0_narrow_40 (fun z40 => ?_)
      refine rr_icmp_le hG 48 dX0_narrow_43 (by decide) ?_ ?_
      · refine rr_aload_n hG dX0_narrow_48 rfl 0 rfl ?_
        refine rr_cVv hG [] (c_X0_narrowDays (g_l G) (g_E G) (hG.hE.mono (by decide)) L0e hL0e s32) lk_X0_43 im_X0_narrowDays se_X0_narrowDays (bd_kL0 hL0e) (bd_bL0 hL0e (by decide)) (by decide) rfl rfl (Nat.le_of_ble_eq_true rfl) (Nat.le_of_ble_eq_true rfl) rfl rfl (Nat.le_of_ble_eq_true rfl) dX0_narrow_49 (fun s49 => ?_)
        refine rr_iconst (v := 1) hG dX0_narrow_52 (by decide) ?_
        exact rr_zret hG ho dX0_narrow_53
      · refine rr_iconst (v := 0) hG dX0_narrow_46 (by decide) ?_
        exact rr_zret hG ho dX0_narrow_47
  exact h
set_option maxRecDepth 100000 in
set_option maxHeartbeats 4000000 in
theorem c_X2_star (l : Launch) (E : bd_E) (hE : bd_ok E 55) (p1 : Int32) (p2 : Int32) (s_ : bd_S) : bd_M bd_Qi l yX2_star cX2_star 3 (some .int) 4 89 E [.ref (bd_ad E 0), .int p1, .int p2] s_ (f_X2_star p1 p2 s_) := by
  refine bd_open bd_Qi (by decide +kernel) hE (Nat.le_of_ble_eq_true rfl) (fun G out hG hGE hGl ho => ?_)
  subst hGE
  have hG : bd_OK G cX2_star 3 RX2 55 4 89 (some .int) := hG
  have h : bd_WF G out (f_X2_star p1 p2 s_) s_ 0 [(0, .ref (bd_ad (g_E G) 0)), (1, .int p1), (2, .int p2)] [] := by
    unfold f_X2_star
    refine rr_iload_n hG dX2_star_0 rfl 1 rfl ?_
    refine rr_cSi hG [.int p1] (c_X2_noDay (g_l G) (g_E G) (hG.hE.mono (by decide)) p1 s_) lk_X2_64 sm_X2_noDay (Nat.le_of_ble_eq_true rfl) (Nat.le_of_ble_eq_true rfl) rfl rfl (Nat.le_of_ble_eq_true rfl) dX2_star_1 (fun z1 s1 => ?_)
    refine rr_if_eq hG 9 dX2_star_4 (by decide) ?_ ?_
    · refine rr_iload_n hG dX2_star_9 rfl 2 rfl ?_
      refine rr_sipush (v := 600) hG dX2_star_10 (by decide) ?_
      refine rr_cSi hG [.int p2, .int 600] (c_X2_beyond (g_l G) (g_E G) (hG.hE.mono (by decide)) p2 600 s1) lk_X2_68 sm_X2_beyond (Nat.le_of_ble_eq_true rfl) (Nat.le_of_ble_eq_true rfl) rfl rfl (Nat.le_of_ble_eq_true rfl) dX2_star_13 (fun z13 s13 => ?_)
      refine rr_if_eq hG 22 dX2_star_16 (by decide) ?_ ?_
      · refine rr_aload_n hG dX2_star_22 rfl 0 rfl ?_
        refine gf_X2_72 hG (by decide) dX2_star_23 (fun z23 => ?_)
        refine rr_bipush (v := 20) hG dX2_star_26 (by decide) ?_
        refine rr_icmp_lt hG 34 dX2_star_28 (by decide) ?_ ?_
        · refine rr_aload_n hG dX2_star_34 rfl 0 rfl ?_
          refine gf_X2_16 hG (by decide) dX2_star_35 ?_
          refine rr_aload_n hG dX2_star_38 rfl 0 rfl ?_
          refine gf_X2_10 hG (by decide) dX2_star_39 ?_
          refine rr_cNv hG [.ref (bd_ad (g_E G) 1)] (c_X0_copyFrom (g_l G) (g_E G) (hG.hE.mono (by decide)) 4 1 bd_c4 bd_c1 s13) lk_X2_75 im_X0_copyFrom se_X0_copyFrom rfl (by decide) (by decide) rfl rfl (Nat.le_of_ble_eq_true rfl) (Nat.le_of_ble_eq_true rfl) rfl rfl (Nat.le_of_ble_eq_true rfl) dX2_star_42 (fun s42 => ?_)
          refine rr_aload_n hG dX2_star_45 rfl 0 rfl ?_
          refine gf_X2_16 hG (by decide) dX2_star_46 ?_
          refine rr_iload_n hG dX2_star_49 rfl 1 rfl ?_
          refine rr_iload_n hG dX2_star_50 rfl 2 rfl ?_
          refine rr_aload_n hG dX2_star_51 rfl 0 rfl ?_
          refine gf_X2_53 hG (by decide) dX2_star_52 (fun z52 => ?_)
          refine rr_isub hG dX2_star_55 (fun z55 => ?_)
          refine rr_iload_n hG dX2_star_56 rfl 2 rfl ?_
          refine rr_aload_n hG dX2_star_57 rfl 0 rfl ?_
          refine gf_X2_53 hG (by decide) dX2_star_58 (fun z58 => ?_)
          refine rr_iadd hG dX2_star_61 (fun z61 => ?_)
          refine rr_cNv hG [.int p1, .int z55, .int z61] (c_X0_cut (g_l G) (g_E G) (hG.hE.mono (by decide)) 4 p1 z55 z61 bd_c4 s42) lk_X2_79 im_X0_cut se_X0_cut rfl (by decide) (by decide) rfl rfl (Nat.le_of_ble_eq_true rfl) (Nat.le_of_ble_eq_true rfl) rfl rfl (Nat.le_of_ble_eq_true rfl) dX2_star_62 (fun s62 => ?_)
          refine rr_aload_n hG dX2_star_65 rfl 0 rfl ?_
          refine gf_X2_16 hG (by decide) dX2_star_66 ?_
          refine rr_cNi hG [] (c_X0_narrow (g_l G) (g_E G) (hG.hE.mono (by decide)) 4 bd_c4 s62) lk_X2_83 im_X0_narrow se_X0_narrow rfl (by decide) (by decide) rfl rfl (Nat.le_of_ble_eq_true rfl) (Nat.le_of_ble_eq_true rfl) rfl rfl (Nat.le_of_ble_eq_true rfl) dX2_star_69 (fun z69 s69 => ?_)
          refine rr_if_ne hG 78 dX2_star_72 (by decide) ?_ ?_
          · refine rr_aload_n hG dX2_star_78 rfl 0 rfl ?_
            refine gf_X2_10 hG (by decide) dX2_star_79 ?_
            refine rr_aload_n hG dX2_star_82 rfl 0 rfl ?_
            refine gf_X2_16 hG (by decide) dX2_star_83 ?_
            refine rr_cNv hG [.ref (bd_ad (g_E G) 4)] (c_X0_copyFrom (g_l G) (g_E G) (hG.hE.mono (by decide)) 1 4 bd_c1 bd_c4 s69) lk_X2_75 im_X0_copyFrom se_X0_copyFrom rfl (by decide) (by decide) rfl rfl (Nat.le_of_ble_eq_true rfl) (Nat.le_of_ble_eq_true rfl) rfl rfl (Nat.le_of_ble_eq_true rfl) dX2_star_86 (fun s86 => ?_)
            refine rr_aload_n hG dX2_star_89 rfl 0 rfl ?_
            refine rr_dup hG dX2_star_90 rfl ?_
            refine gf_X2_72 hG (by decide) dX2_star_91 (fun z91 => ?_)
            refine rr_iconst (v := 1) hG dX2_star_94 (by decide) ?_
            refine rr_iadd hG dX2_star_95 (fun z95 => ?_)
            refine pf_X2_72 hG (by decide) dX2_star_96 (fun s96 => ?_)
            refine rr_aload_n hG dX2_star_99 rfl 0 rfl ?_
            refine gf_X2_72 hG (by decide) dX2_star_100 (fun z100 => ?_)
            exact rr_iret hG ho dX2_star_103
          · refine rr_bipush (v := (-5)) hG dX2_star_75 (by decide) ?_
            exact rr_iret hG ho dX2_star_77
        · refine rr_bipush (v := (-4)) hG dX2_star_31 (by decide) ?_
          exact rr_iret hG ho dX2_star_33
      · refine rr_bipush (v := (-2)) hG dX2_star_19 (by decide) ?_
        exact rr_iret hG ho dX2_star_21
    · refine rr_iconst (v := (-1)) hG dX2_star_7 (by decide) ?_
      exact rr_iret hG ho dX2_star_8
  exact h
set_option maxRecDepth 100000 in
set_option maxHeartbeats 4000000 in
theorem c_X2_outside (l : Launch) (E : bd_E) (hE : bd_ok E 10) (p0 : Int32) (p1 : Int32) (p2 : Int32) (s_ : bd_S) : bd_M bd_Qi l yX2_outside cX2_outside 3 (some .boolean) 0 0 E [.int p0, .int p1, .int p2] s_ (f_X2_outside p0 p1 p2 s_) := by
  refine bd_open bd_Qi (by decide +kernel) hE (Nat.le_of_ble_eq_true rfl) (fun G out hG hGE hGl ho => ?_)
  subst hGE
  have hG : bd_OK G cX2_outside 3 RX2 10 0 0 (some .boolean) := hG
  have h : bd_WF G out (f_X2_outside p0 p1 p2 s_) s_ 0 [(0, .int p0), (1, .int p1), (2, .int p2)] [] := by
    unfold f_X2_outside
    refine rr_iload_n hG dX2_outside_0 rfl 0 rfl ?_
    refine rr_iload_n hG dX2_outside_1 rfl 1 rfl ?_
    refine rr_icmp_lt hG 10 dX2_outside_2 (by decide) ?_ ?_
    · refine rr_iconst (v := 1) hG dX2_outside_10 (by decide) ?_
      refine rr_goto (tgt := 15) hG dX2_outside_11 (by decide) ?_
      exact rr_zret hG ho dX2_outside_15
    · refine rr_iload_n hG dX2_outside_5 rfl 0 rfl ?_
      refine rr_iload_n hG dX2_outside_6 rfl 2 rfl ?_
      refine rr_icmp_le hG 14 dX2_outside_7 (by decide) ?_ ?_
      · refine rr_iconst (v := 0) hG dX2_outside_14 (by decide) ?_
        exact rr_zret hG ho dX2_outside_15
      · refine rr_iconst (v := 1) hG dX2_outside_10 (by decide) ?_
        refine rr_goto (tgt := 15) hG dX2_outside_11 (by decide) ?_
        exact rr_zret hG ho dX2_outside_15
  exact h
set_option maxRecDepth 100000 in
set_option maxHeartbeats 4000000 in
theorem c_X2_care (l : Launch) (E : bd_E) (hE : bd_ok E 55) (p1 : Int32) (s_ : bd_S) : bd_M bd_Qi l yX2_care cX2_care 3 (some .int) 1 22 E [.ref (bd_ad E 0), .int p1] s_ (f_X2_care p1 s_) := by
  refine bd_open bd_Qi (by decide +kernel) hE (Nat.le_of_ble_eq_true rfl) (fun G out hG hGE hGl ho => ?_)
  subst hGE
  have hG : bd_OK G cX2_care 3 RX2 55 1 22 (some .int) := hG
  have h : bd_WF G out (f_X2_care p1 s_) s_ 0 [(0, .ref (bd_ad (g_E G) 0)), (1, .int p1)] [] := by
    unfold f_X2_care
    refine rr_iload_n hG dX2_care_0 rfl 1 rfl ?_
    refine rr_iconst (v := 0) hG dX2_care_1 (by decide) ?_
    refine rr_bipush (v := 9) hG dX2_care_2 (by decide) ?_
    refine rr_cSi hG [.int p1, .int 0, .int 9] (c_X2_outside (g_l G) (g_E G) (hG.hE.mono (by decide)) p1 0 9 s_) lk_X2_87 sm_X2_outside (Nat.le_of_ble_eq_true rfl) (Nat.le_of_ble_eq_true rfl) rfl rfl (Nat.le_of_ble_eq_true rfl) dX2_care_4 (fun z4 s4 => ?_)
    refine rr_if_eq hG 13 dX2_care_7 (by decide) ?_ ?_
    · refine rr_aload_n hG dX2_care_13 rfl 0 rfl ?_
      refine gf_X2_53 hG (by decide) dX2_care_14 (fun z14 => ?_)
      refine rr_istore_n (lr := [(0, .ref (bd_ad (g_E G) 0)), (1, .int p1)]) hG dX2_care_17 rfl (by decide) rfl ?_
      refine rr_aload_n hG dX2_care_18 rfl 1 rfl ?_
      refine rr_iload_n hG dX2_care_19 rfl 2 rfl ?_
      refine pf_X2_53 hG (by decide) dX2_care_20 (fun s20 => ?_)
      refine rr_iload_n hG dX2_care_23 rfl 0 rfl ?_
      exact rr_iret hG ho dX2_care_24
    · refine rr_bipush (v := (-2)) hG dX2_care_10 (by decide) ?_
      exact rr_iret hG ho dX2_care_12
  exact h
set_option maxRecDepth 100000 in
set_option maxHeartbeats 4000000 in
theorem c_X2_noEnd (l : Launch) (E : bd_E) (hE : bd_ok E 10) (p0 : Int32) (s_ : bd_S) : bd_M bd_Qi l yX2_noEnd cX2_noEnd 1 (some .boolean) 0 0 E [.int p0] s_ (f_X2_noEnd p0 s_) := by
  refine bd_open bd_Qi (by decide +kernel) hE (Nat.le_of_ble_eq_true rfl) (fun G out hG hGE hGl ho => ?_)
  subst hGE
  have hG : bd_OK G cX2_noEnd 1 RX2 10 0 0 (some .boolean) := hG
  have h : bd_WF G out (f_X2_noEnd p0 s_) s_ 0 [(0, .int p0)] [] := by
    unfold f_X2_noEnd
    refine rr_iload_n hG dX2_noEnd_0 rfl 0 rfl ?_
    refine rr_if_eq hG 13 dX2_noEnd_1 (by decide) ?_ ?_
    · refine rr_iconst (v := 0) hG dX2_noEnd_13 (by decide) ?_
      exact rr_zret hG ho dX2_noEnd_14
    · refine rr_iload_n hG dX2_noEnd_4 rfl 0 rfl ?_
      refine rr_iconst (v := 1) hG dX2_noEnd_5 (by decide) ?_
      refine rr_icmp_eq hG 13 dX2_noEnd_6 (by decide) ?_ ?_
      · refine rr_iconst (v := 0) hG dX2_noEnd_13 (by decide) ?_
        exact rr_zret hG ho dX2_noEnd_14
      · refine rr_iconst (v := 1) hG dX2_noEnd_9 (by decide) ?_
        refine rr_goto (tgt := 14) hG dX2_noEnd_10 (by decide) ?_
        exact rr_zret hG ho dX2_noEnd_14
  exact h
set_option maxRecDepth 100000 in
set_option maxHeartbeats 4000000 in
theorem c_X2_off (l : Launch) (E : bd_E) (hE : bd_ok E 55) (p1 : Int32) (p2 : Int32) (s_ : bd_S) : bd_M bd_Qi l yX2_off cX2_off 3 (some .int) 1 20 E [.ref (bd_ad E 0), .int p1, .int p2] s_ (f_X2_off p1 p2 s_) := by
  refine bd_open bd_Qi (by decide +kernel) hE (Nat.le_of_ble_eq_true rfl) (fun G out hG hGE hGl ho => ?_)
  subst hGE
  have hG : bd_OK G cX2_off 3 RX2 55 1 20 (some .int) := hG
  have h : bd_WF G out (f_X2_off p1 p2 s_) s_ 0 [(0, .ref (bd_ad (g_E G) 0)), (1, .int p1), (2, .int p2)] [] := by
    unfold f_X2_off
    refine rr_iload_n hG dX2_off_0 rfl 1 rfl ?_
    refine rr_cSi hG [.int p1] (c_X2_noDay (g_l G) (g_E G) (hG.hE.mono (by decide)) p1 s_) lk_X2_64 sm_X2_noDay (Nat.le_of_ble_eq_true rfl) (Nat.le_of_ble_eq_true rfl) rfl rfl (Nat.le_of_ble_eq_true rfl) dX2_off_1 (fun z1 s1 => ?_)
    refine rr_if_eq hG 10 dX2_off_4 (by decide) ?_ ?_
    · refine rr_iload_n hG dX2_off_10 rfl 2 rfl ?_
      refine rr_cSi hG [.int p2] (c_X2_noEnd (g_l G) (g_E G) (hG.hE.mono (by decide)) p2 s1) lk_X2_92 sm_X2_noEnd (Nat.le_of_ble_eq_true rfl) (Nat.le_of_ble_eq_true rfl) rfl rfl (Nat.le_of_ble_eq_true rfl) dX2_off_11 (fun z11 s11 => ?_)
      refine rr_if_eq hG 20 dX2_off_14 (by decide) ?_ ?_
      · refine rr_iload_n hG dX2_off_20 rfl 2 rfl ?_
        refine rr_if_ne hG 36 dX2_off_21 (by decide) ?_ ?_
        · refine rr_aload_n hG dX2_off_36 rfl 0 rfl ?_
          refine gf_X2_10 hG (by decide) dX2_off_37 ?_
          refine gf_X2_99 bd_c1 hG (by decide) dX2_off_40 ?_
          refine rr_iload_n hG dX2_off_43 rfl 1 rfl ?_
          refine rr_iald hG rfl (by decide) dX2_off_44 (fun z44 => ?_)
          exact rr_iret hG ho dX2_off_45
        · refine rr_aload_n hG dX2_off_24 rfl 0 rfl ?_
          refine gf_X2_10 hG (by decide) dX2_off_25 ?_
          refine gf_X2_96 bd_c1 hG (by decide) dX2_off_28 ?_
          refine rr_iload_n hG dX2_off_31 rfl 1 rfl ?_
          refine rr_iald hG rfl (by decide) dX2_off_32 (fun z32 => ?_)
          refine rr_goto (tgt := 45) hG dX2_off_33 (by decide) ?_
          exact rr_iret hG ho dX2_off_45
      · refine rr_ldc (v := (-100000002)) hG kc_X2_95 dX2_off_17 ?_
        exact rr_iret hG ho dX2_off_19
    · refine rr_ldc (v := (-100000001)) hG kc_X2_91 dX2_off_7 ?_
      exact rr_iret hG ho dX2_off_9
  exact h
set_option maxRecDepth 100000 in
set_option maxHeartbeats 4000000 in
theorem c_X2_rate (l : Launch) (E : bd_E) (hE : bd_ok E 55) (p1 : Int32) (s_ : bd_S) : bd_M bd_Qi l yX2_rate cX2_rate 2 (some .int) 1 20 E [.ref (bd_ad E 0), .int p1] s_ (f_X2_rate p1 s_) := by
  refine bd_open bd_Qi (by decide +kernel) hE (Nat.le_of_ble_eq_true rfl) (fun G out hG hGE hGl ho => ?_)
  subst hGE
  have hG : bd_OK G cX2_rate 2 RX2 55 1 20 (some .int) := hG
  have h : bd_WF G out (f_X2_rate p1 s_) s_ 0 [(0, .ref (bd_ad (g_E G) 0)), (1, .int p1)] [] := by
    unfold f_X2_rate
    refine rr_iload_n hG dX2_rate_0 rfl 1 rfl ?_
    refine rr_cSi hG [.int p1] (c_X2_noEnd (g_l G) (g_E G) (hG.hE.mono (by decide)) p1 s_) lk_X2_92 sm_X2_noEnd (Nat.le_of_ble_eq_true rfl) (Nat.le_of_ble_eq_true rfl) rfl rfl (Nat.le_of_ble_eq_true rfl) dX2_rate_1 (fun z1 s1 => ?_)
    refine rr_if_eq hG 10 dX2_rate_4 (by decide) ?_ ?_
    · refine rr_iload_n hG dX2_rate_10 rfl 1 rfl ?_
      refine rr_if_ne hG 24 dX2_rate_11 (by decide) ?_ ?_
      · refine rr_aload_n hG dX2_rate_24 rfl 0 rfl ?_
        refine gf_X2_10 hG (by decide) dX2_rate_25 ?_
        refine gf_X2_105 bd_c1 hG (by decide) dX2_rate_28 (fun z28 => ?_)
        exact rr_iret hG ho dX2_rate_31
      · refine rr_aload_n hG dX2_rate_14 rfl 0 rfl ?_
        refine gf_X2_10 hG (by decide) dX2_rate_15 ?_
        refine gf_X2_102 bd_c1 hG (by decide) dX2_rate_18 (fun z18 => ?_)
        refine rr_goto (tgt := 31) hG dX2_rate_21 (by decide) ?_
        exact rr_iret hG ho dX2_rate_31
    · refine rr_ldc (v := (-100000002)) hG kc_X2_95 dX2_rate_7 ?_
      exact rr_iret hG ho dX2_rate_9
  exact h
set_option maxRecDepth 100000 in
set_option maxHeartbeats 4000000 in
theorem c_X2_slow (l : Launch) (E : bd_E) (hE : bd_ok E 55) (p1 : Int32) (p2 : Int32) (p3 : Int32) (s_ : bd_S) : bd_M bd_Qi l yX2_slow cX2_slow 5 (some .int) 1 22 E [.ref (bd_ad E 0), .int p1, .int p2, .int p3] s_ (f_X2_slow p1 p2 p3 s_) := by
  refine bd_open bd_Qi (by decide +kernel) hE (Nat.le_of_ble_eq_true rfl) (fun G out hG hGE hGl ho => ?_)
  subst hGE
  have hG : bd_OK G cX2_slow 5 RX2 55 1 22 (some .int) := hG
  have h : bd_WF G out (f_X2_slow p1 p2 p3 s_) s_ 0 [(0, .ref (bd_ad (g_E G) 0)), (1, .int p1), (2, .int p2), (3, .int p3)] [] := by
    unfold f_X2_slow
    refine rr_iload_n hG dX2_slow_0 rfl 1 rfl ?_
    refine rr_iconst (v := 0) hG dX2_slow_1 (by decide) ?_
    refine rr_iconst (v := 1) hG dX2_slow_2 (by decide) ?_
    refine rr_cSi hG [.int p1, .int 0, .int 1] (c_X2_outside (g_l G) (g_E G) (hG.hE.mono (by decide)) p1 0 1 s_) lk_X2_87 sm_X2_outside (Nat.le_of_ble_eq_true rfl) (Nat.le_of_ble_eq_true rfl) rfl rfl (Nat.le_of_ble_eq_true rfl) dX2_slow_3 (fun z3 s3 => ?_)
    refine rr_if_ne hG 29 dX2_slow_6 (by decide) ?_ ?_
    · refine rr_bipush (v := (-2)) hG dX2_slow_29 (by decide) ?_
      exact rr_iret hG ho dX2_slow_31
    · refine rr_iload_n hG dX2_slow_9 rfl 2 rfl ?_
      refine rr_iconst (v := 0) hG dX2_slow_10 (by decide) ?_
      refine rr_bipush (v := 50) hG dX2_slow_11 (by decide) ?_
      refine rr_cSi hG [.int p2, .int 0, .int 50] (c_X2_outside (g_l G) (g_E G) (hG.hE.mono (by decide)) p2 0 50 s3) lk_X2_87 sm_X2_outside (Nat.le_of_ble_eq_true rfl) (Nat.le_of_ble_eq_true rfl) rfl rfl (Nat.le_of_ble_eq_true rfl) dX2_slow_13 (fun z13 s13 => ?_)
      refine rr_if_ne hG 29 dX2_slow_16 (by decide) ?_ ?_
      · refine rr_bipush (v := (-2)) hG dX2_slow_29 (by decide) ?_
        exact rr_iret hG ho dX2_slow_31
      · refine rr_iload_n hG dX2_slow_19 rfl 3 rfl ?_
        refine rr_iload_n hG dX2_slow_20 rfl 2 rfl ?_
        refine rr_bipush (v := 50) hG dX2_slow_21 (by decide) ?_
        refine rr_cSi hG [.int p3, .int p2, .int 50] (c_X2_outside (g_l G) (g_E G) (hG.hE.mono (by decide)) p3 p2 50 s13) lk_X2_87 sm_X2_outside (Nat.le_of_ble_eq_true rfl) (Nat.le_of_ble_eq_true rfl) rfl rfl (Nat.le_of_ble_eq_true rfl) dX2_slow_23 (fun z23 s23 => ?_)
        refine rr_if_eq hG 32 dX2_slow_26 (by decide) ?_ ?_
        · refine rr_bipush (v := 100) hG dX2_slow_32 (by decide) ?_
          refine rr_aload_n hG dX2_slow_34 rfl 0 rfl ?_
          refine gf_X2_22 hG (by decide) dX2_slow_35 ?_
          refine rr_iload_n hG dX2_slow_38 rfl 1 rfl ?_
          refine rr_iald hG rfl (by decide) dX2_slow_39 (fun z39 => ?_)
          refine rr_imul hG dX2_slow_40 (fun z40 => ?_)
          refine rr_aload_n hG dX2_slow_41 rfl 0 rfl ?_
          refine gf_X2_26 hG (by decide) dX2_slow_42 ?_
          refine rr_iload_n hG dX2_slow_45 rfl 1 rfl ?_
          refine rr_iald hG rfl (by decide) dX2_slow_46 (fun z46 => ?_)
          refine rr_iadd hG dX2_slow_47 (fun z47 => ?_)
          refine rr_istore (lr := [(0, .ref (bd_ad (g_E G) 0)), (1, .int p1), (2, .int p2), (3, .int p3)]) hG dX2_slow_48 (by decide) rfl ?_
          refine rr_aload_n hG dX2_slow_50 rfl 1 rfl ?_
          refine gf_X2_22 hG (by decide) dX2_slow_51 ?_
          refine rr_iload_n hG dX2_slow_54 rfl 2 rfl ?_
          refine rr_iload_n hG dX2_slow_55 rfl 3 rfl ?_
          refine rr_iast hG rfl (by decide) dX2_slow_56 (fun s56 => ?_)
          refine rr_aload_n hG dX2_slow_57 rfl 1 rfl ?_
          refine gf_X2_26 hG (by decide) dX2_slow_58 ?_
          refine rr_iload_n hG dX2_slow_61 rfl 2 rfl ?_
          refine rr_iload_n hG dX2_slow_62 rfl 4 rfl ?_
          refine rr_iast hG rfl (by decide) dX2_slow_63 (fun s63 => ?_)
          refine rr_iload hG dX2_slow_64 0 rfl ?_
          exact rr_iret hG ho dX2_slow_66
        · refine rr_bipush (v := (-2)) hG dX2_slow_29 (by decide) ?_
          exact rr_iret hG ho dX2_slow_31
  exact h
set_option maxRecDepth 100000 in
set_option maxHeartbeats 4000000 in
theorem c_X2_slip (l : Launch) (E : bd_E) (hE : bd_ok E 55) (p1 : Int32) (p2 : Int32) (s_ : bd_S) : bd_M bd_Qi l yX2_slip cX2_slip 4 (some .int) 1 21 E [.ref (bd_ad E 0), .int p1, .int p2] s_ (f_X2_slip p1 p2 s_) := by
  refine bd_open bd_Qi (by decide +kernel) hE (Nat.le_of_ble_eq_true rfl) (fun G out hG hGE hGl ho => ?_)
  subst hGE
  have hG : bd_OK G cX2_slip 4 RX2 55 1 21 (some .int) := hG
  have h : bd_WF G out (f_X2_slip p1 p2 s_) s_ 0 [(0, .ref (bd_ad (g_E G) 0)), (1, .int p1), (2, .int p2)] [] := by
    unfold f_X2_slip
    refine rr_iload_n hG dX2_slip_0 rfl 1 rfl ?_
    refine rr_cSi hG [.int p1] (c_X2_noDay (g_l G) (g_E G) (hG.hE.mono (by decide)) p1 s_) lk_X2_64 sm_X2_noDay (Nat.le_of_ble_eq_true rfl) (Nat.le_of_ble_eq_true rfl) rfl rfl (Nat.le_of_ble_eq_true rfl) dX2_slip_1 (fun z1 s1 => ?_)
    refine rr_if_eq hG 10 dX2_slip_4 (by decide) ?_ ?_
    · refine rr_iload_n hG dX2_slip_10 rfl 2 rfl ?_
      refine rr_bipush (v := 60) hG dX2_slip_11 (by decide) ?_
      refine rr_cSi hG [.int p2, .int 60] (c_X2_beyond (g_l G) (g_E G) (hG.hE.mono (by decide)) p2 60 s1) lk_X2_68 sm_X2_beyond (Nat.le_of_ble_eq_true rfl) (Nat.le_of_ble_eq_true rfl) rfl rfl (Nat.le_of_ble_eq_true rfl) dX2_slip_13 (fun z13 s13 => ?_)
      refine rr_if_eq hG 22 dX2_slip_16 (by decide) ?_ ?_
      · refine rr_aload_n hG dX2_slip_22 rfl 0 rfl ?_
        refine gf_X2_29 hG (by decide) dX2_slip_23 ?_
        refine rr_iload_n hG dX2_slip_26 rfl 1 rfl ?_
        refine rr_iald hG rfl (by decide) dX2_slip_27 (fun z27 => ?_)
        refine rr_istore_n (lr := [(0, .ref (bd_ad (g_E G) 0)), (1, .int p1), (2, .int p2)]) hG dX2_slip_28 rfl (by decide) rfl ?_
        refine rr_aload_n hG dX2_slip_29 rfl 1 rfl ?_
        refine gf_X2_29 hG (by decide) dX2_slip_30 ?_
        refine rr_iload_n hG dX2_slip_33 rfl 2 rfl ?_
        refine rr_iload_n hG dX2_slip_34 rfl 3 rfl ?_
        refine rr_iast hG rfl (by decide) dX2_slip_35 (fun s35 => ?_)
        refine rr_iload_n hG dX2_slip_36 rfl 0 rfl ?_
        exact rr_iret hG ho dX2_slip_37
      · refine rr_ldc (v := (-100000002)) hG kc_X2_95 dX2_slip_19 ?_
        exact rr_iret hG ho dX2_slip_21
    · refine rr_ldc (v := (-100000001)) hG kc_X2_91 dX2_slip_7 ?_
      exact rr_iret hG ho dX2_slip_9
  exact h
set_option maxRecDepth 100000 in
set_option maxHeartbeats 4000000 in
theorem c_X2_bitOf (l : Launch) (E : bd_E) (hE : bd_ok E 10) (p0 : Int32) (p1 : Int32) (s_ : bd_S) : bd_M bd_Qi l yX2_bitOf cX2_bitOf 2 (some .int) 0 0 E [.int p0, .int p1] s_ (f_X2_bitOf p0 p1 s_) := by
  refine bd_open bd_Qi (by decide +kernel) hE (Nat.le_of_ble_eq_true rfl) (fun G out hG hGE hGl ho => ?_)
  subst hGE
  have hG : bd_OK G cX2_bitOf 2 RX2 10 0 0 (some .int) := hG
  have h : bd_WF G out (f_X2_bitOf p0 p1 s_) s_ 0 [(0, .int p0), (1, .int p1)] [] := by
    unfold f_X2_bitOf
    refine rr_iload_n hG dX2_bitOf_0 rfl 0 rfl ?_
    refine rr_iload_n hG dX2_bitOf_1 rfl 1 rfl ?_
    refine rr_ishr hG dX2_bitOf_2 (fun z2 => ?_)
    refine rr_iconst (v := 1) hG dX2_bitOf_3 (by decide) ?_
    refine rr_iand hG dX2_bitOf_4 (fun z4 => ?_)
    exact rr_iret hG ho dX2_bitOf_5
  exact h
set_option maxRecDepth 100000 in
set_option maxHeartbeats 4000000 in
theorem c_X2_withBit (l : Launch) (E : bd_E) (hE : bd_ok E 10) (p0 : Int32) (p1 : Int32) (p2 : Int32) (s_ : bd_S) : bd_M bd_Qi l yX2_withBit cX2_withBit 3 (some .int) 0 0 E [.int p0, .int p1, .int p2] s_ (f_X2_withBit p0 p1 p2 s_) := by
  refine bd_open bd_Qi (by decide +kernel) hE (Nat.le_of_ble_eq_true rfl) (fun G out hG hGE hGl ho => ?_)
  subst hGE
  have hG : bd_OK G cX2_withBit 3 RX2 10 0 0 (some .int) := hG
  have h : bd_WF G out (f_X2_withBit p0 p1 p2 s_) s_ 0 [(0, .int p0), (1, .int p1), (2, .int p2)] [] := by
    unfold f_X2_withBit
    refine rr_iload_n hG dX2_withBit_0 rfl 2 rfl ?_
    refine rr_if_eq hG 12 dX2_withBit_1 (by decide) ?_ ?_
    · refine rr_iload_n hG dX2_withBit_12 rfl 0 rfl ?_
      refine rr_iconst (v := 1) hG dX2_withBit_13 (by decide) ?_
      refine rr_iload_n hG dX2_withBit_14 rfl 1 rfl ?_
      refine rr_ishl hG dX2_withBit_15 (fun z15 => ?_)
      refine rr_iconst (v := (-1)) hG dX2_withBit_16 (by decide) ?_
      refine rr_ixor hG dX2_withBit_17 (fun z17 => ?_)
      refine rr_iand hG dX2_withBit_18 (fun z18 => ?_)
      exact rr_iret hG ho dX2_withBit_19
    · refine rr_iload_n hG dX2_withBit_4 rfl 0 rfl ?_
      refine rr_iconst (v := 1) hG dX2_withBit_5 (by decide) ?_
      refine rr_iload_n hG dX2_withBit_6 rfl 1 rfl ?_
      refine rr_ishl hG dX2_withBit_7 (fun z7 => ?_)
      refine rr_ior hG dX2_withBit_8 (fun z8 => ?_)
      refine rr_goto (tgt := 19) hG dX2_withBit_9 (by decide) ?_
      exact rr_iret hG ho dX2_withBit_19
  exact h
set_option maxRecDepth 100000 in
set_option maxHeartbeats 4000000 in
theorem c_X2_back (l : Launch) (E : bd_E) (hE : bd_ok E 55) (p1 : Int32) (p2 : Int32) (s_ : bd_S) : bd_M bd_Qi l yX2_back cX2_back 4 (some .int) 1 22 E [.ref (bd_ad E 0), .int p1, .int p2] s_ (f_X2_back p1 p2 s_) := by
  refine bd_open bd_Qi (by decide +kernel) hE (Nat.le_of_ble_eq_true rfl) (fun G out hG hGE hGl ho => ?_)
  subst hGE
  have hG : bd_OK G cX2_back 4 RX2 55 1 22 (some .int) := hG
  have h : bd_WF G out (f_X2_back p1 p2 s_) s_ 0 [(0, .ref (bd_ad (g_E G) 0)), (1, .int p1), (2, .int p2)] [] := by
    unfold f_X2_back
    refine rr_iload_n hG dX2_back_0 rfl 1 rfl ?_
    refine rr_cSi hG [.int p1] (c_X2_noDay (g_l G) (g_E G) (hG.hE.mono (by decide)) p1 s_) lk_X2_64 sm_X2_noDay (Nat.le_of_ble_eq_true rfl) (Nat.le_of_ble_eq_true rfl) rfl rfl (Nat.le_of_ble_eq_true rfl) dX2_back_1 (fun z1 s1 => ?_)
    refine rr_if_eq hG 9 dX2_back_4 (by decide) ?_ ?_
    · refine rr_aload_n hG dX2_back_9 rfl 0 rfl ?_
      refine gf_X2_108 hG (by decide) dX2_back_10 (fun z10 => ?_)
      refine rr_iload_n hG dX2_back_13 rfl 1 rfl ?_
      refine rr_cSi hG [.int z10, .int p1] (c_X2_bitOf (g_l G) (g_E G) (hG.hE.mono (by decide)) z10 p1 s1) lk_X2_111 sm_X2_bitOf (Nat.le_of_ble_eq_true rfl) (Nat.le_of_ble_eq_true rfl) rfl rfl (Nat.le_of_ble_eq_true rfl) dX2_back_14 (fun z14 s14 => ?_)
      refine rr_istore_n (lr := [(0, .ref (bd_ad (g_E G) 0)), (1, .int p1), (2, .int p2)]) hG dX2_back_17 rfl (by decide) rfl ?_
      refine rr_aload_n hG dX2_back_18 rfl 1 rfl ?_
      refine rr_aload_n hG dX2_back_19 rfl 1 rfl ?_
      refine gf_X2_108 hG (by decide) dX2_back_20 (fun z20 => ?_)
      refine rr_iload_n hG dX2_back_23 rfl 2 rfl ?_
      refine rr_iload_n hG dX2_back_24 rfl 3 rfl ?_
      refine rr_cSi hG [.int z20, .int p1, .int p2] (c_X2_withBit (g_l G) (g_E G) (hG.hE.mono (by decide)) z20 p1 p2 s14) lk_X2_115 sm_X2_withBit (Nat.le_of_ble_eq_true rfl) (Nat.le_of_ble_eq_true rfl) rfl rfl (Nat.le_of_ble_eq_true rfl) dX2_back_25 (fun z25 s25 => ?_)
      refine pf_X2_108 hG (by decide) dX2_back_28 (fun s28 => ?_)
      refine rr_iload_n hG dX2_back_31 rfl 0 rfl ?_
      exact rr_iret hG ho dX2_back_32
    · refine rr_iconst (v := (-1)) hG dX2_back_7 (by decide) ?_
      exact rr_iret hG ho dX2_back_8
  exact h
set_option maxRecDepth 100000 in
set_option maxHeartbeats 4000000 in
theorem c_X2_middleOff (l : Launch) (E : bd_E) (hE : bd_ok E 55) (p1 : Int32) (s_ : bd_S) : bd_M bd_Qi l yX2_middleOff cX2_middleOff 2 (some .int) 1 22 E [.ref (bd_ad E 0), .int p1] s_ (f_X2_middleOff p1 s_) := by
  refine bd_open bd_Qi (by decide +kernel) hE (Nat.le_of_ble_eq_true rfl) (fun G out hG hGE hGl ho => ?_)
  subst hGE
  have hG : bd_OK G cX2_middleOff 2 RX2 55 1 22 (some .int) := hG
  have h : bd_WF G out (f_X2_middleOff p1 s_) s_ 0 [(0, .ref (bd_ad (g_E G) 0)), (1, .int p1)] [] := by
    unfold f_X2_middleOff
    refine rr_aload_n hG dX2_middleOff_0 rfl 0 rfl ?_
    refine gf_X2_10 hG (by decide) dX2_middleOff_1 ?_
    refine gf_X2_96 bd_c1 hG (by decide) dX2_middleOff_4 ?_
    refine rr_iload_n hG dX2_middleOff_7 rfl 1 rfl ?_
    refine rr_iald hG rfl (by decide) dX2_middleOff_8 (fun z8 => ?_)
    refine rr_aload_n hG dX2_middleOff_9 rfl 0 rfl ?_
    refine gf_X2_10 hG (by decide) dX2_middleOff_10 ?_
    refine gf_X2_99 bd_c1 hG (by decide) dX2_middleOff_13 ?_
    refine rr_iload_n hG dX2_middleOff_16 rfl 1 rfl ?_
    refine rr_iald hG rfl (by decide) dX2_middleOff_17 (fun z17 => ?_)
    refine rr_iadd hG dX2_middleOff_18 (fun z18 => ?_)
    refine rr_iconst (v := 2) hG dX2_middleOff_19 (by decide) ?_
    refine rr_cSi hG [.int z18, .int 2] (c_J9_floorDiv_7cf53 (g_l G) (g_E G) (hG.hE.mono (by decide)) z18 2 s_) lk_X2_218 sm_J9_floorDiv_7cf53 (Nat.le_of_ble_eq_true rfl) (Nat.le_of_ble_eq_true rfl) rfl rfl (Nat.le_of_ble_eq_true rfl) dX2_middleOff_20 (fun z20 s20 => ?_)
    exact rr_iret hG ho dX2_middleOff_23
  exact h
set_option maxRecDepth 100000 in
set_option maxHeartbeats 4000000 in
theorem c_X2_greatestLate (l : Launch) (E : bd_E) (hE : bd_ok E 55) (p1 : Int32) (s_ : bd_S) : bd_M bd_Qi l yX2_greatestLate cX2_greatestLate 2 (some .int) 2 43 E [.ref (bd_ad E 0), .int p1] s_ (f_X2_greatestLate p1 s_) := by
  refine bd_open bd_Qi (by decide +kernel) hE (Nat.le_of_ble_eq_true rfl) (fun G out hG hGE hGl ho => ?_)
  subst hGE
  have hG : bd_OK G cX2_greatestLate 2 RX2 55 2 43 (some .int) := hG
  have h : bd_WF G out (f_X2_greatestLate p1 s_) s_ 0 [(0, .ref (bd_ad (g_E G) 0)), (1, .int p1)] [] := by
    unfold f_X2_greatestLate
    refine rr_aload_n hG dX2_greatestLate_0 rfl 0 rfl ?_
    refine rr_iload_n hG dX2_greatestLate_1 rfl 1 rfl ?_
    refine rr_cVi hG [.int p1] (c_X2_middleOff (g_l G) (g_E G) (hG.hE.mono (by decide)) p1 s_) lk_X2_221 im_X2_middleOff se_X2_middleOff rfl (by decide) (by decide) rfl rfl (Nat.le_of_ble_eq_true rfl) (Nat.le_of_ble_eq_true rfl) rfl rfl (Nat.le_of_ble_eq_true rfl) dX2_greatestLate_2 (fun z2 s2 => ?_)
    refine rr_aload_n hG dX2_greatestLate_5 rfl 0 rfl ?_
    refine gf_X2_10 hG (by decide) dX2_greatestLate_6 ?_
    refine gf_X2_96 bd_c1 hG (by decide) dX2_greatestLate_9 ?_
    refine rr_iload_n hG dX2_greatestLate_12 rfl 1 rfl ?_
    refine rr_iald hG rfl (by decide) dX2_greatestLate_13 (fun z13 => ?_)
    refine rr_isub hG dX2_greatestLate_14 (fun z14 => ?_)
    refine rr_aload_n hG dX2_greatestLate_15 rfl 0 rfl ?_
    refine gf_X2_26 hG (by decide) dX2_greatestLate_16 ?_
    refine rr_iconst (v := 0) hG dX2_greatestLate_19 (by decide) ?_
    refine rr_iald hG rfl (by decide) dX2_greatestLate_20 (fun z20 => ?_)
    refine rr_iadd hG dX2_greatestLate_21 (fun z21 => ?_)
    refine rr_aload_n hG dX2_greatestLate_22 rfl 0 rfl ?_
    refine gf_X2_26 hG (by decide) dX2_greatestLate_23 ?_
    refine rr_iconst (v := 1) hG dX2_greatestLate_26 (by decide) ?_
    refine rr_iald hG rfl (by decide) dX2_greatestLate_27 (fun z27 => ?_)
    refine rr_iadd hG dX2_greatestLate_28 (fun z28 => ?_)
    refine rr_aload_n hG dX2_greatestLate_29 rfl 0 rfl ?_
    refine gf_X2_29 hG (by decide) dX2_greatestLate_30 ?_
    refine rr_iload_n hG dX2_greatestLate_33 rfl 1 rfl ?_
    refine rr_iald hG rfl (by decide) dX2_greatestLate_34 (fun z34 => ?_)
    refine rr_iadd hG dX2_greatestLate_35 (fun z35 => ?_)
    exact rr_iret hG ho dX2_greatestLate_36
  exact h
set_option maxRecDepth 100000 in
set_option maxHeartbeats 4000000 in
theorem c_X2_leastLate (l : Launch) (E : bd_E) (hE : bd_ok E 55) (p1 : Int32) (s_ : bd_S) : bd_M bd_Qi l yX2_leastLate cX2_leastLate 2 (some .int) 2 43 E [.ref (bd_ad E 0), .int p1] s_ (f_X2_leastLate p1 s_) := by
  refine bd_open bd_Qi (by decide +kernel) hE (Nat.le_of_ble_eq_true rfl) (fun G out hG hGE hGl ho => ?_)
  subst hGE
  have hG : bd_OK G cX2_leastLate 2 RX2 55 2 43 (some .int) := hG
  have h : bd_WF G out (f_X2_leastLate p1 s_) s_ 0 [(0, .ref (bd_ad (g_E G) 0)), (1, .int p1)] [] := by
    unfold f_X2_leastLate
    refine rr_aload_n hG dX2_leastLate_0 rfl 0 rfl ?_
    refine rr_iload_n hG dX2_leastLate_1 rfl 1 rfl ?_
    refine rr_cVi hG [.int p1] (c_X2_middleOff (g_l G) (g_E G) (hG.hE.mono (by decide)) p1 s_) lk_X2_221 im_X2_middleOff se_X2_middleOff rfl (by decide) (by decide) rfl rfl (Nat.le_of_ble_eq_true rfl) (Nat.le_of_ble_eq_true rfl) rfl rfl (Nat.le_of_ble_eq_true rfl) dX2_leastLate_2 (fun z2 s2 => ?_)
    refine rr_aload_n hG dX2_leastLate_5 rfl 0 rfl ?_
    refine gf_X2_10 hG (by decide) dX2_leastLate_6 ?_
    refine gf_X2_99 bd_c1 hG (by decide) dX2_leastLate_9 ?_
    refine rr_iload_n hG dX2_leastLate_12 rfl 1 rfl ?_
    refine rr_iald hG rfl (by decide) dX2_leastLate_13 (fun z13 => ?_)
    refine rr_isub hG dX2_leastLate_14 (fun z14 => ?_)
    refine rr_aload_n hG dX2_leastLate_15 rfl 0 rfl ?_
    refine gf_X2_22 hG (by decide) dX2_leastLate_16 ?_
    refine rr_iconst (v := 0) hG dX2_leastLate_19 (by decide) ?_
    refine rr_iald hG rfl (by decide) dX2_leastLate_20 (fun z20 => ?_)
    refine rr_iadd hG dX2_leastLate_21 (fun z21 => ?_)
    refine rr_aload_n hG dX2_leastLate_22 rfl 0 rfl ?_
    refine gf_X2_22 hG (by decide) dX2_leastLate_23 ?_
    refine rr_iconst (v := 1) hG dX2_leastLate_26 (by decide) ?_
    refine rr_iald hG rfl (by decide) dX2_leastLate_27 (fun z27 => ?_)
    refine rr_iadd hG dX2_leastLate_28 (fun z28 => ?_)
    refine rr_aload_n hG dX2_leastLate_29 rfl 0 rfl ?_
    refine gf_X2_29 hG (by decide) dX2_leastLate_30 ?_
    refine rr_iload_n hG dX2_leastLate_33 rfl 1 rfl ?_
    refine rr_iald hG rfl (by decide) dX2_leastLate_34 (fun z34 => ?_)
    refine rr_iadd hG dX2_leastLate_35 (fun z35 => ?_)
    exact rr_iret hG ho dX2_leastLate_36
  exact h
set_option maxRecDepth 100000 in
set_option maxHeartbeats 4000000 in
theorem c_X2_late (l : Launch) (E : bd_E) (hE : bd_ok E 55) (p1 : Int32) (p2 : Int32) (s_ : bd_S) : bd_M bd_Qi l yX2_late cX2_late 3 (some .int) 3 64 E [.ref (bd_ad E 0), .int p1, .int p2] s_ (f_X2_late p1 p2 s_) := by
  refine bd_open bd_Qi (by decide +kernel) hE (Nat.le_of_ble_eq_true rfl) (fun G out hG hGE hGl ho => ?_)
  subst hGE
  have hG : bd_OK G cX2_late 3 RX2 55 3 64 (some .int) := hG
  have h : bd_WF G out (f_X2_late p1 p2 s_) s_ 0 [(0, .ref (bd_ad (g_E G) 0)), (1, .int p1), (2, .int p2)] [] := by
    unfold f_X2_late
    refine rr_iload_n hG dX2_late_0 rfl 1 rfl ?_
    refine rr_cSi hG [.int p1] (c_X2_noDay (g_l G) (g_E G) (hG.hE.mono (by decide)) p1 s_) lk_X2_64 sm_X2_noDay (Nat.le_of_ble_eq_true rfl) (Nat.le_of_ble_eq_true rfl) rfl rfl (Nat.le_of_ble_eq_true rfl) dX2_late_1 (fun z1 s1 => ?_)
    refine rr_if_eq hG 10 dX2_late_4 (by decide) ?_ ?_
    · refine rr_iload_n hG dX2_late_10 rfl 2 rfl ?_
      refine rr_cSi hG [.int p2] (c_X2_noEnd (g_l G) (g_E G) (hG.hE.mono (by decide)) p2 s1) lk_X2_92 sm_X2_noEnd (Nat.le_of_ble_eq_true rfl) (Nat.le_of_ble_eq_true rfl) rfl rfl (Nat.le_of_ble_eq_true rfl) dX2_late_11 (fun z11 s11 => ?_)
      refine rr_if_eq hG 20 dX2_late_14 (by decide) ?_ ?_
      · refine rr_iload_n hG dX2_late_20 rfl 2 rfl ?_
        refine rr_if_ne hG 32 dX2_late_21 (by decide) ?_ ?_
        · refine rr_aload_n hG dX2_late_32 rfl 0 rfl ?_
          refine rr_iload_n hG dX2_late_33 rfl 1 rfl ?_
          refine rr_cVi hG [.int p1] (c_X2_greatestLate (g_l G) (g_E G) (hG.hE.mono (by decide)) p1 s11) lk_X2_123 im_X2_greatestLate se_X2_greatestLate rfl (by decide) (by decide) rfl rfl (Nat.le_of_ble_eq_true rfl) (Nat.le_of_ble_eq_true rfl) rfl rfl (Nat.le_of_ble_eq_true rfl) dX2_late_34 (fun z34 s34 => ?_)
          exact rr_iret hG ho dX2_late_37
        · refine rr_aload_n hG dX2_late_24 rfl 0 rfl ?_
          refine rr_iload_n hG dX2_late_25 rfl 1 rfl ?_
          refine rr_cVi hG [.int p1] (c_X2_leastLate (g_l G) (g_E G) (hG.hE.mono (by decide)) p1 s11) lk_X2_119 im_X2_leastLate se_X2_leastLate rfl (by decide) (by decide) rfl rfl (Nat.le_of_ble_eq_true rfl) (Nat.le_of_ble_eq_true rfl) rfl rfl (Nat.le_of_ble_eq_true rfl) dX2_late_26 (fun z26 s26 => ?_)
          refine rr_goto (tgt := 37) hG dX2_late_29 (by decide) ?_
          exact rr_iret hG ho dX2_late_37
      · refine rr_ldc (v := (-100000002)) hG kc_X2_95 dX2_late_17 ?_
        exact rr_iret hG ho dX2_late_19
    · refine rr_ldc (v := (-100000001)) hG kc_X2_91 dX2_late_7 ?_
      exact rr_iret hG ho dX2_late_9
  exact h
set_option maxRecDepth 100000 in
set_option maxHeartbeats 4000000 in
theorem c_X2_ship (l : Launch) (E : bd_E) (hE : bd_ok E 55) (s_ : bd_S) : bd_M bd_Qi l yX2_ship cX2_ship 1 (some .int) 0 0 E [.ref (bd_ad E 0)] s_ (f_X2_ship s_) := by
  refine bd_open bd_Qi (by decide +kernel) hE (Nat.le_of_ble_eq_true rfl) (fun G out hG hGE hGl ho => ?_)
  subst hGE
  have hG : bd_OK G cX2_ship 1 RX2 55 0 0 (some .int) := hG
  have h : bd_WF G out (f_X2_ship  s_) s_ 0 [(0, .ref (bd_ad (g_E G) 0))] [] := by
    unfold f_X2_ship
    refine rr_aload_n hG dX2_ship_0 rfl 0 rfl ?_
    refine gf_X2_126 hG (by decide) dX2_ship_1 (fun z1 => ?_)
    refine rr_iconst (v := 4) hG dX2_ship_4 (by decide) ?_
    refine rr_icmp_lt hG 11 dX2_ship_5 (by decide) ?_ ?_
    · refine rr_aload_n hG dX2_ship_11 rfl 0 rfl ?_
      refine rr_dup hG dX2_ship_12 rfl ?_
      refine gf_X2_126 hG (by decide) dX2_ship_13 (fun z13 => ?_)
      refine rr_iconst (v := 1) hG dX2_ship_16 (by decide) ?_
      refine rr_iadd hG dX2_ship_17 (fun z17 => ?_)
      refine pf_X2_126 hG (by decide) dX2_ship_18 (fun s18 => ?_)
      refine rr_aload_n hG dX2_ship_21 rfl 0 rfl ?_
      refine gf_X2_126 hG (by decide) dX2_ship_22 (fun z22 => ?_)
      refine rr_iconst (v := 1) hG dX2_ship_25 (by decide) ?_
      refine rr_isub hG dX2_ship_26 (fun z26 => ?_)
      exact rr_iret hG ho dX2_ship_27
    · refine rr_bipush (v := (-4)) hG dX2_ship_8 (by decide) ?_
      exact rr_iret hG ho dX2_ship_10
  exact h
set_option maxRecDepth 100000 in
set_option maxHeartbeats 4000000 in
theorem c_X2_noShip (l : Launch) (E : bd_E) (hE : bd_ok E 55) (p1 : Int32) (s_ : bd_S) : bd_M bd_Qi l yX2_noShip cX2_noShip 2 (some .boolean) 0 0 E [.ref (bd_ad E 0), .int p1] s_ (f_X2_noShip p1 s_) := by
  refine bd_open bd_Qi (by decide +kernel) hE (Nat.le_of_ble_eq_true rfl) (fun G out hG hGE hGl ho => ?_)
  subst hGE
  have hG : bd_OK G cX2_noShip 2 RX2 55 0 0 (some .boolean) := hG
  have h : bd_WF G out (f_X2_noShip p1 s_) s_ 0 [(0, .ref (bd_ad (g_E G) 0)), (1, .int p1)] [] := by
    unfold f_X2_noShip
    refine rr_iload_n hG dX2_noShip_0 rfl 1 rfl ?_
    refine rr_if_lt hG 12 dX2_noShip_1 (by decide) ?_ ?_
    · refine rr_iconst (v := 1) hG dX2_noShip_12 (by decide) ?_
      refine rr_goto (tgt := 17) hG dX2_noShip_13 (by decide) ?_
      exact rr_zret hG ho dX2_noShip_17
    · refine rr_iload_n hG dX2_noShip_4 rfl 1 rfl ?_
      refine rr_aload_n hG dX2_noShip_5 rfl 0 rfl ?_
      refine gf_X2_126 hG (by decide) dX2_noShip_6 (fun z6 => ?_)
      refine rr_icmp_lt hG 16 dX2_noShip_9 (by decide) ?_ ?_
      · refine rr_iconst (v := 0) hG dX2_noShip_16 (by decide) ?_
        exact rr_zret hG ho dX2_noShip_17
      · refine rr_iconst (v := 1) hG dX2_noShip_12 (by decide) ?_
        refine rr_goto (tgt := 17) hG dX2_noShip_13 (by decide) ?_
        exact rr_zret hG ho dX2_noShip_17
  exact h
