set_option maxRecDepth 100000 in
set_option maxHeartbeats 4000000 in
theorem b_X3_agrees_76 {G : bd_G} {out : Int32 × bd_S} (hG : bd_OK G cX3_agrees 4 RX3 85 0 0 (some .boolean)) (ho : bd_ends bd_Qi G out) {k16 : Int32 → Int32 → Int32 → bd_S → Option (Int32 × bd_S)} (hk16 : ∀ (x3 : Int32) (x2 : Int32) (x1 : Int32) (s_ : bd_S), bd_WF G out (k16 x3 x2 x1 s_) s_ 16 [(3, .int x3), (2, .int x2), (0, .ref (bd_ad (g_E G) 55)), (1, .int x1)] []) (x2 : Int32) (x3 : Int32) (x1 : Int32) (t0 : Int32) (s_ : bd_S) : bd_WF G out (f_X3_agrees_76 k16 x2 x3 x1 t0 s_) s_ 76 [(2, .int x2), (3, .int x3), (0, .ref (bd_ad (g_E G) 55)), (1, .int x1)] [.int t0, .ref (bd_ad (g_E G) 55)] := by
  unfold f_X3_agrees_76
  refine pf_X3_184 hG (by decide) dX3_agrees_76 (fun s76 => ?_)
  refine rr_aload_n hG dX3_agrees_79 rfl 2 rfl ?_
  refine rr_aload_n hG dX3_agrees_80 rfl 2 rfl ?_
  refine gf_X3_99 hG (by decide) dX3_agrees_81 ?_
  refine rr_iload_n hG dX3_agrees_84 rfl 1 rfl ?_
  refine rr_iald hG rfl (by decide) dX3_agrees_85 (fun z85 => ?_)
  refine rr_aload_n hG dX3_agrees_86 rfl 2 rfl ?_
  refine gf_X3_188 hG (by decide) dX3_agrees_87 (fun z87 => ?_)
  refine rr_icmp_ge hG 102 dX3_agrees_90 (by decide) ?_ ?_
  · refine rr_aload_n hG dX3_agrees_102 rfl 2 rfl ?_
    refine gf_X3_188 hG (by decide) dX3_agrees_103 (fun z103 => ?_)
    refine pf_X3_188 hG (by decide) dX3_agrees_106 (fun s106 => ?_)
    refine rr_iinc (v := 1) (lr := [(2, .int x2), (0, .ref (bd_ad (g_E G) 55)), (1, .int x1)]) hG dX3_agrees_109 1 rfl (by decide) (by decide) rfl (fun z109 => ?_)
    refine rr_goto (tgt := 16) hG dX3_agrees_112 (by decide) ?_
    exact hk16 z109 x2 x1 s106
  · refine rr_aload_n hG dX3_agrees_93 rfl 2 rfl ?_
    refine gf_X3_99 hG (by decide) dX3_agrees_94 ?_
    refine rr_iload_n hG dX3_agrees_97 rfl 1 rfl ?_
    refine rr_iald hG rfl (by decide) dX3_agrees_98 (fun z98 => ?_)
    refine rr_goto (tgt := 106) hG dX3_agrees_99 (by decide) ?_
    refine pf_X3_188 hG (by decide) dX3_agrees_106 (fun s106 => ?_)
    refine rr_iinc (v := 1) (lr := [(2, .int x2), (0, .ref (bd_ad (g_E G) 55)), (1, .int x1)]) hG dX3_agrees_109 1 rfl (by decide) (by decide) rfl (fun z109 => ?_)
    refine rr_goto (tgt := 16) hG dX3_agrees_112 (by decide) ?_
    exact hk16 z109 x2 x1 s106
set_option maxRecDepth 100000 in
set_option maxHeartbeats 4000000 in
theorem b_X3_agrees_48 {G : bd_G} {out : Int32 × bd_S} (hG : bd_OK G cX3_agrees 4 RX3 85 0 0 (some .boolean)) (ho : bd_ends bd_Qi G out) {k16 : Int32 → Int32 → Int32 → bd_S → Option (Int32 × bd_S)} (hk16 : ∀ (x3 : Int32) (x2 : Int32) (x1 : Int32) (s_ : bd_S), bd_WF G out (k16 x3 x2 x1 s_) s_ 16 [(3, .int x3), (2, .int x2), (0, .ref (bd_ad (g_E G) 55)), (1, .int x1)] []) (x3 : Int32) (x1 : Int32) (t0 : Int32) (s_ : bd_S) : bd_WF G out (f_X3_agrees_48 k16 x3 x1 t0 s_) s_ 48 [(3, .int x3), (0, .ref (bd_ad (g_E G) 55)), (1, .int x1)] [.int t0] := by
  unfold f_X3_agrees_48
  refine rr_istore_n (lr := [(3, .int x3), (0, .ref (bd_ad (g_E G) 55)), (1, .int x1)]) hG dX3_agrees_48 rfl (by decide) rfl ?_
  refine rr_aload_n hG dX3_agrees_49 rfl 2 rfl ?_
  refine rr_aload_n hG dX3_agrees_50 rfl 2 rfl ?_
  refine gf_X3_96 hG (by decide) dX3_agrees_51 ?_
  refine rr_iload_n hG dX3_agrees_54 rfl 1 rfl ?_
  refine rr_iald hG rfl (by decide) dX3_agrees_55 (fun z55 => ?_)
  refine rr_aload_n hG dX3_agrees_56 rfl 2 rfl ?_
  refine gf_X3_184 hG (by decide) dX3_agrees_57 (fun z57 => ?_)
  refine rr_icmp_le hG 72 dX3_agrees_60 (by decide) ?_ ?_
  · refine rr_aload_n hG dX3_agrees_72 rfl 2 rfl ?_
    refine gf_X3_184 hG (by decide) dX3_agrees_73 (fun z73 => ?_)
    exact (b_X3_agrees_76 hG ho hk16 t0 x3 x1 z73 s_)
  · refine rr_aload_n hG dX3_agrees_63 rfl 2 rfl ?_
    refine gf_X3_96 hG (by decide) dX3_agrees_64 ?_
    refine rr_iload_n hG dX3_agrees_67 rfl 1 rfl ?_
    refine rr_iald hG rfl (by decide) dX3_agrees_68 (fun z68 => ?_)
    refine rr_goto (tgt := 76) hG dX3_agrees_69 (by decide) ?_
    exact (b_X3_agrees_76 hG ho hk16 t0 x3 x1 z68 s_)
set_option maxRecDepth 100000 in
set_option maxHeartbeats 4000000 in
theorem b_X3_agrees_47 {G : bd_G} {out : Int32 × bd_S} (hG : bd_OK G cX3_agrees 4 RX3 85 0 0 (some .boolean)) (ho : bd_ends bd_Qi G out) {k16 : Int32 → Int32 → Int32 → bd_S → Option (Int32 × bd_S)} (hk16 : ∀ (x3 : Int32) (x2 : Int32) (x1 : Int32) (s_ : bd_S), bd_WF G out (k16 x3 x2 x1 s_) s_ 16 [(3, .int x3), (2, .int x2), (0, .ref (bd_ad (g_E G) 55)), (1, .int x1)] []) (x3 : Int32) (x1 : Int32) (s_ : bd_S) : bd_WF G out (f_X3_agrees_47 k16 x3 x1 s_) s_ 47 [(3, .int x3), (0, .ref (bd_ad (g_E G) 55)), (1, .int x1)] [] := by
  unfold f_X3_agrees_47
  refine rr_iconst (v := 0) hG dX3_agrees_47 (by decide) ?_
  exact (b_X3_agrees_48 hG ho hk16 x3 x1 0 s_)
set_option maxRecDepth 100000 in
set_option maxHeartbeats 4000000 in
theorem b_X3_agrees_16 {G : bd_G} {out : Int32 × bd_S} (hG : bd_OK G cX3_agrees 4 RX3 85 0 0 (some .boolean)) (ho : bd_ends bd_Qi G out) {k115 : Int32 → bd_S → Option (Int32 × bd_S)} (hk115 : ∀ (x2 : Int32) (s_ : bd_S), bd_WF G out (k115 x2 s_) s_ 115 [(2, .int x2), (0, .ref (bd_ad (g_E G) 55))] []) : ∀ (n_ : Nat) (x3 : Int32) (x2 : Int32) (x1 : Int32) (s_ : bd_S), bd_WF G out (f_X3_agrees_16 k115 n_ x3 x2 x1 s_) s_ 16 [(3, .int x3), (2, .int x2), (0, .ref (bd_ad (g_E G) 55)), (1, .int x1)] [] := by
  intro n_
  induction n_ with
  | zero => intros; intro hF; cases hF
  | succ n_ ih =>
    intro x3 x2 x1 s_
    rw [f_X3_agrees_16]
    refine rr_iload_n hG dX3_agrees_16 rfl 0 rfl ?_
    refine rr_iconst (v := 3) hG dX3_agrees_17 (by decide) ?_
    refine rr_icmp_ge hG 115 dX3_agrees_18 (by decide) ?_ ?_
    · exact rr_sub [1, 2] rfl (hk115 x2 s_)
    · refine rr_iload_n hG dX3_agrees_21 rfl 3 rfl ?_
      refine rr_iload_n hG dX3_agrees_22 rfl 0 rfl ?_
      refine rr_ishr hG dX3_agrees_23 (fun z23 => ?_)
      refine rr_iconst (v := 1) hG dX3_agrees_24 (by decide) ?_
      refine rr_iand hG dX3_agrees_25 (fun z25 => ?_)
      refine rr_iconst (v := 1) hG dX3_agrees_26 (by decide) ?_
      refine rr_icmp_ne hG 109 dX3_agrees_27 (by decide) ?_ ?_
      · refine rr_iinc (v := 1) (lr := [(2, .int x2), (0, .ref (bd_ad (g_E G) 55)), (1, .int x1)]) hG dX3_agrees_109 0 rfl (by decide) (by decide) rfl (fun z109 => ?_)
        refine rr_goto (tgt := 16) hG dX3_agrees_112 (by decide) ?_
        exact ih z109 x2 x1 s_
      · refine rr_iload_n hG dX3_agrees_30 rfl 1 rfl ?_
        refine rr_if_eq hG 47 dX3_agrees_31 (by decide) ?_ ?_
        · exact rr_sub [0, 2, 3] rfl (b_X3_agrees_47 hG ho ih x3 x1 s_)
        · refine rr_aload_n hG dX3_agrees_34 rfl 2 rfl ?_
          refine gf_X3_102 hG (by decide) dX3_agrees_35 ?_
          refine rr_iload_n hG dX3_agrees_38 rfl 0 rfl ?_
          refine rr_zald hG rfl (by decide) dX3_agrees_39 (fun z39 => ?_)
          refine rr_if_eq hG 47 dX3_agrees_40 (by decide) ?_ ?_
          · exact rr_sub [0, 2, 3] rfl (b_X3_agrees_47 hG ho ih x3 x1 s_)
          · refine rr_iconst (v := 1) hG dX3_agrees_43 (by decide) ?_
            refine rr_goto (tgt := 48) hG dX3_agrees_44 (by decide) ?_
            exact rr_sub [0, 2, 3] rfl (b_X3_agrees_48 hG ho ih x3 x1 1 s_)
set_option maxRecDepth 100000 in
set_option maxHeartbeats 4000000 in
theorem c_X3_agrees (l : Launch) (E : bd_E) (hE : bd_ok E 85) (p1 : Int32) (s_ : bd_S) : bd_M bd_Qi l yX3_agrees cX3_agrees 4 (some .boolean) 0 0 E [.ref (bd_ad E 55), .int p1] s_ (f_X3_agrees p1 s_) := by
  refine bd_open bd_Qi (by decide +kernel) hE (Nat.le_of_ble_eq_true rfl) (fun G out hG hGE hGl ho => ?_)
  subst hGE
  have hG : bd_OK G cX3_agrees 4 RX3 85 0 0 (some .boolean) := hG
  have h : bd_WF G out (f_X3_agrees p1 s_) s_ 0 [(0, .ref (bd_ad (g_E G) 55)), (1, .int p1)] [] := by
    unfold f_X3_agrees
    refine rr_aload_n hG dX3_agrees_0 rfl 0 rfl ?_
    refine rr_ldc (v := (-100000000)) hG kc_X3_183 dX3_agrees_1 ?_
    refine pf_X3_184 hG (by decide) dX3_agrees_3 (fun s3 => ?_)
    refine rr_aload_n hG dX3_agrees_6 rfl 0 rfl ?_
    refine rr_ldc (v := 100000000) hG kc_X3_187 dX3_agrees_7 ?_
    refine pf_X3_188 hG (by decide) dX3_agrees_9 (fun s9 => ?_)
    refine rr_iconst (v := 1) hG dX3_agrees_12 (by decide) ?_
    refine rr_istore_n (lr := [(0, .ref (bd_ad (g_E G) 55)), (1, .int p1)]) hG dX3_agrees_13 rfl (by decide) rfl ?_
    refine rr_iconst (v := 0) hG dX3_agrees_14 (by decide) ?_
    refine rr_istore_n (lr := [(2, .int 1), (0, .ref (bd_ad (g_E G) 55)), (1, .int p1)]) hG dX3_agrees_15 rfl (by decide) rfl ?_
    refine (b_X3_agrees_16 hG ho (fun x2e e115 => ?_) FU_ 0 1 p1 s9)
    · refine rr_iload_n hG dX3_agrees_115 rfl 0 rfl ?_
      refine rr_if_eq hG 134 dX3_agrees_116 (by decide) ?_ ?_
      · refine rr_iconst (v := 0) hG dX3_agrees_134 (by decide) ?_
        exact rr_zret hG ho dX3_agrees_135
      · refine rr_aload_n hG dX3_agrees_119 rfl 1 rfl ?_
        refine gf_X3_184 hG (by decide) dX3_agrees_120 (fun z120 => ?_)
        refine rr_aload_n hG dX3_agrees_123 rfl 1 rfl ?_
        refine gf_X3_188 hG (by decide) dX3_agrees_124 (fun z124 => ?_)
        refine rr_icmp_gt hG 134 dX3_agrees_127 (by decide) ?_ ?_
        · refine rr_iconst (v := 0) hG dX3_agrees_134 (by decide) ?_
          exact rr_zret hG ho dX3_agrees_135
        · refine rr_iconst (v := 1) hG dX3_agrees_130 (by decide) ?_
          refine rr_goto (tgt := 135) hG dX3_agrees_131 (by decide) ?_
          exact rr_zret hG ho dX3_agrees_135
  exact h
set_option maxRecDepth 100000 in
set_option maxHeartbeats 4000000 in
theorem b_X3_weightOf_15 {G : bd_G} {out : Int32 × bd_S} (hG : bd_OK G cX3_weightOf 6 RX3 85 1 23 (some .int)) (ho : bd_ends bd_Qi G out) : ∀ (n_ : Nat) (x4 : Int32) (x3 : Int32) (x1 : Int32) (x2 : Int32) (s_ : bd_S), bd_WF G out (f_X3_weightOf_15 n_ x4 x3 x1 x2 s_) s_ 15 [(4, .int x4), (3, .int x3), (0, .ref (bd_ad (g_E G) 55)), (1, .int x1), (2, .int x2)] [] := by
  intro n_
  induction n_ with
  | zero => intros; intro hF; cases hF
  | succ n_ ih =>
    intro x4 x3 x1 x2 s_
    rw [f_X3_weightOf_15]
    refine rr_iload hG dX3_weightOf_15 0 rfl ?_
    refine rr_iconst (v := 3) hG dX3_weightOf_17 (by decide) ?_
    refine rr_icmp_ge hG 63 dX3_weightOf_18 (by decide) ?_ ?_
    · refine rr_iload_n hG dX3_weightOf_63 rfl 1 rfl ?_
      exact rr_iret hG ho dX3_weightOf_64
    · refine rr_aload_n hG dX3_weightOf_21 rfl 2 rfl ?_
      refine gf_X3_69 hG (by decide) dX3_weightOf_22 ?_
      refine rr_iconst (v := 3) hG dX3_weightOf_25 (by decide) ?_
      refine rr_iload_n hG dX3_weightOf_26 rfl 3 rfl ?_
      refine rr_imul hG dX3_weightOf_27 (fun z27 => ?_)
      refine rr_iload hG dX3_weightOf_28 0 rfl ?_
      refine rr_iadd hG dX3_weightOf_30 (fun z30 => ?_)
      refine rr_iald hG rfl (by decide) dX3_weightOf_31 (fun z31 => ?_)
      refine rr_istore (lr := [(4, .int x4), (3, .int x3), (0, .ref (bd_ad (g_E G) 55)), (1, .int x1), (2, .int x2)]) hG dX3_weightOf_32 (by decide) rfl ?_
      refine rr_iload_n hG dX3_weightOf_34 rfl 2 rfl ?_
      refine rr_iload_n hG dX3_weightOf_35 rfl 5 rfl ?_
      refine rr_iload hG dX3_weightOf_36 1 rfl ?_
      refine rr_ishr hG dX3_weightOf_38 (fun z38 => ?_)
      refine rr_iconst (v := 1) hG dX3_weightOf_39 (by decide) ?_
      refine rr_iand hG dX3_weightOf_40 (fun z40 => ?_)
      refine rr_iconst (v := 1) hG dX3_weightOf_41 (by decide) ?_
      refine rr_icmp_ne hG 53 dX3_weightOf_42 (by decide) ?_ ?_
      · refine rr_iload hG dX3_weightOf_53 0 rfl ?_
        refine rr_imul hG dX3_weightOf_55 (fun z55 => ?_)
        refine rr_istore_n (lr := [(5, .int z31), (4, .int x4), (0, .ref (bd_ad (g_E G) 55)), (1, .int x1), (2, .int x2)]) hG dX3_weightOf_56 rfl (by decide) rfl ?_
        refine rr_iinc (v := 1) (lr := [(3, .int z55), (5, .int z31), (0, .ref (bd_ad (g_E G) 55)), (1, .int x1), (2, .int x2)]) hG dX3_weightOf_57 2 rfl (by decide) (by decide) rfl (fun z57 => ?_)
        refine rr_goto (tgt := 15) hG dX3_weightOf_60 (by decide) ?_
        exact rr_sub [0, 1, 3, 4, 5] rfl (ih z57 z55 x1 x2 s_)
      · refine rr_bipush (v := 10) hG dX3_weightOf_45 (by decide) ?_
        refine rr_iload hG dX3_weightOf_47 0 rfl ?_
        refine rr_isub hG dX3_weightOf_49 (fun z49 => ?_)
        refine rr_goto (tgt := 55) hG dX3_weightOf_50 (by decide) ?_
        refine rr_imul hG dX3_weightOf_55 (fun z55 => ?_)
        refine rr_istore_n (lr := [(5, .int z31), (4, .int x4), (0, .ref (bd_ad (g_E G) 55)), (1, .int x1), (2, .int x2)]) hG dX3_weightOf_56 rfl (by decide) rfl ?_
        refine rr_iinc (v := 1) (lr := [(3, .int z55), (5, .int z31), (0, .ref (bd_ad (g_E G) 55)), (1, .int x1), (2, .int x2)]) hG dX3_weightOf_57 2 rfl (by decide) (by decide) rfl (fun z57 => ?_)
        refine rr_goto (tgt := 15) hG dX3_weightOf_60 (by decide) ?_
        exact rr_sub [0, 1, 3, 4, 5] rfl (ih z57 z55 x1 x2 s_)
set_option maxRecDepth 100000 in
set_option maxHeartbeats 4000000 in
theorem c_X3_weightOf (l : Launch) (E : bd_E) (hE : bd_ok E 85) (p1 : Int32) (p2 : Int32) (s_ : bd_S) : bd_M bd_Qi l yX3_weightOf cX3_weightOf 6 (some .int) 1 23 E [.ref (bd_ad E 55), .int p1, .int p2] s_ (f_X3_weightOf p1 p2 s_) := by
  refine bd_open bd_Qi (by decide +kernel) hE (Nat.le_of_ble_eq_true rfl) (fun G out hG hGE hGl ho => ?_)
  subst hGE
  have hG : bd_OK G cX3_weightOf 6 RX3 85 1 23 (some .int) := hG
  have h : bd_WF G out (f_X3_weightOf p1 p2 s_) s_ 0 [(0, .ref (bd_ad (g_E G) 55)), (1, .int p1), (2, .int p2)] [] := by
    unfold f_X3_weightOf
    refine rr_aload_n hG dX3_weightOf_0 rfl 0 rfl ?_
    refine rr_iload_n hG dX3_weightOf_1 rfl 2 rfl ?_
    refine rr_cVi hG [.int p2] (c_X3_agrees (g_l G) (g_E G) (hG.hE.mono (by decide)) p2 s_) lk_X3_191 im_X3_agrees se_X3_agrees rfl (by decide) (by decide) rfl rfl (Nat.le_of_ble_eq_true rfl) (Nat.le_of_ble_eq_true rfl) rfl rfl (Nat.le_of_ble_eq_true rfl) dX3_weightOf_2 (fun z2 s2 => ?_)
    refine rr_if_ne hG 10 dX3_weightOf_5 (by decide) ?_ ?_
    · refine rr_iconst (v := 1) hG dX3_weightOf_10 (by decide) ?_
      refine rr_istore_n (lr := [(0, .ref (bd_ad (g_E G) 55)), (1, .int p1), (2, .int p2)]) hG dX3_weightOf_11 rfl (by decide) rfl ?_
      refine rr_iconst (v := 0) hG dX3_weightOf_12 (by decide) ?_
      refine rr_istore (lr := [(3, .int 1), (0, .ref (bd_ad (g_E G) 55)), (1, .int p1), (2, .int p2)]) hG dX3_weightOf_13 (by decide) rfl ?_
      exact (b_X3_weightOf_15 hG ho FU_ 0 1 p1 p2 s2)
    · refine rr_iconst (v := 0) hG dX3_weightOf_8 (by decide) ?_
      exact rr_iret hG ho dX3_weightOf_9
  exact h
set_option maxRecDepth 100000 in
set_option maxHeartbeats 4000000 in
theorem c_X3_weight (l : Launch) (E : bd_E) (hE : bd_ok E 85) (p1 : Int32) (p2 : Int32) (s_ : bd_S) : bd_M bd_Qi l yX3_weight cX3_weight 3 (some .int) 5 118 E [.ref (bd_ad E 55), .int p1, .int p2] s_ (f_X3_weight p1 p2 s_) := by
  refine bd_open bd_Qi (by decide +kernel) hE (Nat.le_of_ble_eq_true rfl) (fun G out hG hGE hGl ho => ?_)
  subst hGE
  have hG : bd_OK G cX3_weight 3 RX3 85 5 118 (some .int) := hG
  have h : bd_WF G out (f_X3_weight p1 p2 s_) s_ 0 [(0, .ref (bd_ad (g_E G) 55)), (1, .int p1), (2, .int p2)] [] := by
    unfold f_X3_weight
    refine rr_aload_n hG dX3_weight_0 rfl 0 rfl ?_
    refine rr_iload_n hG dX3_weight_1 rfl 1 rfl ?_
    refine rr_cVi hG [.int p1] (c_X3_isShip (g_l G) (g_E G) (hG.hE.mono (by decide)) p1 s_) lk_X3_158 im_X3_isShip se_X3_isShip rfl (by decide) (by decide) rfl rfl (Nat.le_of_ble_eq_true rfl) (Nat.le_of_ble_eq_true rfl) rfl rfl (Nat.le_of_ble_eq_true rfl) dX3_weight_2 (fun z2 s2 => ?_)
    refine rr_if_ne hG 10 dX3_weight_5 (by decide) ?_ ?_
    · refine rr_iload_n hG dX3_weight_10 rfl 2 rfl ?_
      refine rr_iconst (v := 0) hG dX3_weight_11 (by decide) ?_
      refine rr_bipush (v := 7) hG dX3_weight_12 (by decide) ?_
      refine rr_cSi hG [.int p2, .int 0, .int 7] (c_X3_in (g_l G) (g_E G) (hG.hE.mono (by decide)) p2 0 7 s2) lk_X3_111 sm_X3_in (Nat.le_of_ble_eq_true rfl) (Nat.le_of_ble_eq_true rfl) rfl rfl (Nat.le_of_ble_eq_true rfl) dX3_weight_14 (fun z14 s14 => ?_)
      refine rr_if_ne hG 23 dX3_weight_17 (by decide) ?_ ?_
      · refine rr_aload_n hG dX3_weight_23 rfl 0 rfl ?_
        refine rr_iload_n hG dX3_weight_24 rfl 1 rfl ?_
        refine rr_cVv hG [.int p1] (c_X3_layPlaces (g_l G) (g_E G) (hG.hE.mono (by decide)) p1 s14) lk_X3_194 im_X3_layPlaces se_X3_layPlaces rfl (by decide) (by decide) rfl rfl (Nat.le_of_ble_eq_true rfl) (Nat.le_of_ble_eq_true rfl) rfl rfl (Nat.le_of_ble_eq_true rfl) dX3_weight_25 (fun s25 => ?_)
        refine rr_aload_n hG dX3_weight_28 rfl 0 rfl ?_
        refine rr_iload_n hG dX3_weight_29 rfl 1 rfl ?_
        refine rr_iload_n hG dX3_weight_30 rfl 2 rfl ?_
        refine rr_cVi hG [.int p1, .int p2] (c_X3_weightOf (g_l G) (g_E G) (hG.hE.mono (by decide)) p1 p2 s25) lk_X3_198 im_X3_weightOf se_X3_weightOf rfl (by decide) (by decide) rfl rfl (Nat.le_of_ble_eq_true rfl) (Nat.le_of_ble_eq_true rfl) rfl rfl (Nat.le_of_ble_eq_true rfl) dX3_weight_31 (fun z31 s31 => ?_)
        exact rr_iret hG ho dX3_weight_34
      · refine rr_bipush (v := (-2)) hG dX3_weight_20 (by decide) ?_
        exact rr_iret hG ho dX3_weight_22
    · refine rr_iconst (v := (-1)) hG dX3_weight_8 (by decide) ?_
      exact rr_iret hG ho dX3_weight_9
  exact h
set_option maxRecDepth 100000 in
set_option maxHeartbeats 4000000 in
theorem b_X3_odds_44 {G : bd_G} {out : Int64 × bd_S} (hG : bd_OK G cX3_odds 14 RX3 85 5 118 (some .long)) (ho : bd_ends bd_Ql G out) {k70 : Int64 → Int32 → Int32 → Int32 → bd_S → Option (Int64 × bd_S)} (hk70 : ∀ (x4 : Int64) (x1 : Int32) (x2 : Int32) (x3 : Int32) (s_ : bd_S), bd_WF G out (k70 x4 x1 x2 x3 s_) s_ 70 [(4, .long x4), (0, .ref (bd_ad (g_E G) 55)), (1, .int x1), (2, .int x2), (3, .int x3)] []) : ∀ (n_ : Nat) (x6 : Int32) (x4 : Int64) (x1 : Int32) (x2 : Int32) (x3 : Int32) (s_ : bd_S), bd_WF G out (f_X3_odds_44 k70 n_ x6 x4 x1 x2 x3 s_) s_ 44 [(6, .int x6), (4, .long x4), (0, .ref (bd_ad (g_E G) 55)), (1, .int x1), (2, .int x2), (3, .int x3)] [] := by
  intro n_
  induction n_ with
  | zero => intros; intro hF; cases hF
  | succ n_ ih =>
    intro x6 x4 x1 x2 x3 s_
    rw [f_X3_odds_44]
    refine rr_iload hG dX3_odds_44 0 rfl ?_
    refine rr_bipush (v := 8) hG dX3_odds_46 (by decide) ?_
    refine rr_icmp_ge hG 70 dX3_odds_48 (by decide) ?_ ?_
    · exact rr_sub [1, 2, 3, 4, 5] rfl (hk70 x4 x1 x2 x3 s_)
    · refine rr_lload hG dX3_odds_51 1 rfl ?_
      refine rr_aload_n hG dX3_odds_53 rfl 2 rfl ?_
      refine rr_iload_n hG dX3_odds_54 rfl 3 rfl ?_
      refine rr_iload hG dX3_odds_55 0 rfl ?_
      refine rr_cVi hG [.int x1, .int x6] (c_X3_weightOf (g_l G) (g_E G) (hG.hE.mono (by decide)) x1 x6 s_) lk_X3_198 im_X3_weightOf se_X3_weightOf rfl (by decide) (by decide) rfl rfl (Nat.le_of_ble_eq_true rfl) (Nat.le_of_ble_eq_true rfl) rfl rfl (Nat.le_of_ble_eq_true rfl) dX3_odds_57 (fun z57 s57 => ?_)
      refine rr_i2l hG dX3_odds_60 (fun z60 => ?_)
      refine rr_ladd hG dX3_odds_61 (fun z61 => ?_)
      refine rr_lstore (lr := [(6, .int x6), (0, .ref (bd_ad (g_E G) 55)), (1, .int x1), (2, .int x2), (3, .int x3)]) hG dX3_odds_62 (by decide) rfl ?_
      refine rr_iinc (v := 1) (lr := [(4, .long z61), (0, .ref (bd_ad (g_E G) 55)), (1, .int x1), (2, .int x2), (3, .int x3)]) hG dX3_odds_64 1 rfl (by decide) (by decide) rfl (fun z64 => ?_)
      refine rr_goto (tgt := 44) hG dX3_odds_67 (by decide) ?_
      exact ih z64 z61 x1 x2 x3 s57
set_option maxRecDepth 100000 in
set_option maxHeartbeats 4000000 in
theorem b_X3_odds_87 {G : bd_G} {out : Int64 × bd_S} (hG : bd_OK G cX3_odds 14 RX3 85 5 118 (some .long)) (ho : bd_ends bd_Ql G out) {k112 : Int64 → Int64 → Int64 → Int32 → bd_S → Option (Int64 × bd_S)} (hk112 : ∀ (x8 : Int64) (x6 : Int64) (x4 : Int64) (x3 : Int32) (s_ : bd_S), bd_WF G out (k112 x8 x6 x4 x3 s_) s_ 112 [(8, .long x8), (6, .long x6), (4, .long x4), (3, .int x3)] []) : ∀ (n_ : Nat) (x10 : Int64) (x8 : Int64) (x6 : Int64) (x4 : Int64) (x3 : Int32) (s_ : bd_S), bd_WF G out (f_X3_odds_87 k112 n_ x10 x8 x6 x4 x3 s_) s_ 87 [(10, .long x10), (8, .long x8), (6, .long x6), (4, .long x4), (3, .int x3)] [] := by
  intro n_
  induction n_ with
  | zero => intros; intro hF; cases hF
  | succ n_ ih =>
    intro x10 x8 x6 x4 x3 s_
    rw [f_X3_odds_87]
    refine rr_lload hG dX3_odds_87 0 rfl ?_
    refine rr_lconst (v := 0) hG dX3_odds_89 (by decide) ?_
    refine rr_lcmp hG dX3_odds_90 (fun z90 => ?_)
    refine rr_if_eq hG 112 dX3_odds_91 (by decide) ?_ ?_
    · exact rr_sub [1, 2, 3, 4] rfl (hk112 x8 x6 x4 x3 s_)
    · refine rr_lload hG dX3_odds_94 1 rfl ?_
      refine rr_lload hG dX3_odds_96 0 rfl ?_
      refine rr_lrem hG dX3_odds_98 (fun z98 => ?_)
      refine rr_lstore (lr := [(10, .long x10), (8, .long x8), (6, .long x6), (4, .long x4), (3, .int x3)]) hG dX3_odds_99 (by decide) rfl ?_
      refine rr_lload hG dX3_odds_101 1 rfl ?_
      refine rr_lstore (lr := [(12, .long z98), (10, .long x10), (6, .long x6), (4, .long x4), (3, .int x3)]) hG dX3_odds_103 (by decide) rfl ?_
      refine rr_lload hG dX3_odds_105 1 rfl ?_
      refine rr_lstore (lr := [(8, .long x10), (12, .long z98), (6, .long x6), (4, .long x4), (3, .int x3)]) hG dX3_odds_107 (by decide) rfl ?_
      refine rr_goto (tgt := 87) hG dX3_odds_109 (by decide) ?_
      exact rr_sub [0, 1, 3, 4, 5] rfl (ih z98 x10 x6 x4 x3 s_)
set_option maxRecDepth 100000 in
set_option maxHeartbeats 4000000 in
theorem c_X3_odds (l : Launch) (E : bd_E) (hE : bd_ok E 85) (p1 : Int32) (p2 : Int32) (p3 : Int32) (s_ : bd_S) : bd_M bd_Ql l yX3_odds cX3_odds 14 (some .long) 5 118 E [.ref (bd_ad E 55), .int p1, .int p2, .int p3] s_ (f_X3_odds p1 p2 p3 s_) := by
  refine bd_open bd_Ql (by decide +kernel) hE (Nat.le_of_ble_eq_true rfl) (fun G out hG hGE hGl ho => ?_)
  subst hGE
  have hG : bd_OK G cX3_odds 14 RX3 85 5 118 (some .long) := hG
  have h : bd_WF G out (f_X3_odds p1 p2 p3 s_) s_ 0 [(0, .ref (bd_ad (g_E G) 55)), (1, .int p1), (2, .int p2), (3, .int p3)] [] := by
    unfold f_X3_odds
    refine rr_aload_n hG dX3_odds_0 rfl 0 rfl ?_
    refine rr_iload_n hG dX3_odds_1 rfl 1 rfl ?_
    refine rr_cVi hG [.int p1] (c_X3_isShip (g_l G) (g_E G) (hG.hE.mono (by decide)) p1 s_) lk_X3_158 im_X3_isShip se_X3_isShip rfl (by decide) (by decide) rfl rfl (Nat.le_of_ble_eq_true rfl) (Nat.le_of_ble_eq_true rfl) rfl rfl (Nat.le_of_ble_eq_true rfl) dX3_odds_2 (fun z2 s2 => ?_)
    refine rr_if_ne hG 12 dX3_odds_5 (by decide) ?_ ?_
    · refine rr_iload_n hG dX3_odds_12 rfl 2 rfl ?_
      refine rr_iconst (v := 0) hG dX3_odds_13 (by decide) ?_
      refine rr_bipush (v := 7) hG dX3_odds_14 (by decide) ?_
      refine rr_cSi hG [.int p2, .int 0, .int 7] (c_X3_in (g_l G) (g_E G) (hG.hE.mono (by decide)) p2 0 7 s2) lk_X3_111 sm_X3_in (Nat.le_of_ble_eq_true rfl) (Nat.le_of_ble_eq_true rfl) rfl rfl (Nat.le_of_ble_eq_true rfl) dX3_odds_16 (fun z16 s16 => ?_)
      refine rr_if_eq hG 29 dX3_odds_19 (by decide) ?_ ?_
      · refine rr_ldc2 (v := (-1000000000000000002)) hG kl_X3_203 dX3_odds_29 ?_
        exact rr_lret hG ho dX3_odds_32
      · refine rr_iload_n hG dX3_odds_22 rfl 3 rfl ?_
        refine rr_cSi hG [.int p3] (c_X3_isEnd (g_l G) (g_E G) (hG.hE.mono (by decide)) p3 s16) lk_X3_151 sm_X3_isEnd (Nat.le_of_ble_eq_true rfl) (Nat.le_of_ble_eq_true rfl) rfl rfl (Nat.le_of_ble_eq_true rfl) dX3_odds_23 (fun z23 s23 => ?_)
        refine rr_if_ne hG 33 dX3_odds_26 (by decide) ?_ ?_
        · refine rr_aload_n hG dX3_odds_33 rfl 0 rfl ?_
          refine rr_iload_n hG dX3_odds_34 rfl 1 rfl ?_
          refine rr_cVv hG [.int p1] (c_X3_layPlaces (g_l G) (g_E G) (hG.hE.mono (by decide)) p1 s23) lk_X3_194 im_X3_layPlaces se_X3_layPlaces rfl (by decide) (by decide) rfl rfl (Nat.le_of_ble_eq_true rfl) (Nat.le_of_ble_eq_true rfl) rfl rfl (Nat.le_of_ble_eq_true rfl) dX3_odds_35 (fun s35 => ?_)
          refine rr_lconst (v := 0) hG dX3_odds_38 (by decide) ?_
          refine rr_lstore (lr := [(0, .ref (bd_ad (g_E G) 55)), (1, .int p1), (2, .int p2), (3, .int p3)]) hG dX3_odds_39 (by decide) rfl ?_
          refine rr_iconst (v := 0) hG dX3_odds_41 (by decide) ?_
          refine rr_istore (lr := [(4, .long 0), (0, .ref (bd_ad (g_E G) 55)), (1, .int p1), (2, .int p2), (3, .int p3)]) hG dX3_odds_42 (by decide) rfl ?_
          refine (b_X3_odds_44 hG ho (fun x4e x1e x2e x3e e70 => ?_) FU_ 0 0 p1 p2 p3 s35)
          · refine rr_aload_n hG dX3_odds_70 rfl 1 rfl ?_
            refine rr_iload_n hG dX3_odds_71 rfl 2 rfl ?_
            refine rr_iload_n hG dX3_odds_72 rfl 3 rfl ?_
            refine rr_cVi hG [.int x1e, .int x2e] (c_X3_weightOf (g_l G) (g_E G) (hG.hE.mono (by decide)) x1e x2e e70) lk_X3_198 im_X3_weightOf se_X3_weightOf rfl (by decide) (by decide) rfl rfl (Nat.le_of_ble_eq_true rfl) (Nat.le_of_ble_eq_true rfl) rfl rfl (Nat.le_of_ble_eq_true rfl) dX3_odds_73 (fun z73 s73 => ?_)
            refine rr_i2l hG dX3_odds_76 (fun z76 => ?_)
            refine rr_lstore (lr := [(4, .long x4e), (0, .ref (bd_ad (g_E G) 55)), (1, .int x1e), (2, .int x2e), (3, .int x3e)]) hG dX3_odds_77 (by decide) rfl ?_
            refine rr_lload hG dX3_odds_79 0 rfl ?_
            refine rr_lstore (lr := [(6, .long z76), (4, .long x4e), (0, .ref (bd_ad (g_E G) 55)), (1, .int x1e), (2, .int x2e), (3, .int x3e)]) hG dX3_odds_81 (by decide) rfl ?_
            refine rr_lload hG dX3_odds_83 2 rfl ?_
            refine rr_lstore (lr := [(8, .long z76), (6, .long z76), (4, .long x4e), (0, .ref (bd_ad (g_E G) 55)), (1, .int x1e), (2, .int x2e), (3, .int x3e)]) hG dX3_odds_85 (by decide) rfl ?_
            refine rr_sub [0, 1, 2, 3, 7] rfl (b_X3_odds_87 hG ho (fun x8e x6e x4e x3e e112 => ?_) FU_ x4e z76 z76 x4e x3e s73)
            · refine rr_iload_n hG dX3_odds_112 rfl 3 rfl ?_
              refine rr_if_ne hG 124 dX3_odds_113 (by decide) ?_ ?_
              · refine rr_lload hG dX3_odds_124 2 rfl ?_
                refine rr_lload hG dX3_odds_126 0 rfl ?_
                refine rr_ldiv hG dX3_odds_128 (fun z128 => ?_)
                exact rr_lret hG ho dX3_odds_129
              · refine rr_lload hG dX3_odds_116 1 rfl ?_
                refine rr_lload hG dX3_odds_118 0 rfl ?_
                refine rr_ldiv hG dX3_odds_120 (fun z120 => ?_)
                refine rr_goto (tgt := 129) hG dX3_odds_121 (by decide) ?_
                exact rr_lret hG ho dX3_odds_129
        · refine rr_ldc2 (v := (-1000000000000000002)) hG kl_X3_203 dX3_odds_29 ?_
          exact rr_lret hG ho dX3_odds_32
    · refine rr_ldc2 (v := (-1000000000000000001)) hG kl_X3_201 dX3_odds_8 ?_
      exact rr_lret hG ho dX3_odds_11
  exact h
set_option maxRecDepth 100000 in
set_option maxHeartbeats 4000000 in
theorem c_X3_bits (l : Launch) (E : bd_E) (hE : bd_ok E 10) (p0 : Int32) (s_ : bd_S) : bd_M bd_Qi l yX3_bits cX3_bits 1 (some .int) 0 0 E [.int p0] s_ (f_X3_bits p0 s_) := by
  refine bd_open bd_Qi (by decide +kernel) hE (Nat.le_of_ble_eq_true rfl) (fun G out hG hGE hGl ho => ?_)
  subst hGE
  have hG : bd_OK G cX3_bits 1 RX3 10 0 0 (some .int) := hG
  have h : bd_WF G out (f_X3_bits p0 s_) s_ 0 [(0, .int p0)] [] := by
    unfold f_X3_bits
    refine rr_iload_n hG dX3_bits_0 rfl 0 rfl ?_
    refine rr_iconst (v := 1) hG dX3_bits_1 (by decide) ?_
    refine rr_iand hG dX3_bits_2 (fun z2 => ?_)
    refine rr_iload_n hG dX3_bits_3 rfl 0 rfl ?_
    refine rr_iconst (v := 1) hG dX3_bits_4 (by decide) ?_
    refine rr_ishr hG dX3_bits_5 (fun z5 => ?_)
    refine rr_iconst (v := 1) hG dX3_bits_6 (by decide) ?_
    refine rr_iand hG dX3_bits_7 (fun z7 => ?_)
    refine rr_iadd hG dX3_bits_8 (fun z8 => ?_)
    refine rr_iload_n hG dX3_bits_9 rfl 0 rfl ?_
    refine rr_iconst (v := 2) hG dX3_bits_10 (by decide) ?_
    refine rr_ishr hG dX3_bits_11 (fun z11 => ?_)
    refine rr_iconst (v := 1) hG dX3_bits_12 (by decide) ?_
    refine rr_iand hG dX3_bits_13 (fun z13 => ?_)
    refine rr_iadd hG dX3_bits_14 (fun z14 => ?_)
    exact rr_iret hG ho dX3_bits_15
  exact h
set_option maxRecDepth 100000 in
set_option maxHeartbeats 4000000 in
theorem b_X3_bestOf_9 {G : bd_G} {out : Int32 × bd_S} (hG : bd_OK G cX3_bestOf 5 RX3 85 5 118 (some .int)) (ho : bd_ends bd_Qi G out) : ∀ (n_ : Nat) (x3 : Int32) (x2 : Int32) (x1 : Int32) (s_ : bd_S), bd_WF G out (f_X3_bestOf_9 n_ x3 x2 x1 s_) s_ 9 [(3, .int x3), (2, .int x2), (0, .ref (bd_ad (g_E G) 55)), (1, .int x1)] [] := by
  intro n_
  induction n_ with
  | zero => intros; intro hF; cases hF
  | succ n_ ih =>
    intro x3 x2 x1 s_
    rw [f_X3_bestOf_9]
    refine rr_iload_n hG dX3_bestOf_9 rfl 0 rfl ?_
    refine rr_bipush (v := 8) hG dX3_bestOf_10 (by decide) ?_
    refine rr_icmp_ge hG 63 dX3_bestOf_12 (by decide) ?_ ?_
    · refine rr_iload_n hG dX3_bestOf_63 rfl 1 rfl ?_
      exact rr_iret hG ho dX3_bestOf_64
    · refine rr_aload_n hG dX3_bestOf_15 rfl 2 rfl ?_
      refine rr_iload_n hG dX3_bestOf_16 rfl 3 rfl ?_
      refine rr_iload_n hG dX3_bestOf_17 rfl 0 rfl ?_
      refine rr_cVi hG [.int x1, .int x3] (c_X3_weightOf (g_l G) (g_E G) (hG.hE.mono (by decide)) x1 x3 s_) lk_X3_198 im_X3_weightOf se_X3_weightOf rfl (by decide) (by decide) rfl rfl (Nat.le_of_ble_eq_true rfl) (Nat.le_of_ble_eq_true rfl) rfl rfl (Nat.le_of_ble_eq_true rfl) dX3_bestOf_18 (fun z18 s18 => ?_)
      refine rr_aload_n hG dX3_bestOf_21 rfl 2 rfl ?_
      refine rr_iload_n hG dX3_bestOf_22 rfl 3 rfl ?_
      refine rr_iload_n hG dX3_bestOf_23 rfl 1 rfl ?_
      refine rr_cVi hG [.int x1, .int x2] (c_X3_weightOf (g_l G) (g_E G) (hG.hE.mono (by decide)) x1 x2 s18) lk_X3_198 im_X3_weightOf se_X3_weightOf rfl (by decide) (by decide) rfl rfl (Nat.le_of_ble_eq_true rfl) (Nat.le_of_ble_eq_true rfl) rfl rfl (Nat.le_of_ble_eq_true rfl) dX3_bestOf_24 (fun z24 s24 => ?_)
      refine rr_isub hG dX3_bestOf_27 (fun z27 => ?_)
      refine rr_istore (lr := [(3, .int x3), (2, .int x2), (0, .ref (bd_ad (g_E G) 55)), (1, .int x1)]) hG dX3_bestOf_28 (by decide) rfl ?_
      refine rr_iload hG dX3_bestOf_30 0 rfl ?_
      refine rr_if_gt hG 51 dX3_bestOf_32 (by decide) ?_ ?_
      · refine rr_iload_n hG dX3_bestOf_51 rfl 1 rfl ?_
        refine rr_goto (tgt := 56) hG dX3_bestOf_52 (by decide) ?_
        refine rr_istore_n (lr := [(4, .int z27), (3, .int x3), (0, .ref (bd_ad (g_E G) 55)), (1, .int x1)]) hG dX3_bestOf_56 rfl (by decide) rfl ?_
        refine rr_iinc (v := 1) (lr := [(2, .int x3), (4, .int z27), (0, .ref (bd_ad (g_E G) 55)), (1, .int x1)]) hG dX3_bestOf_57 2 rfl (by decide) (by decide) rfl (fun z57 => ?_)
        refine rr_goto (tgt := 9) hG dX3_bestOf_60 (by decide) ?_
        exact rr_sub [0, 1, 3, 4] rfl (ih z57 x3 x1 s24)
      · refine rr_iload hG dX3_bestOf_35 0 rfl ?_
        refine rr_if_ne hG 55 dX3_bestOf_37 (by decide) ?_ ?_
        · refine rr_iload_n hG dX3_bestOf_55 rfl 2 rfl ?_
          refine rr_istore_n (lr := [(4, .int z27), (3, .int x3), (0, .ref (bd_ad (g_E G) 55)), (1, .int x1)]) hG dX3_bestOf_56 rfl (by decide) rfl ?_
          refine rr_iinc (v := 1) (lr := [(2, .int x2), (4, .int z27), (0, .ref (bd_ad (g_E G) 55)), (1, .int x1)]) hG dX3_bestOf_57 2 rfl (by decide) (by decide) rfl (fun z57 => ?_)
          refine rr_goto (tgt := 9) hG dX3_bestOf_60 (by decide) ?_
          exact rr_sub [0, 1, 3, 4] rfl (ih z57 x2 x1 s24)
        · refine rr_iload_n hG dX3_bestOf_40 rfl 1 rfl ?_
          refine rr_cSi hG [.int x3] (c_X3_bits (g_l G) (g_E G) (hG.hE.mono (by decide)) x3 s24) lk_X3_205 sm_X3_bits (Nat.le_of_ble_eq_true rfl) (Nat.le_of_ble_eq_true rfl) rfl rfl (Nat.le_of_ble_eq_true rfl) dX3_bestOf_41 (fun z41 s41 => ?_)
          refine rr_iload_n hG dX3_bestOf_44 rfl 2 rfl ?_
          refine rr_cSi hG [.int x2] (c_X3_bits (g_l G) (g_E G) (hG.hE.mono (by decide)) x2 s41) lk_X3_205 sm_X3_bits (Nat.le_of_ble_eq_true rfl) (Nat.le_of_ble_eq_true rfl) rfl rfl (Nat.le_of_ble_eq_true rfl) dX3_bestOf_45 (fun z45 s45 => ?_)
          refine rr_icmp_le hG 55 dX3_bestOf_48 (by decide) ?_ ?_
          · refine rr_iload_n hG dX3_bestOf_55 rfl 2 rfl ?_
            refine rr_istore_n (lr := [(4, .int z27), (3, .int x3), (0, .ref (bd_ad (g_E G) 55)), (1, .int x1)]) hG dX3_bestOf_56 rfl (by decide) rfl ?_
            refine rr_iinc (v := 1) (lr := [(2, .int x2), (4, .int z27), (0, .ref (bd_ad (g_E G) 55)), (1, .int x1)]) hG dX3_bestOf_57 2 rfl (by decide) (by decide) rfl (fun z57 => ?_)
            refine rr_goto (tgt := 9) hG dX3_bestOf_60 (by decide) ?_
            exact rr_sub [0, 1, 3, 4] rfl (ih z57 x2 x1 s45)
          · refine rr_iload_n hG dX3_bestOf_51 rfl 1 rfl ?_
            refine rr_goto (tgt := 56) hG dX3_bestOf_52 (by decide) ?_
            refine rr_istore_n (lr := [(4, .int z27), (3, .int x3), (0, .ref (bd_ad (g_E G) 55)), (1, .int x1)]) hG dX3_bestOf_56 rfl (by decide) rfl ?_
            refine rr_iinc (v := 1) (lr := [(2, .int x3), (4, .int z27), (0, .ref (bd_ad (g_E G) 55)), (1, .int x1)]) hG dX3_bestOf_57 2 rfl (by decide) (by decide) rfl (fun z57 => ?_)
            refine rr_goto (tgt := 9) hG dX3_bestOf_60 (by decide) ?_
            exact rr_sub [0, 1, 3, 4] rfl (ih z57 x3 x1 s45)
set_option maxRecDepth 100000 in
set_option maxHeartbeats 4000000 in
theorem c_X3_bestOf (l : Launch) (E : bd_E) (hE : bd_ok E 85) (p1 : Int32) (s_ : bd_S) : bd_M bd_Qi l yX3_bestOf cX3_bestOf 5 (some .int) 5 118 E [.ref (bd_ad E 55), .int p1] s_ (f_X3_bestOf p1 s_) := by
  refine bd_open bd_Qi (by decide +kernel) hE (Nat.le_of_ble_eq_true rfl) (fun G out hG hGE hGl ho => ?_)
  subst hGE
  have hG : bd_OK G cX3_bestOf 5 RX3 85 5 118 (some .int) := hG
  have h : bd_WF G out (f_X3_bestOf p1 s_) s_ 0 [(0, .ref (bd_ad (g_E G) 55)), (1, .int p1)] [] := by
    unfold f_X3_bestOf
    refine rr_aload_n hG dX3_bestOf_0 rfl 0 rfl ?_
    refine rr_iload_n hG dX3_bestOf_1 rfl 1 rfl ?_
    refine rr_cVv hG [.int p1] (c_X3_layPlaces (g_l G) (g_E G) (hG.hE.mono (by decide)) p1 s_) lk_X3_194 im_X3_layPlaces se_X3_layPlaces rfl (by decide) (by decide) rfl rfl (Nat.le_of_ble_eq_true rfl) (Nat.le_of_ble_eq_true rfl) rfl rfl (Nat.le_of_ble_eq_true rfl) dX3_bestOf_2 (fun s2 => ?_)
    refine rr_iconst (v := 0) hG dX3_bestOf_5 (by decide) ?_
    refine rr_istore_n (lr := [(0, .ref (bd_ad (g_E G) 55)), (1, .int p1)]) hG dX3_bestOf_6 rfl (by decide) rfl ?_
    refine rr_iconst (v := 1) hG dX3_bestOf_7 (by decide) ?_
    refine rr_istore_n (lr := [(2, .int 0), (0, .ref (bd_ad (g_E G) 55)), (1, .int p1)]) hG dX3_bestOf_8 rfl (by decide) rfl ?_
    exact (b_X3_bestOf_9 hG ho FU_ 1 0 p1 s2)
  exact h
set_option maxRecDepth 100000 in
set_option maxHeartbeats 4000000 in
theorem c_X3_best (l : Launch) (E : bd_E) (hE : bd_ok E 85) (p1 : Int32) (s_ : bd_S) : bd_M bd_Qi l yX3_best cX3_best 2 (some .int) 6 142 E [.ref (bd_ad E 55), .int p1] s_ (f_X3_best p1 s_) := by
  refine bd_open bd_Qi (by decide +kernel) hE (Nat.le_of_ble_eq_true rfl) (fun G out hG hGE hGl ho => ?_)
  subst hGE
  have hG : bd_OK G cX3_best 2 RX3 85 6 142 (some .int) := hG
  have h : bd_WF G out (f_X3_best p1 s_) s_ 0 [(0, .ref (bd_ad (g_E G) 55)), (1, .int p1)] [] := by
    unfold f_X3_best
    refine rr_aload_n hG dX3_best_0 rfl 0 rfl ?_
    refine rr_iload_n hG dX3_best_1 rfl 1 rfl ?_
    refine rr_cVi hG [.int p1] (c_X3_isShip (g_l G) (g_E G) (hG.hE.mono (by decide)) p1 s_) lk_X3_158 im_X3_isShip se_X3_isShip rfl (by decide) (by decide) rfl rfl (Nat.le_of_ble_eq_true rfl) (Nat.le_of_ble_eq_true rfl) rfl rfl (Nat.le_of_ble_eq_true rfl) dX3_best_2 (fun z2 s2 => ?_)
    refine rr_if_eq hG 16 dX3_best_5 (by decide) ?_ ?_
    · refine rr_iconst (v := (-1)) hG dX3_best_16 (by decide) ?_
      exact rr_iret hG ho dX3_best_17
    · refine rr_aload_n hG dX3_best_8 rfl 0 rfl ?_
      refine rr_iload_n hG dX3_best_9 rfl 1 rfl ?_
      refine rr_cVi hG [.int p1] (c_X3_bestOf (g_l G) (g_E G) (hG.hE.mono (by decide)) p1 s2) lk_X3_209 im_X3_bestOf se_X3_bestOf rfl (by decide) (by decide) rfl rfl (Nat.le_of_ble_eq_true rfl) (Nat.le_of_ble_eq_true rfl) rfl rfl (Nat.le_of_ble_eq_true rfl) dX3_best_10 (fun z10 s10 => ?_)
      refine rr_goto (tgt := 17) hG dX3_best_13 (by decide) ?_
      exact rr_iret hG ho dX3_best_17
  exact h
set_option maxRecDepth 100000 in
set_option maxHeartbeats 4000000 in
theorem c_X3_landfall (l : Launch) (E : bd_E) (hE : bd_ok E 85) (p1 : Int32) (p2 : Int32) (s_ : bd_S) : bd_M bd_Qi l yX3_landfall cX3_landfall 4 (some .int) 6 142 E [.ref (bd_ad E 55), .int p1, .int p2] s_ (f_X3_landfall p1 p2 s_) := by
  refine bd_open bd_Qi (by decide +kernel) hE (Nat.le_of_ble_eq_true rfl) (fun G out hG hGE hGl ho => ?_)
  subst hGE
  have hG : bd_OK G cX3_landfall 4 RX3 85 6 142 (some .int) := hG
  have h : bd_WF G out (f_X3_landfall p1 p2 s_) s_ 0 [(0, .ref (bd_ad (g_E G) 55)), (1, .int p1), (2, .int p2)] [] := by
    unfold f_X3_landfall
    refine rr_aload_n hG dX3_landfall_0 rfl 0 rfl ?_
    refine rr_iload_n hG dX3_landfall_1 rfl 1 rfl ?_
    refine rr_cVi hG [.int p1] (c_X3_isShip (g_l G) (g_E G) (hG.hE.mono (by decide)) p1 s_) lk_X3_158 im_X3_isShip se_X3_isShip rfl (by decide) (by decide) rfl rfl (Nat.le_of_ble_eq_true rfl) (Nat.le_of_ble_eq_true rfl) rfl rfl (Nat.le_of_ble_eq_true rfl) dX3_landfall_2 (fun z2 s2 => ?_)
    refine rr_if_ne hG 11 dX3_landfall_5 (by decide) ?_ ?_
    · refine rr_iload_n hG dX3_landfall_11 rfl 2 rfl ?_
      refine rr_cSi hG [.int p2] (c_X3_isEnd (g_l G) (g_E G) (hG.hE.mono (by decide)) p2 s2) lk_X3_151 sm_X3_isEnd (Nat.le_of_ble_eq_true rfl) (Nat.le_of_ble_eq_true rfl) rfl rfl (Nat.le_of_ble_eq_true rfl) dX3_landfall_12 (fun z12 s12 => ?_)
      refine rr_if_ne hG 21 dX3_landfall_15 (by decide) ?_ ?_
      · refine rr_aload_n hG dX3_landfall_21 rfl 0 rfl ?_
        refine rr_iload_n hG dX3_landfall_22 rfl 1 rfl ?_
        refine rr_cVi hG [.int p1] (c_X3_bestOf (g_l G) (g_E G) (hG.hE.mono (by decide)) p1 s12) lk_X3_209 im_X3_bestOf se_X3_bestOf rfl (by decide) (by decide) rfl rfl (Nat.le_of_ble_eq_true rfl) (Nat.le_of_ble_eq_true rfl) rfl rfl (Nat.le_of_ble_eq_true rfl) dX3_landfall_23 (fun z23 s23 => ?_)
        refine rr_istore_n (lr := [(0, .ref (bd_ad (g_E G) 55)), (1, .int p1), (2, .int p2)]) hG dX3_landfall_26 rfl (by decide) rfl ?_
        refine rr_iload_n hG dX3_landfall_27 rfl 0 rfl ?_
        refine rr_if_ne hG 34 dX3_landfall_28 (by decide) ?_ ?_
        · refine rr_aload_n hG dX3_landfall_34 rfl 1 rfl ?_
          refine rr_iload_n hG dX3_landfall_35 rfl 0 rfl ?_
          refine rr_cVi hG [.int z23] (c_X3_agrees (g_l G) (g_E G) (hG.hE.mono (by decide)) z23 s23) lk_X3_191 im_X3_agrees se_X3_agrees rfl (by decide) (by decide) rfl rfl (Nat.le_of_ble_eq_true rfl) (Nat.le_of_ble_eq_true rfl) rfl rfl (Nat.le_of_ble_eq_true rfl) dX3_landfall_36 (fun z36 s36 => ?_)
          refine rr_pop hG dX3_landfall_39 rfl ?_
          refine rr_iload_n hG dX3_landfall_40 rfl 3 rfl ?_
          refine rr_if_ne hG 51 dX3_landfall_41 (by decide) ?_ ?_
          · refine rr_aload_n hG dX3_landfall_51 rfl 1 rfl ?_
            refine gf_X3_188 hG (by decide) dX3_landfall_52 (fun z52 => ?_)
            exact rr_iret hG ho dX3_landfall_55
          · refine rr_aload_n hG dX3_landfall_44 rfl 1 rfl ?_
            refine gf_X3_184 hG (by decide) dX3_landfall_45 (fun z45 => ?_)
            refine rr_goto (tgt := 55) hG dX3_landfall_48 (by decide) ?_
            exact rr_iret hG ho dX3_landfall_55
        · refine rr_ldc (v := (-100000003)) hG kc_X3_178 dX3_landfall_31 ?_
          exact rr_iret hG ho dX3_landfall_33
      · refine rr_ldc (v := (-100000002)) hG kc_X3_154 dX3_landfall_18 ?_
        exact rr_iret hG ho dX3_landfall_20
    · refine rr_ldc (v := (-100000001)) hG kc_X3_150 dX3_landfall_8 ?_
      exact rr_iret hG ho dX3_landfall_10
  exact h
set_option maxRecDepth 100000 in
set_option maxHeartbeats 4000000 in
theorem b_X3_suspects_15 {G : bd_G} {out : Int32 × bd_S} (hG : bd_OK G cX3_suspects 5 RX3 85 4 96 (some .int)) (ho : bd_ends bd_Qi G out) {k66 : Int32 → Int32 → Int32 → bd_S → Option (Int32 × bd_S)} (hk66 : ∀ (x3 : Int32) (x2 : Int32) (x1 : Int32) (s_ : bd_S), bd_WF G out (k66 x3 x2 x1 s_) s_ 66 [(3, .int x3), (2, .int x2), (0, .ref (bd_ad (g_E G) 55)), (1, .int x1)] []) : ∀ (n_ : Nat) (x4 : Int32) (x3 : Int32) (x2 : Int32) (x1 : Int32) (s_ : bd_S), bd_WF G out (f_X3_suspects_15 k66 n_ x4 x3 x2 x1 s_) s_ 15 [(4, .int x4), (3, .int x3), (2, .int x2), (0, .ref (bd_ad (g_E G) 55)), (1, .int x1)] [] := by
  intro n_
  induction n_ with
  | zero => intros; intro hF; cases hF
  | succ n_ ih =>
    intro x4 x3 x2 x1 s_
    rw [f_X3_suspects_15]
    refine rr_iload hG dX3_suspects_15 0 rfl ?_
    refine rr_iconst (v := 3) hG dX3_suspects_17 (by decide) ?_
    refine rr_icmp_ge hG 66 dX3_suspects_18 (by decide) ?_ ?_
    · exact rr_sub [1, 2, 3, 4] rfl (hk66 x3 x2 x1 s_)
    · refine rr_aload_n hG dX3_suspects_21 rfl 3 rfl ?_
      refine rr_iload_n hG dX3_suspects_22 rfl 1 rfl ?_
      refine rr_iload hG dX3_suspects_23 0 rfl ?_
      refine rr_cVi hG [.int x3, .int x4] (c_X3_lay (g_l G) (g_E G) (hG.hE.mono (by decide)) x3 x4 s_) lk_X3_175 im_X3_lay se_X3_lay rfl (by decide) (by decide) rfl rfl (Nat.le_of_ble_eq_true rfl) (Nat.le_of_ble_eq_true rfl) rfl rfl (Nat.le_of_ble_eq_true rfl) dX3_suspects_25 (fun z25 s25 => ?_)
      refine rr_if_ne hG 60 dX3_suspects_28 (by decide) ?_ ?_
      · refine rr_iinc (v := 1) (lr := [(3, .int x3), (2, .int x2), (0, .ref (bd_ad (g_E G) 55)), (1, .int x1)]) hG dX3_suspects_60 0 rfl (by decide) (by decide) rfl (fun z60 => ?_)
        refine rr_goto (tgt := 15) hG dX3_suspects_63 (by decide) ?_
        exact ih z60 x3 x2 x1 s25
      · refine rr_aload_n hG dX3_suspects_31 rfl 3 rfl ?_
        refine rr_iload_n hG dX3_suspects_32 rfl 4 rfl ?_
        refine pf_X3_93 hG (by decide) dX3_suspects_33 (fun s33 => ?_)
        refine rr_iload_n hG dX3_suspects_36 rfl 2 rfl ?_
        refine rr_aload_n hG dX3_suspects_37 rfl 3 rfl ?_
        refine rr_iload_n hG dX3_suspects_38 rfl 1 rfl ?_
        refine rr_iload hG dX3_suspects_39 0 rfl ?_
        refine rr_cVi hG [.int x3, .int x4] (c_X3_lay (g_l G) (g_E G) (hG.hE.mono (by decide)) x3 x4 s33) lk_X3_175 im_X3_lay se_X3_lay rfl (by decide) (by decide) rfl rfl (Nat.le_of_ble_eq_true rfl) (Nat.le_of_ble_eq_true rfl) rfl rfl (Nat.le_of_ble_eq_true rfl) dX3_suspects_41 (fun z41 s41 => ?_)
        refine rr_if_eq hG 51 dX3_suspects_44 (by decide) ?_ ?_
        · refine rr_iconst (v := 0) hG dX3_suspects_51 (by decide) ?_
          refine rr_iadd hG dX3_suspects_52 (fun z52 => ?_)
          refine rr_istore_n (lr := [(4, .int x4), (3, .int x3), (0, .ref (bd_ad (g_E G) 55)), (1, .int x1)]) hG dX3_suspects_53 rfl (by decide) rfl ?_
          refine rr_aload_n hG dX3_suspects_54 rfl 3 rfl ?_
          refine rr_bipush (v := (-6)) hG dX3_suspects_55 (by decide) ?_
          refine pf_X3_93 hG (by decide) dX3_suspects_57 (fun s57 => ?_)
          refine rr_iinc (v := 1) (lr := [(2, .int z52), (3, .int x3), (0, .ref (bd_ad (g_E G) 55)), (1, .int x1)]) hG dX3_suspects_60 1 rfl (by decide) (by decide) rfl (fun z60 => ?_)
          refine rr_goto (tgt := 15) hG dX3_suspects_63 (by decide) ?_
          exact rr_sub [0, 2, 1, 3, 4] rfl (ih z60 x3 z52 x1 s57)
        · refine rr_iconst (v := 1) hG dX3_suspects_47 (by decide) ?_
          refine rr_goto (tgt := 52) hG dX3_suspects_48 (by decide) ?_
          refine rr_iadd hG dX3_suspects_52 (fun z52 => ?_)
          refine rr_istore_n (lr := [(4, .int x4), (3, .int x3), (0, .ref (bd_ad (g_E G) 55)), (1, .int x1)]) hG dX3_suspects_53 rfl (by decide) rfl ?_
          refine rr_aload_n hG dX3_suspects_54 rfl 3 rfl ?_
          refine rr_bipush (v := (-6)) hG dX3_suspects_55 (by decide) ?_
          refine pf_X3_93 hG (by decide) dX3_suspects_57 (fun s57 => ?_)
          refine rr_iinc (v := 1) (lr := [(2, .int z52), (3, .int x3), (0, .ref (bd_ad (g_E G) 55)), (1, .int x1)]) hG dX3_suspects_60 1 rfl (by decide) (by decide) rfl (fun z60 => ?_)
          refine rr_goto (tgt := 15) hG dX3_suspects_63 (by decide) ?_
          exact rr_sub [0, 2, 1, 3, 4] rfl (ih z60 x3 z52 x1 s57)
set_option maxRecDepth 100000 in
set_option maxHeartbeats 4000000 in
theorem b_X3_suspects_4 {G : bd_G} {out : Int32 × bd_S} (hG : bd_OK G cX3_suspects 5 RX3 85 4 96 (some .int)) (ho : bd_ends bd_Qi G out) : ∀ (n_ : Nat) (x3 : Int32) (x2 : Int32) (x1 : Int32) (s_ : bd_S), bd_WF G out (f_X3_suspects_4 n_ x3 x2 x1 s_) s_ 4 [(3, .int x3), (2, .int x2), (0, .ref (bd_ad (g_E G) 55)), (1, .int x1)] [] := by
  intro n_
  induction n_ with
  | zero => intros; intro hF; cases hF
  | succ n_ ih =>
    intro x3 x2 x1 s_
    rw [f_X3_suspects_4]
    refine rr_iload_n hG dX3_suspects_4 rfl 0 rfl ?_
    refine rr_aload_n hG dX3_suspects_5 rfl 2 rfl ?_
    refine gf_X3_115 hG (by decide) dX3_suspects_6 (fun z6 => ?_)
    refine rr_icmp_ge hG 72 dX3_suspects_9 (by decide) ?_ ?_
    · refine rr_iload_n hG dX3_suspects_72 rfl 1 rfl ?_
      exact rr_iret hG ho dX3_suspects_73
    · refine rr_iconst (v := 0) hG dX3_suspects_12 (by decide) ?_
      refine rr_istore (lr := [(3, .int x3), (2, .int x2), (0, .ref (bd_ad (g_E G) 55)), (1, .int x1)]) hG dX3_suspects_13 (by decide) rfl ?_
      refine (b_X3_suspects_15 hG ho (fun x3e x2e x1e e66 => ?_) FU_ 0 x3 x2 x1 s_)
      · refine rr_iinc (v := 1) (lr := [(2, .int x2e), (0, .ref (bd_ad (g_E G) 55)), (1, .int x1e)]) hG dX3_suspects_66 0 rfl (by decide) (by decide) rfl (fun z66 => ?_)
        refine rr_goto (tgt := 4) hG dX3_suspects_69 (by decide) ?_
        exact ih z66 x2e x1e e66
set_option maxRecDepth 100000 in
set_option maxHeartbeats 4000000 in
theorem c_X3_suspects (l : Launch) (E : bd_E) (hE : bd_ok E 85) (p1 : Int32) (s_ : bd_S) : bd_M bd_Qi l yX3_suspects cX3_suspects 5 (some .int) 4 96 E [.ref (bd_ad E 55), .int p1] s_ (f_X3_suspects p1 s_) := by
  refine bd_open bd_Qi (by decide +kernel) hE (Nat.le_of_ble_eq_true rfl) (fun G out hG hGE hGl ho => ?_)
  subst hGE
  have hG : bd_OK G cX3_suspects 5 RX3 85 4 96 (some .int) := hG
  have h : bd_WF G out (f_X3_suspects p1 s_) s_ 0 [(0, .ref (bd_ad (g_E G) 55)), (1, .int p1)] [] := by
    unfold f_X3_suspects
    refine rr_iconst (v := 0) hG dX3_suspects_0 (by decide) ?_
    refine rr_istore_n (lr := [(0, .ref (bd_ad (g_E G) 55)), (1, .int p1)]) hG dX3_suspects_1 rfl (by decide) rfl ?_
    refine rr_iconst (v := 0) hG dX3_suspects_2 (by decide) ?_
    refine rr_istore_n (lr := [(2, .int 0), (0, .ref (bd_ad (g_E G) 55)), (1, .int p1)]) hG dX3_suspects_3 rfl (by decide) rfl ?_
    exact (b_X3_suspects_4 hG ho FU_ 0 0 p1 s_)
  exact h
set_option maxRecDepth 100000 in
set_option maxHeartbeats 4000000 in
theorem c_X3_suspect (l : Launch) (E : bd_E) (hE : bd_ok E 85) (p1 : Int32) (s_ : bd_S) : bd_M bd_Qi l yX3_suspect cX3_suspect 2 (some .int) 5 120 E [.ref (bd_ad E 55), .int p1] s_ (f_X3_suspect p1 s_) := by
  refine bd_open bd_Qi (by decide +kernel) hE (Nat.le_of_ble_eq_true rfl) (fun G out hG hGE hGl ho => ?_)
  subst hGE
  have hG : bd_OK G cX3_suspect 2 RX3 85 5 120 (some .int) := hG
  have h : bd_WF G out (f_X3_suspect p1 s_) s_ 0 [(0, .ref (bd_ad (g_E G) 55)), (1, .int p1)] [] := by
    unfold f_X3_suspect
    refine rr_iload_n hG dX3_suspect_0 rfl 1 rfl ?_
    refine rr_cSi hG [.int p1] (c_X3_isDay (g_l G) (g_E G) (hG.hE.mono (by decide)) p1 s_) lk_X3_146 sm_X3_isDay (Nat.le_of_ble_eq_true rfl) (Nat.le_of_ble_eq_true rfl) rfl rfl (Nat.le_of_ble_eq_true rfl) dX3_suspect_1 (fun z1 s1 => ?_)
    refine rr_if_eq hG 15 dX3_suspect_4 (by decide) ?_ ?_
    · refine rr_iconst (v := (-1)) hG dX3_suspect_15 (by decide) ?_
      exact rr_iret hG ho dX3_suspect_16
    · refine rr_aload_n hG dX3_suspect_7 rfl 0 rfl ?_
      refine rr_iload_n hG dX3_suspect_8 rfl 1 rfl ?_
      refine rr_cVi hG [.int p1] (c_X3_suspects (g_l G) (g_E G) (hG.hE.mono (by decide)) p1 s1) lk_X3_212 im_X3_suspects se_X3_suspects rfl (by decide) (by decide) rfl rfl (Nat.le_of_ble_eq_true rfl) (Nat.le_of_ble_eq_true rfl) rfl rfl (Nat.le_of_ble_eq_true rfl) dX3_suspect_9 (fun z9 s9 => ?_)
      refine rr_goto (tgt := 16) hG dX3_suspect_12 (by decide) ?_
      exact rr_iret hG ho dX3_suspect_16
  exact h
set_option maxRecDepth 100000 in
set_option maxHeartbeats 4000000 in
theorem b_X3_worst_46 {G : bd_G} {out : Int32 × bd_S} (hG : bd_OK G cX3_worst 6 RX3 85 5 120 (some .int)) (ho : bd_ends bd_Qi G out) {k19 : Int32 → Int32 → Int32 → Int32 → bd_S → Option (Int32 × bd_S)} (hk19 : ∀ (x4 : Int32) (x3 : Int32) (x2 : Int32) (x1 : Int32) (s_ : bd_S), bd_WF G out (k19 x4 x3 x2 x1 s_) s_ 19 [(4, .int x4), (3, .int x3), (2, .int x2), (0, .ref (bd_ad (g_E G) 55)), (1, .int x1)] []) (x5 : Int32) (x4 : Int32) (x3 : Int32) (x1 : Int32) (t0 : Int32) (s_ : bd_S) : bd_WF G out (f_X3_worst_46 k19 x5 x4 x3 x1 t0 s_) s_ 46 [(5, .int x5), (4, .int x4), (3, .int x3), (0, .ref (bd_ad (g_E G) 55)), (1, .int x1)] [.int t0] := by
  unfold f_X3_worst_46
  refine rr_istore_n (lr := [(5, .int x5), (4, .int x4), (3, .int x3), (0, .ref (bd_ad (g_E G) 55)), (1, .int x1)]) hG dX3_worst_46 rfl (by decide) rfl ?_
  refine rr_iload hG dX3_worst_47 1 rfl ?_
  refine rr_iload_n hG dX3_worst_49 rfl 3 rfl ?_
  refine rr_icmp_le hG 58 dX3_worst_50 (by decide) ?_ ?_
  · refine rr_iload_n hG dX3_worst_58 rfl 3 rfl ?_
    refine rr_istore_n (lr := [(2, .int t0), (5, .int x5), (4, .int x4), (0, .ref (bd_ad (g_E G) 55)), (1, .int x1)]) hG dX3_worst_59 rfl (by decide) rfl ?_
    refine rr_iinc (v := 1) (lr := [(3, .int x3), (2, .int t0), (5, .int x5), (0, .ref (bd_ad (g_E G) 55)), (1, .int x1)]) hG dX3_worst_60 3 rfl (by decide) (by decide) rfl (fun z60 => ?_)
    refine rr_goto (tgt := 19) hG dX3_worst_63 (by decide) ?_
    exact rr_sub [0, 1, 2, 4, 5] rfl (hk19 z60 x3 t0 x1 s_)
  · refine rr_iload hG dX3_worst_53 1 rfl ?_
    refine rr_goto (tgt := 59) hG dX3_worst_55 (by decide) ?_
    refine rr_istore_n (lr := [(2, .int t0), (5, .int x5), (4, .int x4), (0, .ref (bd_ad (g_E G) 55)), (1, .int x1)]) hG dX3_worst_59 rfl (by decide) rfl ?_
    refine rr_iinc (v := 1) (lr := [(3, .int x5), (2, .int t0), (5, .int x5), (0, .ref (bd_ad (g_E G) 55)), (1, .int x1)]) hG dX3_worst_60 3 rfl (by decide) (by decide) rfl (fun z60 => ?_)
    refine rr_goto (tgt := 19) hG dX3_worst_63 (by decide) ?_
    exact rr_sub [0, 1, 2, 4, 5] rfl (hk19 z60 x5 t0 x1 s_)
set_option maxRecDepth 100000 in
set_option maxHeartbeats 4000000 in
theorem b_X3_worst_19 {G : bd_G} {out : Int32 × bd_S} (hG : bd_OK G cX3_worst 6 RX3 85 5 120 (some .int)) (ho : bd_ends bd_Qi G out) {k66 : Int32 → Int32 → Int32 → bd_S → Option (Int32 × bd_S)} (hk66 : ∀ (x3 : Int32) (x2 : Int32) (x1 : Int32) (s_ : bd_S), bd_WF G out (k66 x3 x2 x1 s_) s_ 66 [(3, .int x3), (2, .int x2), (1, .int x1)] []) : ∀ (n_ : Nat) (x4 : Int32) (x3 : Int32) (x2 : Int32) (x1 : Int32) (s_ : bd_S), bd_WF G out (f_X3_worst_19 k66 n_ x4 x3 x2 x1 s_) s_ 19 [(4, .int x4), (3, .int x3), (2, .int x2), (0, .ref (bd_ad (g_E G) 55)), (1, .int x1)] [] := by
  intro n_
  induction n_ with
  | zero => intros; intro hF; cases hF
  | succ n_ ih =>
    intro x4 x3 x2 x1 s_
    rw [f_X3_worst_19]
    refine rr_iload hG dX3_worst_19 0 rfl ?_
    refine rr_bipush (v := 20) hG dX3_worst_21 (by decide) ?_
    refine rr_icmp_ge hG 66 dX3_worst_23 (by decide) ?_ ?_
    · exact rr_sub [1, 2, 4] rfl (hk66 x3 x2 x1 s_)
    · refine rr_aload_n hG dX3_worst_26 rfl 3 rfl ?_
      refine rr_iload hG dX3_worst_27 0 rfl ?_
      refine rr_cVi hG [.int x4] (c_X3_suspects (g_l G) (g_E G) (hG.hE.mono (by decide)) x4 s_) lk_X3_212 im_X3_suspects se_X3_suspects rfl (by decide) (by decide) rfl rfl (Nat.le_of_ble_eq_true rfl) (Nat.le_of_ble_eq_true rfl) rfl rfl (Nat.le_of_ble_eq_true rfl) dX3_worst_29 (fun z29 s29 => ?_)
      refine rr_istore (lr := [(4, .int x4), (3, .int x3), (2, .int x2), (0, .ref (bd_ad (g_E G) 55)), (1, .int x1)]) hG dX3_worst_32 (by decide) rfl ?_
      refine rr_iload hG dX3_worst_34 0 rfl ?_
      refine rr_iload_n hG dX3_worst_36 rfl 2 rfl ?_
      refine rr_icmp_le hG 45 dX3_worst_37 (by decide) ?_ ?_
      · refine rr_iload_n hG dX3_worst_45 rfl 3 rfl ?_
        exact rr_sub [0, 1, 2, 4, 5] rfl (b_X3_worst_46 hG ho ih z29 x4 x3 x1 x2 s29)
      · refine rr_iload hG dX3_worst_40 1 rfl ?_
        refine rr_goto (tgt := 46) hG dX3_worst_42 (by decide) ?_
        exact rr_sub [0, 1, 2, 4, 5] rfl (b_X3_worst_46 hG ho ih z29 x4 x3 x1 x4 s29)
set_option maxRecDepth 100000 in
set_option maxHeartbeats 4000000 in
theorem c_X3_worst (l : Launch) (E : bd_E) (hE : bd_ok E 85) (p1 : Int32) (s_ : bd_S) : bd_M bd_Qi l yX3_worst cX3_worst 6 (some .int) 5 120 E [.ref (bd_ad E 55), .int p1] s_ (f_X3_worst p1 s_) := by
  refine bd_open bd_Qi (by decide +kernel) hE (Nat.le_of_ble_eq_true rfl) (fun G out hG hGE hGl ho => ?_)
  subst hGE
  have hG : bd_OK G cX3_worst 6 RX3 85 5 120 (some .int) := hG
  have h : bd_WF G out (f_X3_worst p1 s_) s_ 0 [(0, .ref (bd_ad (g_E G) 55)), (1, .int p1)] [] := by
    unfold f_X3_worst
    refine rr_iload_n hG dX3_worst_0 rfl 1 rfl ?_
    refine rr_iconst (v := 0) hG dX3_worst_1 (by decide) ?_
    refine rr_iconst (v := 1) hG dX3_worst_2 (by decide) ?_
    refine rr_cSi hG [.int p1, .int 0, .int 1] (c_X3_in (g_l G) (g_E G) (hG.hE.mono (by decide)) p1 0 1 s_) lk_X3_111 sm_X3_in (Nat.le_of_ble_eq_true rfl) (Nat.le_of_ble_eq_true rfl) rfl rfl (Nat.le_of_ble_eq_true rfl) dX3_worst_3 (fun z3 s3 => ?_)
    refine rr_if_ne hG 12 dX3_worst_6 (by decide) ?_ ?_
    · refine rr_iconst (v := 0) hG dX3_worst_12 (by decide) ?_
      refine rr_istore_n (lr := [(0, .ref (bd_ad (g_E G) 55)), (1, .int p1)]) hG dX3_worst_13 rfl (by decide) rfl ?_
      refine rr_iconst (v := (-1)) hG dX3_worst_14 (by decide) ?_
      refine rr_istore_n (lr := [(2, .int 0), (0, .ref (bd_ad (g_E G) 55)), (1, .int p1)]) hG dX3_worst_15 rfl (by decide) rfl ?_
      refine rr_iconst (v := 0) hG dX3_worst_16 (by decide) ?_
      refine rr_istore (lr := [(3, .int (-1)), (2, .int 0), (0, .ref (bd_ad (g_E G) 55)), (1, .int p1)]) hG dX3_worst_17 (by decide) rfl ?_
      refine (b_X3_worst_19 hG ho (fun x3e x2e x1e e66 => ?_) FU_ 0 (-1) 0 p1 s3)
      · refine rr_iload_n hG dX3_worst_66 rfl 2 rfl ?_
        refine rr_if_ne hG 74 dX3_worst_67 (by decide) ?_ ?_
        · refine rr_iload_n hG dX3_worst_74 rfl 0 rfl ?_
          exact rr_iret hG ho dX3_worst_75
        · refine rr_iload_n hG dX3_worst_70 rfl 1 rfl ?_
          refine rr_goto (tgt := 75) hG dX3_worst_71 (by decide) ?_
          exact rr_iret hG ho dX3_worst_75
    · refine rr_bipush (v := (-2)) hG dX3_worst_9 (by decide) ?_
      exact rr_iret hG ho dX3_worst_11
  exact h
set_option maxRecDepth 100000 in
set_option maxHeartbeats 4000000 in
theorem b_X3_isSetBy_6 {G : bd_G} {out : Int32 × bd_S} (hG : bd_OK G cX3_isSetBy 7 RX3 85 1 23 (some .boolean)) (ho : bd_ends bd_Qi G out) : ∀ (n_ : Nat) (x5 : Int32) (x4 : Int32) (x1 : Int32) (x2 : Int32) (x3 : Int32) (s_ : bd_S), bd_WF G out (f_X3_isSetBy_6 n_ x5 x4 x1 x2 x3 s_) s_ 6 [(5, .int x5), (4, .int x4), (0, .ref (bd_ad (g_E G) 55)), (1, .int x1), (2, .int x2), (3, .int x3)] [] := by
  intro n_
  induction n_ with
  | zero => intros; intro hF; cases hF
  | succ n_ ih =>
    intro x5 x4 x1 x2 x3 s_
    rw [f_X3_isSetBy_6]
    refine rr_iload hG dX3_isSetBy_6 0 rfl ?_
    refine rr_aload_n hG dX3_isSetBy_8 rfl 2 rfl ?_
    refine gf_X3_45 hG (by decide) dX3_isSetBy_9 ?_
    refine rr_iload_n hG dX3_isSetBy_12 rfl 3 rfl ?_
    refine rr_iald hG rfl (by decide) dX3_isSetBy_13 (fun z13 => ?_)
    refine rr_icmp_ge hG 87 dX3_isSetBy_14 (by decide) ?_ ?_
    · refine rr_iload hG dX3_isSetBy_87 1 rfl ?_
      exact rr_zret hG ho dX3_isSetBy_89
    · refine rr_bipush (v := 12) hG dX3_isSetBy_17 (by decide) ?_
      refine rr_iload_n hG dX3_isSetBy_19 rfl 3 rfl ?_
      refine rr_imul hG dX3_isSetBy_20 (fun z20 => ?_)
      refine rr_iload hG dX3_isSetBy_21 0 rfl ?_
      refine rr_iadd hG dX3_isSetBy_23 (fun z23 => ?_)
      refine rr_istore (lr := [(5, .int x5), (4, .int x4), (0, .ref (bd_ad (g_E G) 55)), (1, .int x1), (2, .int x2), (3, .int x3)]) hG dX3_isSetBy_24 (by decide) rfl ?_
      refine rr_iload hG dX3_isSetBy_26 2 rfl ?_
      refine rr_if_ne hG 74 dX3_isSetBy_28 (by decide) ?_ ?_
      · refine rr_iconst (v := 1) hG dX3_isSetBy_74 (by decide) ?_
        refine rr_goto (tgt := 79) hG dX3_isSetBy_75 (by decide) ?_
        refine rr_istore (lr := [(6, .int z23), (5, .int x5), (0, .ref (bd_ad (g_E G) 55)), (1, .int x1), (2, .int x2), (3, .int x3)]) hG dX3_isSetBy_79 (by decide) rfl ?_
        refine rr_iinc (v := 1) (lr := [(4, .int 1), (6, .int z23), (0, .ref (bd_ad (g_E G) 55)), (1, .int x1), (2, .int x2), (3, .int x3)]) hG dX3_isSetBy_81 2 rfl (by decide) (by decide) rfl (fun z81 => ?_)
        refine rr_goto (tgt := 6) hG dX3_isSetBy_84 (by decide) ?_
        exact rr_sub [0, 1, 3, 4, 5, 6] rfl (ih z81 1 x1 x2 x3 s_)
      · refine rr_aload_n hG dX3_isSetBy_31 rfl 3 rfl ?_
        refine gf_X3_48 hG (by decide) dX3_isSetBy_32 ?_
        refine rr_iload hG dX3_isSetBy_35 0 rfl ?_
        refine rr_iald hG rfl (by decide) dX3_isSetBy_37 (fun z37 => ?_)
        refine rr_iload_n hG dX3_isSetBy_38 rfl 5 rfl ?_
        refine rr_icmp_ne hG 78 dX3_isSetBy_39 (by decide) ?_ ?_
        · refine rr_iconst (v := 0) hG dX3_isSetBy_78 (by decide) ?_
          refine rr_istore (lr := [(6, .int z23), (5, .int x5), (0, .ref (bd_ad (g_E G) 55)), (1, .int x1), (2, .int x2), (3, .int x3)]) hG dX3_isSetBy_79 (by decide) rfl ?_
          refine rr_iinc (v := 1) (lr := [(4, .int 0), (6, .int z23), (0, .ref (bd_ad (g_E G) 55)), (1, .int x1), (2, .int x2), (3, .int x3)]) hG dX3_isSetBy_81 2 rfl (by decide) (by decide) rfl (fun z81 => ?_)
          refine rr_goto (tgt := 6) hG dX3_isSetBy_84 (by decide) ?_
          exact rr_sub [0, 1, 3, 4, 5, 6] rfl (ih z81 0 x1 x2 x3 s_)
        · refine rr_aload_n hG dX3_isSetBy_42 rfl 3 rfl ?_
          refine gf_X3_54 hG (by decide) dX3_isSetBy_43 ?_
          refine rr_iload hG dX3_isSetBy_46 0 rfl ?_
          refine rr_iald hG rfl (by decide) dX3_isSetBy_48 (fun z48 => ?_)
          refine rr_iconst (v := 3) hG dX3_isSetBy_49 (by decide) ?_
          refine rr_icmp_ge hG 78 dX3_isSetBy_50 (by decide) ?_ ?_
          · refine rr_iconst (v := 0) hG dX3_isSetBy_78 (by decide) ?_
            refine rr_istore (lr := [(6, .int z23), (5, .int x5), (0, .ref (bd_ad (g_E G) 55)), (1, .int x1), (2, .int x2), (3, .int x3)]) hG dX3_isSetBy_79 (by decide) rfl ?_
            refine rr_iinc (v := 1) (lr := [(4, .int 0), (6, .int z23), (0, .ref (bd_ad (g_E G) 55)), (1, .int x1), (2, .int x2), (3, .int x3)]) hG dX3_isSetBy_81 2 rfl (by decide) (by decide) rfl (fun z81 => ?_)
            refine rr_goto (tgt := 6) hG dX3_isSetBy_84 (by decide) ?_
            exact rr_sub [0, 1, 3, 4, 5, 6] rfl (ih z81 0 x1 x2 x3 s_)
          · refine rr_aload_n hG dX3_isSetBy_53 rfl 3 rfl ?_
            refine gf_X3_51 hG (by decide) dX3_isSetBy_54 ?_
            refine rr_iload hG dX3_isSetBy_57 0 rfl ?_
            refine rr_iald hG rfl (by decide) dX3_isSetBy_59 (fun z59 => ?_)
            refine rr_iload_n hG dX3_isSetBy_60 rfl 6 rfl ?_
            refine rr_icmp_ne hG 78 dX3_isSetBy_61 (by decide) ?_ ?_
            · refine rr_iconst (v := 0) hG dX3_isSetBy_78 (by decide) ?_
              refine rr_istore (lr := [(6, .int z23), (5, .int x5), (0, .ref (bd_ad (g_E G) 55)), (1, .int x1), (2, .int x2), (3, .int x3)]) hG dX3_isSetBy_79 (by decide) rfl ?_
              refine rr_iinc (v := 1) (lr := [(4, .int 0), (6, .int z23), (0, .ref (bd_ad (g_E G) 55)), (1, .int x1), (2, .int x2), (3, .int x3)]) hG dX3_isSetBy_81 2 rfl (by decide) (by decide) rfl (fun z81 => ?_)
              refine rr_goto (tgt := 6) hG dX3_isSetBy_84 (by decide) ?_
              exact rr_sub [0, 1, 3, 4, 5, 6] rfl (ih z81 0 x1 x2 x3 s_)
            · refine rr_aload_n hG dX3_isSetBy_64 rfl 3 rfl ?_
              refine rr_iload_n hG dX3_isSetBy_65 rfl 4 rfl ?_
              refine rr_iload hG dX3_isSetBy_66 0 rfl ?_
              refine rr_cVi hG [.int x1, .int z23] (c_X3_doesCount (g_l G) (g_E G) (hG.hE.mono (by decide)) x1 z23 s_) lk_X3_171 im_X3_doesCount se_X3_doesCount rfl (by decide) (by decide) rfl rfl (Nat.le_of_ble_eq_true rfl) (Nat.le_of_ble_eq_true rfl) rfl rfl (Nat.le_of_ble_eq_true rfl) dX3_isSetBy_68 (fun z68 s68 => ?_)
              refine rr_if_eq hG 78 dX3_isSetBy_71 (by decide) ?_ ?_
              · refine rr_iconst (v := 0) hG dX3_isSetBy_78 (by decide) ?_
                refine rr_istore (lr := [(6, .int z23), (5, .int x5), (0, .ref (bd_ad (g_E G) 55)), (1, .int x1), (2, .int x2), (3, .int x3)]) hG dX3_isSetBy_79 (by decide) rfl ?_
                refine rr_iinc (v := 1) (lr := [(4, .int 0), (6, .int z23), (0, .ref (bd_ad (g_E G) 55)), (1, .int x1), (2, .int x2), (3, .int x3)]) hG dX3_isSetBy_81 2 rfl (by decide) (by decide) rfl (fun z81 => ?_)
                refine rr_goto (tgt := 6) hG dX3_isSetBy_84 (by decide) ?_
                exact rr_sub [0, 1, 3, 4, 5, 6] rfl (ih z81 0 x1 x2 x3 s68)
              · refine rr_iconst (v := 1) hG dX3_isSetBy_74 (by decide) ?_
                refine rr_goto (tgt := 79) hG dX3_isSetBy_75 (by decide) ?_
                refine rr_istore (lr := [(6, .int z23), (5, .int x5), (0, .ref (bd_ad (g_E G) 55)), (1, .int x1), (2, .int x2), (3, .int x3)]) hG dX3_isSetBy_79 (by decide) rfl ?_
                refine rr_iinc (v := 1) (lr := [(4, .int 1), (6, .int z23), (0, .ref (bd_ad (g_E G) 55)), (1, .int x1), (2, .int x2), (3, .int x3)]) hG dX3_isSetBy_81 2 rfl (by decide) (by decide) rfl (fun z81 => ?_)
                refine rr_goto (tgt := 6) hG dX3_isSetBy_84 (by decide) ?_
                exact rr_sub [0, 1, 3, 4, 5, 6] rfl (ih z81 1 x1 x2 x3 s68)
set_option maxRecDepth 100000 in
set_option maxHeartbeats 4000000 in
theorem c_X3_isSetBy (l : Launch) (E : bd_E) (hE : bd_ok E 85) (p1 : Int32) (p2 : Int32) (p3 : Int32) (s_ : bd_S) : bd_M bd_Qi l yX3_isSetBy cX3_isSetBy 7 (some .boolean) 1 23 E [.ref (bd_ad E 55), .int p1, .int p2, .int p3] s_ (f_X3_isSetBy p1 p2 p3 s_) := by
  refine bd_open bd_Qi (by decide +kernel) hE (Nat.le_of_ble_eq_true rfl) (fun G out hG hGE hGl ho => ?_)
  subst hGE
  have hG : bd_OK G cX3_isSetBy 7 RX3 85 1 23 (some .boolean) := hG
  have h : bd_WF G out (f_X3_isSetBy p1 p2 p3 s_) s_ 0 [(0, .ref (bd_ad (g_E G) 55)), (1, .int p1), (2, .int p2), (3, .int p3)] [] := by
    unfold f_X3_isSetBy
    refine rr_iconst (v := 0) hG dX3_isSetBy_0 (by decide) ?_
    refine rr_istore (lr := [(0, .ref (bd_ad (g_E G) 55)), (1, .int p1), (2, .int p2), (3, .int p3)]) hG dX3_isSetBy_1 (by decide) rfl ?_
    refine rr_iconst (v := 0) hG dX3_isSetBy_3 (by decide) ?_
    refine rr_istore (lr := [(4, .int 0), (0, .ref (bd_ad (g_E G) 55)), (1, .int p1), (2, .int p2), (3, .int p3)]) hG dX3_isSetBy_4 (by decide) rfl ?_
    exact (b_X3_isSetBy_6 hG ho FU_ 0 0 p1 p2 p3 s_)
  exact h
set_option maxRecDepth 100000 in
set_option maxHeartbeats 4000000 in
theorem b_X3_allGo_12 {G : bd_G} {out : Int32 × bd_S} (hG : bd_OK G cX3_allGo 4 RX3 85 4 96 (some .boolean)) (ho : bd_ends bd_Qi G out) {k44 : Int32 → Int32 → bd_S → Option (Int32 × bd_S)} (hk44 : ∀ (x2 : Int32) (x1 : Int32) (s_ : bd_S), bd_WF G out (k44 x2 x1 s_) s_ 44 [(2, .int x2), (0, .ref (bd_ad (g_E G) 55)), (1, .int x1)] []) : ∀ (n_ : Nat) (x3 : Int32) (x2 : Int32) (x1 : Int32) (s_ : bd_S), bd_WF G out (f_X3_allGo_12 k44 n_ x3 x2 x1 s_) s_ 12 [(3, .int x3), (2, .int x2), (0, .ref (bd_ad (g_E G) 55)), (1, .int x1)] [] := by
  intro n_
  induction n_ with
  | zero => intros; intro hF; cases hF
  | succ n_ ih =>
    intro x3 x2 x1 s_
    rw [f_X3_allGo_12]
    refine rr_iload_n hG dX3_allGo_12 rfl 0 rfl ?_
    refine rr_iconst (v := 3) hG dX3_allGo_13 (by decide) ?_
    refine rr_icmp_ge hG 44 dX3_allGo_14 (by decide) ?_ ?_
    · exact rr_sub [1, 2, 3] rfl (hk44 x2 x1 s_)
    · refine rr_aload_n hG dX3_allGo_17 rfl 2 rfl ?_
      refine rr_iload_n hG dX3_allGo_18 rfl 1 rfl ?_
      refine rr_iload_n hG dX3_allGo_19 rfl 0 rfl ?_
      refine rr_iload_n hG dX3_allGo_20 rfl 3 rfl ?_
      refine rr_cVi hG [.int x2, .int x3, .int x1] (c_X3_isSetBy (g_l G) (g_E G) (hG.hE.mono (by decide)) x2 x3 x1 s_) lk_X3_215 im_X3_isSetBy se_X3_isSetBy rfl (by decide) (by decide) rfl rfl (Nat.le_of_ble_eq_true rfl) (Nat.le_of_ble_eq_true rfl) rfl rfl (Nat.le_of_ble_eq_true rfl) dX3_allGo_21 (fun z21 s21 => ?_)
      refine rr_if_eq hG 38 dX3_allGo_24 (by decide) ?_ ?_
      · refine rr_iinc (v := 1) (lr := [(2, .int x2), (0, .ref (bd_ad (g_E G) 55)), (1, .int x1)]) hG dX3_allGo_38 0 rfl (by decide) (by decide) rfl (fun z38 => ?_)
        refine rr_goto (tgt := 12) hG dX3_allGo_41 (by decide) ?_
        exact ih z38 x2 x1 s21
      · refine rr_aload_n hG dX3_allGo_27 rfl 2 rfl ?_
        refine rr_iload_n hG dX3_allGo_28 rfl 1 rfl ?_
        refine rr_iload_n hG dX3_allGo_29 rfl 0 rfl ?_
        refine rr_cVi hG [.int x2, .int x3] (c_X3_lay (g_l G) (g_E G) (hG.hE.mono (by decide)) x2 x3 s21) lk_X3_175 im_X3_lay se_X3_lay rfl (by decide) (by decide) rfl rfl (Nat.le_of_ble_eq_true rfl) (Nat.le_of_ble_eq_true rfl) rfl rfl (Nat.le_of_ble_eq_true rfl) dX3_allGo_30 (fun z30 s30 => ?_)
        refine rr_if_ne hG 38 dX3_allGo_33 (by decide) ?_ ?_
        · refine rr_iinc (v := 1) (lr := [(2, .int x2), (0, .ref (bd_ad (g_E G) 55)), (1, .int x1)]) hG dX3_allGo_38 0 rfl (by decide) (by decide) rfl (fun z38 => ?_)
          refine rr_goto (tgt := 12) hG dX3_allGo_41 (by decide) ?_
          exact ih z38 x2 x1 s30
        · refine rr_iconst (v := 0) hG dX3_allGo_36 (by decide) ?_
          exact rr_zret hG ho dX3_allGo_37
set_option maxRecDepth 100000 in
set_option maxHeartbeats 4000000 in
theorem b_X3_allGo_2 {G : bd_G} {out : Int32 × bd_S} (hG : bd_OK G cX3_allGo 4 RX3 85 4 96 (some .boolean)) (ho : bd_ends bd_Qi G out) : ∀ (n_ : Nat) (x2 : Int32) (x1 : Int32) (s_ : bd_S), bd_WF G out (f_X3_allGo_2 n_ x2 x1 s_) s_ 2 [(2, .int x2), (0, .ref (bd_ad (g_E G) 55)), (1, .int x1)] [] := by
  intro n_
  induction n_ with
  | zero => intros; intro hF; cases hF
  | succ n_ ih =>
    intro x2 x1 s_
    rw [f_X3_allGo_2]
    refine rr_iload_n hG dX3_allGo_2 rfl 0 rfl ?_
    refine rr_aload_n hG dX3_allGo_3 rfl 1 rfl ?_
    refine gf_X3_115 hG (by decide) dX3_allGo_4 (fun z4 => ?_)
    refine rr_icmp_ge hG 50 dX3_allGo_7 (by decide) ?_ ?_
    · refine rr_iconst (v := 1) hG dX3_allGo_50 (by decide) ?_
      exact rr_zret hG ho dX3_allGo_51
    · refine rr_iconst (v := 0) hG dX3_allGo_10 (by decide) ?_
      refine rr_istore_n (lr := [(2, .int x2), (0, .ref (bd_ad (g_E G) 55)), (1, .int x1)]) hG dX3_allGo_11 rfl (by decide) rfl ?_
      refine (b_X3_allGo_12 hG ho (fun x2e x1e e44 => ?_) FU_ 0 x2 x1 s_)
      · refine rr_iinc (v := 1) (lr := [(0, .ref (bd_ad (g_E G) 55)), (1, .int x1e)]) hG dX3_allGo_44 0 rfl (by decide) (by decide) rfl (fun z44 => ?_)
        refine rr_goto (tgt := 2) hG dX3_allGo_47 (by decide) ?_
        exact ih z44 x1e e44
set_option maxRecDepth 100000 in
set_option maxHeartbeats 4000000 in
theorem c_X3_allGo (l : Launch) (E : bd_E) (hE : bd_ok E 85) (p1 : Int32) (s_ : bd_S) : bd_M bd_Qi l yX3_allGo cX3_allGo 4 (some .boolean) 4 96 E [.ref (bd_ad E 55), .int p1] s_ (f_X3_allGo p1 s_) := by
  refine bd_open bd_Qi (by decide +kernel) hE (Nat.le_of_ble_eq_true rfl) (fun G out hG hGE hGl ho => ?_)
  subst hGE
  have hG : bd_OK G cX3_allGo 4 RX3 85 4 96 (some .boolean) := hG
  have h : bd_WF G out (f_X3_allGo p1 s_) s_ 0 [(0, .ref (bd_ad (g_E G) 55)), (1, .int p1)] [] := by
    unfold f_X3_allGo
    refine rr_iconst (v := 0) hG dX3_allGo_0 (by decide) ?_
    refine rr_istore_n (lr := [(0, .ref (bd_ad (g_E G) 55)), (1, .int p1)]) hG dX3_allGo_1 rfl (by decide) rfl ?_
    exact (b_X3_allGo_2 hG ho FU_ 0 p1 s_)
  exact h
set_option maxRecDepth 100000 in
set_option maxHeartbeats 4000000 in
theorem b_X3_slipped_65 {G : bd_G} {out : Int32 × bd_S} (hG : bd_OK G cX3_slipped 7 RX3 85 5 119 (some .int)) (ho : bd_ends bd_Qi G out) {k34 : Int32 → Int32 → Int32 → Int32 → Int32 → bd_S → Option (Int32 × bd_S)} (hk34 : ∀ (x5 : Int32) (x4 : Int32) (x3 : Int32) (x1 : Int32) (x2 : Int32) (s_ : bd_S), bd_WF G out (k34 x5 x4 x3 x1 x2 s_) s_ 34 [(5, .int x5), (4, .int x4), (3, .int x3), (0, .ref (bd_ad (g_E G) 55)), (1, .int x1), (2, .int x2)] []) (x5 : Int32) (x4 : Int32) (x3 : Int32) (x1 : Int32) (x2 : Int32) (t0 : Int32) (s_ : bd_S) : bd_WF G out (f_X3_slipped_65 k34 x5 x4 x3 x1 x2 t0 s_) s_ 65 [(5, .int x5), (4, .int x4), (3, .int x3), (0, .ref (bd_ad (g_E G) 55)), (1, .int x1), (2, .int x2)] [.int t0] := by
  unfold f_X3_slipped_65
  refine rr_istore (lr := [(5, .int x5), (4, .int x4), (3, .int x3), (0, .ref (bd_ad (g_E G) 55)), (1, .int x1), (2, .int x2)]) hG dX3_slipped_65 (by decide) rfl ?_
  refine rr_aload_n hG dX3_slipped_67 rfl 4 rfl ?_
  refine gf_X3_35 hG (by decide) dX3_slipped_68 ?_
  refine rr_iload_n hG dX3_slipped_71 rfl 5 rfl ?_
  refine rr_iload hG dX3_slipped_72 0 rfl ?_
  refine rr_iast hG rfl (by decide) dX3_slipped_74 (fun s74 => ?_)
  refine rr_aload_n hG dX3_slipped_75 rfl 4 rfl ?_
  refine rr_iload_n hG dX3_slipped_76 rfl 5 rfl ?_
  refine rr_cVi hG [.int x1] (c_X3_allGo (g_l G) (g_E G) (hG.hE.mono (by decide)) x1 s74) lk_X3_219 im_X3_allGo se_X3_allGo rfl (by decide) (by decide) rfl rfl (Nat.le_of_ble_eq_true rfl) (Nat.le_of_ble_eq_true rfl) rfl rfl (Nat.le_of_ble_eq_true rfl) dX3_slipped_77 (fun z77 s77 => ?_)
  refine rr_if_eq hG 88 dX3_slipped_80 (by decide) ?_ ?_
  · refine rr_iload hG dX3_slipped_88 2 rfl ?_
    refine rr_istore (lr := [(6, .int t0), (5, .int x5), (3, .int x3), (0, .ref (bd_ad (g_E G) 55)), (1, .int x1), (2, .int x2)]) hG dX3_slipped_90 (by decide) rfl ?_
    refine rr_iinc (v := 1) (lr := [(4, .int x4), (6, .int t0), (3, .int x3), (0, .ref (bd_ad (g_E G) 55)), (1, .int x1), (2, .int x2)]) hG dX3_slipped_92 2 rfl (by decide) (by decide) rfl (fun z92 => ?_)
    refine rr_goto (tgt := 34) hG dX3_slipped_95 (by decide) ?_
    exact rr_sub [0, 1, 3, 4, 5, 6] rfl (hk34 z92 x4 x3 x1 x2 s77)
  · refine rr_iload hG dX3_slipped_83 0 rfl ?_
    refine rr_goto (tgt := 90) hG dX3_slipped_85 (by decide) ?_
    refine rr_istore (lr := [(6, .int t0), (5, .int x5), (3, .int x3), (0, .ref (bd_ad (g_E G) 55)), (1, .int x1), (2, .int x2)]) hG dX3_slipped_90 (by decide) rfl ?_
    refine rr_iinc (v := 1) (lr := [(4, .int t0), (6, .int t0), (3, .int x3), (0, .ref (bd_ad (g_E G) 55)), (1, .int x1), (2, .int x2)]) hG dX3_slipped_92 2 rfl (by decide) (by decide) rfl (fun z92 => ?_)
    refine rr_goto (tgt := 34) hG dX3_slipped_95 (by decide) ?_
    exact rr_sub [0, 1, 3, 4, 5, 6] rfl (hk34 z92 t0 x3 x1 x2 s77)
set_option maxRecDepth 100000 in
set_option maxHeartbeats 4000000 in
theorem b_X3_slipped_34 {G : bd_G} {out : Int32 × bd_S} (hG : bd_OK G cX3_slipped 7 RX3 85 5 119 (some .int)) (ho : bd_ends bd_Qi G out) {k98 : Int32 → Int32 → Int32 → bd_S → Option (Int32 × bd_S)} (hk98 : ∀ (x4 : Int32) (x3 : Int32) (x1 : Int32) (s_ : bd_S), bd_WF G out (k98 x4 x3 x1 s_) s_ 98 [(4, .int x4), (3, .int x3), (0, .ref (bd_ad (g_E G) 55)), (1, .int x1)] []) : ∀ (n_ : Nat) (x5 : Int32) (x4 : Int32) (x3 : Int32) (x1 : Int32) (x2 : Int32) (s_ : bd_S), bd_WF G out (f_X3_slipped_34 k98 n_ x5 x4 x3 x1 x2 s_) s_ 34 [(5, .int x5), (4, .int x4), (3, .int x3), (0, .ref (bd_ad (g_E G) 55)), (1, .int x1), (2, .int x2)] [] := by
  intro n_
  induction n_ with
  | zero => intros; intro hF; cases hF
  | succ n_ ih =>
    intro x5 x4 x3 x1 x2 s_
    rw [f_X3_slipped_34]
    refine rr_iload hG dX3_slipped_34 0 rfl ?_
    refine rr_bipush (v := 121) hG dX3_slipped_36 (by decide) ?_
    refine rr_icmp_ge hG 98 dX3_slipped_38 (by decide) ?_ ?_
    · exact rr_sub [1, 2, 3, 4] rfl (hk98 x4 x3 x1 s_)
    · refine rr_iload hG dX3_slipped_41 1 rfl ?_
      refine rr_ldc (v := (-100000005)) hG kc_X3_218 dX3_slipped_43 ?_
      refine rr_icmp_ne hG 98 dX3_slipped_45 (by decide) ?_ ?_
      · exact rr_sub [1, 2, 3, 4] rfl (hk98 x4 x3 x1 s_)
      · refine rr_iload_n hG dX3_slipped_48 rfl 5 rfl ?_
        refine rr_if_ne hG 60 dX3_slipped_49 (by decide) ?_ ?_
        · refine rr_bipush (v := 60) hG dX3_slipped_60 (by decide) ?_
          refine rr_iload hG dX3_slipped_62 0 rfl ?_
          refine rr_isub hG dX3_slipped_64 (fun z64 => ?_)
          exact (b_X3_slipped_65 hG ho ih x5 x4 x3 x1 x2 z64 s_)
        · refine rr_iload hG dX3_slipped_52 0 rfl ?_
          refine rr_bipush (v := 60) hG dX3_slipped_54 (by decide) ?_
          refine rr_isub hG dX3_slipped_56 (fun z56 => ?_)
          refine rr_goto (tgt := 65) hG dX3_slipped_57 (by decide) ?_
          exact (b_X3_slipped_65 hG ho ih x5 x4 x3 x1 x2 z56 s_)
set_option maxRecDepth 100000 in
set_option maxHeartbeats 4000000 in
theorem c_X3_slipped (l : Launch) (E : bd_E) (hE : bd_ok E 85) (p1 : Int32) (p2 : Int32) (s_ : bd_S) : bd_M bd_Qi l yX3_slipped cX3_slipped 7 (some .int) 5 119 E [.ref (bd_ad E 55), .int p1, .int p2] s_ (f_X3_slipped p1 p2 s_) := by
  refine bd_open bd_Qi (by decide +kernel) hE (Nat.le_of_ble_eq_true rfl) (fun G out hG hGE hGl ho => ?_)
  subst hGE
  have hG : bd_OK G cX3_slipped 7 RX3 85 5 119 (some .int) := hG
  have h : bd_WF G out (f_X3_slipped p1 p2 s_) s_ 0 [(0, .ref (bd_ad (g_E G) 55)), (1, .int p1), (2, .int p2)] [] := by
    unfold f_X3_slipped
    refine rr_iload_n hG dX3_slipped_0 rfl 1 rfl ?_
    refine rr_cSi hG [.int p1] (c_X3_isDay (g_l G) (g_E G) (hG.hE.mono (by decide)) p1 s_) lk_X3_146 sm_X3_isDay (Nat.le_of_ble_eq_true rfl) (Nat.le_of_ble_eq_true rfl) rfl rfl (Nat.le_of_ble_eq_true rfl) dX3_slipped_1 (fun z1 s1 => ?_)
    refine rr_if_ne hG 10 dX3_slipped_4 (by decide) ?_ ?_
    · refine rr_iload_n hG dX3_slipped_10 rfl 2 rfl ?_
      refine rr_cSi hG [.int p2] (c_X3_isEnd (g_l G) (g_E G) (hG.hE.mono (by decide)) p2 s1) lk_X3_151 sm_X3_isEnd (Nat.le_of_ble_eq_true rfl) (Nat.le_of_ble_eq_true rfl) rfl rfl (Nat.le_of_ble_eq_true rfl) dX3_slipped_11 (fun z11 s11 => ?_)
      refine rr_if_ne hG 20 dX3_slipped_14 (by decide) ?_ ?_
      · refine rr_aload_n hG dX3_slipped_20 rfl 0 rfl ?_
        refine gf_X3_35 hG (by decide) dX3_slipped_21 ?_
        refine rr_iload_n hG dX3_slipped_24 rfl 1 rfl ?_
        refine rr_iald hG rfl (by decide) dX3_slipped_25 (fun z25 => ?_)
        refine rr_istore_n (lr := [(0, .ref (bd_ad (g_E G) 55)), (1, .int p1), (2, .int p2)]) hG dX3_slipped_26 rfl (by decide) rfl ?_
        refine rr_ldc (v := (-100000005)) hG kc_X3_218 dX3_slipped_27 ?_
        refine rr_istore (lr := [(3, .int z25), (0, .ref (bd_ad (g_E G) 55)), (1, .int p1), (2, .int p2)]) hG dX3_slipped_29 (by decide) rfl ?_
        refine rr_iconst (v := 0) hG dX3_slipped_31 (by decide) ?_
        refine rr_istore (lr := [(4, .int (-100000005)), (3, .int z25), (0, .ref (bd_ad (g_E G) 55)), (1, .int p1), (2, .int p2)]) hG dX3_slipped_32 (by decide) rfl ?_
        refine (b_X3_slipped_34 hG ho (fun x4e x3e x1e e98 => ?_) FU_ 0 (-100000005) z25 p1 p2 s11)
        · refine rr_aload_n hG dX3_slipped_98 rfl 2 rfl ?_
          refine gf_X3_35 hG (by decide) dX3_slipped_99 ?_
          refine rr_iload_n hG dX3_slipped_102 rfl 3 rfl ?_
          refine rr_iload_n hG dX3_slipped_103 rfl 1 rfl ?_
          refine rr_iast hG rfl (by decide) dX3_slipped_104 (fun s104 => ?_)
          refine rr_iload hG dX3_slipped_105 0 rfl ?_
          exact rr_iret hG ho dX3_slipped_107
      · refine rr_ldc (v := (-100000002)) hG kc_X3_154 dX3_slipped_17 ?_
        exact rr_iret hG ho dX3_slipped_19
    · refine rr_ldc (v := (-100000001)) hG kc_X3_150 dX3_slipped_7 ?_
      exact rr_iret hG ho dX3_slipped_9
  exact h
