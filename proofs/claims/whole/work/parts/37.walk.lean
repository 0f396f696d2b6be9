set_option maxRecDepth 100000 in
set_option maxHeartbeats 4000000 in
theorem b_X3_isMarked_5 {G : bd_G} {out : Int32 × bd_S} (hG : bd_OK G cX3_isMarked 6 RX3 85 1 23 (some .boolean)) (ho : bd_ends bd_Qi G out) : ∀ (n_ : Nat) (x4 : Int32) (x3 : Int32) (x1 : Int32) (x2 : Int32) (s_ : bd_S), bd_WF G out (f_X3_isMarked_5 n_ x4 x3 x1 x2 s_) s_ 5 [(4, .int x4), (3, .int x3), (0, .ref (bd_ad (g_E G) 55)), (1, .int x1), (2, .int x2)] [] := by
  intro n_
  induction n_ with
  | zero => intros; intro hF; cases hF
  | succ n_ ih =>
    intro x4 x3 x1 x2 s_
    rw [f_X3_isMarked_5]
    refine rr_iload hG dX3_isMarked_5 0 rfl ?_
    refine rr_aload_n hG dX3_isMarked_7 rfl 2 rfl ?_
    refine gf_X3_45 hG (by decide) dX3_isMarked_8 ?_
    refine rr_iload_n hG dX3_isMarked_11 rfl 3 rfl ?_
    refine rr_iald hG rfl (by decide) dX3_isMarked_12 (fun z12 => ?_)
    refine rr_icmp_ge hG 62 dX3_isMarked_13 (by decide) ?_ ?_
    · refine rr_iload_n hG dX3_isMarked_62 rfl 1 rfl ?_
      exact rr_zret hG ho dX3_isMarked_63
    · refine rr_bipush (v := 12) hG dX3_isMarked_16 (by decide) ?_
      refine rr_iload_n hG dX3_isMarked_18 rfl 3 rfl ?_
      refine rr_imul hG dX3_isMarked_19 (fun z19 => ?_)
      refine rr_iload hG dX3_isMarked_20 0 rfl ?_
      refine rr_iadd hG dX3_isMarked_22 (fun z22 => ?_)
      refine rr_istore (lr := [(4, .int x4), (3, .int x3), (0, .ref (bd_ad (g_E G) 55)), (1, .int x1), (2, .int x2)]) hG dX3_isMarked_23 (by decide) rfl ?_
      refine rr_iload_n hG dX3_isMarked_25 rfl 2 rfl ?_
      refine rr_if_ne hG 50 dX3_isMarked_26 (by decide) ?_ ?_
      · refine rr_iconst (v := 1) hG dX3_isMarked_50 (by decide) ?_
        refine rr_goto (tgt := 55) hG dX3_isMarked_51 (by decide) ?_
        refine rr_istore_n (lr := [(5, .int z22), (4, .int x4), (0, .ref (bd_ad (g_E G) 55)), (1, .int x1), (2, .int x2)]) hG dX3_isMarked_55 rfl (by decide) rfl ?_
        refine rr_iinc (v := 1) (lr := [(3, .int 1), (5, .int z22), (0, .ref (bd_ad (g_E G) 55)), (1, .int x1), (2, .int x2)]) hG dX3_isMarked_56 2 rfl (by decide) (by decide) rfl (fun z56 => ?_)
        refine rr_goto (tgt := 5) hG dX3_isMarked_59 (by decide) ?_
        exact rr_sub [0, 1, 3, 4, 5] rfl (ih z56 1 x1 x2 s_)
      · refine rr_aload_n hG dX3_isMarked_29 rfl 3 rfl ?_
        refine gf_X3_48 hG (by decide) dX3_isMarked_30 ?_
        refine rr_iload hG dX3_isMarked_33 0 rfl ?_
        refine rr_iald hG rfl (by decide) dX3_isMarked_35 (fun z35 => ?_)
        refine rr_iload_n hG dX3_isMarked_36 rfl 5 rfl ?_
        refine rr_icmp_ne hG 54 dX3_isMarked_37 (by decide) ?_ ?_
        · refine rr_iconst (v := 0) hG dX3_isMarked_54 (by decide) ?_
          refine rr_istore_n (lr := [(5, .int z22), (4, .int x4), (0, .ref (bd_ad (g_E G) 55)), (1, .int x1), (2, .int x2)]) hG dX3_isMarked_55 rfl (by decide) rfl ?_
          refine rr_iinc (v := 1) (lr := [(3, .int 0), (5, .int z22), (0, .ref (bd_ad (g_E G) 55)), (1, .int x1), (2, .int x2)]) hG dX3_isMarked_56 2 rfl (by decide) (by decide) rfl (fun z56 => ?_)
          refine rr_goto (tgt := 5) hG dX3_isMarked_59 (by decide) ?_
          exact rr_sub [0, 1, 3, 4, 5] rfl (ih z56 0 x1 x2 s_)
        · refine rr_aload_n hG dX3_isMarked_40 rfl 3 rfl ?_
          refine rr_iload_n hG dX3_isMarked_41 rfl 4 rfl ?_
          refine rr_iload hG dX3_isMarked_42 0 rfl ?_
          refine rr_cVi hG [.int x1, .int z22] (c_X3_doesCount (g_l G) (g_E G) (hG.hE.mono (by decide)) x1 z22 s_) lk_X3_171 im_X3_doesCount se_X3_doesCount rfl (by decide) (by decide) rfl rfl (Nat.le_of_ble_eq_true rfl) (Nat.le_of_ble_eq_true rfl) rfl rfl (Nat.le_of_ble_eq_true rfl) dX3_isMarked_44 (fun z44 s44 => ?_)
          refine rr_if_eq hG 54 dX3_isMarked_47 (by decide) ?_ ?_
          · refine rr_iconst (v := 0) hG dX3_isMarked_54 (by decide) ?_
            refine rr_istore_n (lr := [(5, .int z22), (4, .int x4), (0, .ref (bd_ad (g_E G) 55)), (1, .int x1), (2, .int x2)]) hG dX3_isMarked_55 rfl (by decide) rfl ?_
            refine rr_iinc (v := 1) (lr := [(3, .int 0), (5, .int z22), (0, .ref (bd_ad (g_E G) 55)), (1, .int x1), (2, .int x2)]) hG dX3_isMarked_56 2 rfl (by decide) (by decide) rfl (fun z56 => ?_)
            refine rr_goto (tgt := 5) hG dX3_isMarked_59 (by decide) ?_
            exact rr_sub [0, 1, 3, 4, 5] rfl (ih z56 0 x1 x2 s44)
          · refine rr_iconst (v := 1) hG dX3_isMarked_50 (by decide) ?_
            refine rr_goto (tgt := 55) hG dX3_isMarked_51 (by decide) ?_
            refine rr_istore_n (lr := [(5, .int z22), (4, .int x4), (0, .ref (bd_ad (g_E G) 55)), (1, .int x1), (2, .int x2)]) hG dX3_isMarked_55 rfl (by decide) rfl ?_
            refine rr_iinc (v := 1) (lr := [(3, .int 1), (5, .int z22), (0, .ref (bd_ad (g_E G) 55)), (1, .int x1), (2, .int x2)]) hG dX3_isMarked_56 2 rfl (by decide) (by decide) rfl (fun z56 => ?_)
            refine rr_goto (tgt := 5) hG dX3_isMarked_59 (by decide) ?_
            exact rr_sub [0, 1, 3, 4, 5] rfl (ih z56 1 x1 x2 s44)
set_option maxRecDepth 100000 in
set_option maxHeartbeats 4000000 in
theorem c_X3_isMarked (l : Launch) (E : bd_E) (hE : bd_ok E 85) (p1 : Int32) (p2 : Int32) (s_ : bd_S) : bd_M bd_Qi l yX3_isMarked cX3_isMarked 6 (some .boolean) 1 23 E [.ref (bd_ad E 55), .int p1, .int p2] s_ (f_X3_isMarked p1 p2 s_) := by
  refine bd_open bd_Qi (by decide +kernel) hE (Nat.le_of_ble_eq_true rfl) (fun G out hG hGE hGl ho => ?_)
  subst hGE
  have hG : bd_OK G cX3_isMarked 6 RX3 85 1 23 (some .boolean) := hG
  have h : bd_WF G out (f_X3_isMarked p1 p2 s_) s_ 0 [(0, .ref (bd_ad (g_E G) 55)), (1, .int p1), (2, .int p2)] [] := by
    unfold f_X3_isMarked
    refine rr_iconst (v := 0) hG dX3_isMarked_0 (by decide) ?_
    refine rr_istore_n (lr := [(0, .ref (bd_ad (g_E G) 55)), (1, .int p1), (2, .int p2)]) hG dX3_isMarked_1 rfl (by decide) rfl ?_
    refine rr_iconst (v := 0) hG dX3_isMarked_2 (by decide) ?_
    refine rr_istore (lr := [(3, .int 0), (0, .ref (bd_ad (g_E G) 55)), (1, .int p1), (2, .int p2)]) hG dX3_isMarked_3 (by decide) rfl ?_
    exact (b_X3_isMarked_5 hG ho FU_ 0 0 p1 p2 s_)
  exact h
set_option maxRecDepth 100000 in
set_option maxHeartbeats 4000000 in
theorem b_X3_ask_78 {G : bd_G} {out : Int32 × bd_S} (hG : bd_OK G cX3_ask 6 RX3 85 4 96 (some .int)) (ho : bd_ends bd_Qi G out) {k29 : Int32 → Int32 → Int32 → Int32 → Int32 → bd_S → Option (Int32 × bd_S)} (hk29 : ∀ (x5 : Int32) (x4 : Int32) (x3 : Int32) (x2 : Int32) (x1 : Int32) (s_ : bd_S), bd_WF G out (k29 x5 x4 x3 x2 x1 s_) s_ 29 [(5, .int x5), (4, .int x4), (3, .int x3), (2, .int x2), (0, .ref (bd_ad (g_E G) 55)), (1, .int x1)] []) (x5 : Int32) (x4 : Int32) (x1 : Int32) (s_ : bd_S) : bd_WF G out (f_X3_ask_78 k29 x5 x4 x1 s_) s_ 78 [(5, .int x5), (4, .int x4), (0, .ref (bd_ad (g_E G) 55)), (1, .int x1)] [] := by
  unfold f_X3_ask_78
  refine rr_bipush (v := 10) hG dX3_ask_78 (by decide) ?_
  refine rr_iload hG dX3_ask_80 1 rfl ?_
  refine rr_imul hG dX3_ask_82 (fun z82 => ?_)
  refine rr_iload hG dX3_ask_83 0 rfl ?_
  refine rr_iadd hG dX3_ask_85 (fun z85 => ?_)
  refine rr_istore_n (lr := [(5, .int x5), (4, .int x4), (0, .ref (bd_ad (g_E G) 55)), (1, .int x1)]) hG dX3_ask_86 rfl (by decide) rfl ?_
  refine rr_aload_n hG dX3_ask_87 rfl 3 rfl ?_
  refine gf_X3_87 hG (by decide) dX3_ask_88 ?_
  refine rr_iload_n hG dX3_ask_91 rfl 4 rfl ?_
  refine rr_iald hG rfl (by decide) dX3_ask_92 (fun z92 => ?_)
  refine rr_aload_n hG dX3_ask_93 rfl 3 rfl ?_
  refine gf_X3_84 hG (by decide) dX3_ask_94 ?_
  refine rr_iload_n hG dX3_ask_97 rfl 4 rfl ?_
  refine rr_iald hG rfl (by decide) dX3_ask_98 (fun z98 => ?_)
  refine rr_isub hG dX3_ask_99 (fun z99 => ?_)
  refine rr_istore_n (lr := [(2, .int z85), (5, .int x5), (4, .int x4), (0, .ref (bd_ad (g_E G) 55)), (1, .int x1)]) hG dX3_ask_100 rfl (by decide) rfl ?_
  refine rr_iinc (v := 1) (lr := [(3, .int z99), (2, .int z85), (4, .int x4), (0, .ref (bd_ad (g_E G) 55)), (1, .int x1)]) hG dX3_ask_101 2 rfl (by decide) (by decide) rfl (fun z101 => ?_)
  refine rr_goto (tgt := 29) hG dX3_ask_104 (by decide) ?_
  exact rr_sub [0, 3, 1, 2, 4, 5] rfl (hk29 z101 x4 z99 z85 x1 s_)
set_option maxRecDepth 100000 in
set_option maxHeartbeats 4000000 in
theorem b_X3_ask_29 {G : bd_G} {out : Int32 × bd_S} (hG : bd_OK G cX3_ask 6 RX3 85 4 96 (some .int)) (ho : bd_ends bd_Qi G out) {k107 : Int32 → Int32 → Int32 → Int32 → bd_S → Option (Int32 × bd_S)} (hk107 : ∀ (x4 : Int32) (x3 : Int32) (x2 : Int32) (x1 : Int32) (s_ : bd_S), bd_WF G out (k107 x4 x3 x2 x1 s_) s_ 107 [(4, .int x4), (3, .int x3), (2, .int x2), (0, .ref (bd_ad (g_E G) 55)), (1, .int x1)] []) : ∀ (n_ : Nat) (x5 : Int32) (x4 : Int32) (x3 : Int32) (x2 : Int32) (x1 : Int32) (s_ : bd_S), bd_WF G out (f_X3_ask_29 k107 n_ x5 x4 x3 x2 x1 s_) s_ 29 [(5, .int x5), (4, .int x4), (3, .int x3), (2, .int x2), (0, .ref (bd_ad (g_E G) 55)), (1, .int x1)] [] := by
  intro n_
  induction n_ with
  | zero => intros; intro hF; cases hF
  | succ n_ ih =>
    intro x5 x4 x3 x2 x1 s_
    rw [f_X3_ask_29]
    refine rr_iload hG dX3_ask_29 0 rfl ?_
    refine rr_iconst (v := 3) hG dX3_ask_31 (by decide) ?_
    refine rr_icmp_ge hG 107 dX3_ask_32 (by decide) ?_ ?_
    · exact rr_sub [1, 2, 3, 4, 5] rfl (hk107 x4 x3 x2 x1 s_)
    · refine rr_aload_n hG dX3_ask_35 rfl 4 rfl ?_
      refine rr_iload hG dX3_ask_36 1 rfl ?_
      refine rr_iload hG dX3_ask_38 0 rfl ?_
      refine rr_cVi hG [.int x4, .int x5] (c_X3_isMarked (g_l G) (g_E G) (hG.hE.mono (by decide)) x4 x5 s_) lk_X3_222 im_X3_isMarked se_X3_isMarked rfl (by decide) (by decide) rfl rfl (Nat.le_of_ble_eq_true rfl) (Nat.le_of_ble_eq_true rfl) rfl rfl (Nat.le_of_ble_eq_true rfl) dX3_ask_40 (fun z40 s40 => ?_)
      refine rr_if_eq hG 101 dX3_ask_43 (by decide) ?_ ?_
      · refine rr_iinc (v := 1) (lr := [(4, .int x4), (3, .int x3), (2, .int x2), (0, .ref (bd_ad (g_E G) 55)), (1, .int x1)]) hG dX3_ask_101 0 rfl (by decide) (by decide) rfl (fun z101 => ?_)
        refine rr_goto (tgt := 29) hG dX3_ask_104 (by decide) ?_
        exact ih z101 x4 x3 x2 x1 s40
      · refine rr_aload_n hG dX3_ask_46 rfl 4 rfl ?_
        refine rr_iload hG dX3_ask_47 1 rfl ?_
        refine rr_iload hG dX3_ask_49 0 rfl ?_
        refine rr_cVi hG [.int x4, .int x5] (c_X3_lay (g_l G) (g_E G) (hG.hE.mono (by decide)) x4 x5 s40) lk_X3_175 im_X3_lay se_X3_lay rfl (by decide) (by decide) rfl rfl (Nat.le_of_ble_eq_true rfl) (Nat.le_of_ble_eq_true rfl) rfl rfl (Nat.le_of_ble_eq_true rfl) dX3_ask_51 (fun z51 s51 => ?_)
        refine rr_if_eq hG 101 dX3_ask_54 (by decide) ?_ ?_
        · refine rr_iinc (v := 1) (lr := [(4, .int x4), (3, .int x3), (2, .int x2), (0, .ref (bd_ad (g_E G) 55)), (1, .int x1)]) hG dX3_ask_101 0 rfl (by decide) (by decide) rfl (fun z101 => ?_)
          refine rr_goto (tgt := 29) hG dX3_ask_104 (by decide) ?_
          exact ih z101 x4 x3 x2 x1 s51
        · refine rr_iload_n hG dX3_ask_57 rfl 3 rfl ?_
          refine rr_if_lt hG 78 dX3_ask_58 (by decide) ?_ ?_
          · exact rr_sub [0, 1, 4, 5] rfl (b_X3_ask_78 hG ho ih x5 x4 x1 s51)
          · refine rr_aload_n hG dX3_ask_61 rfl 4 rfl ?_
            refine gf_X3_87 hG (by decide) dX3_ask_62 ?_
            refine rr_iload_n hG dX3_ask_65 rfl 5 rfl ?_
            refine rr_iald hG rfl (by decide) dX3_ask_66 (fun z66 => ?_)
            refine rr_aload_n hG dX3_ask_67 rfl 4 rfl ?_
            refine gf_X3_84 hG (by decide) dX3_ask_68 ?_
            refine rr_iload_n hG dX3_ask_71 rfl 5 rfl ?_
            refine rr_iald hG rfl (by decide) dX3_ask_72 (fun z72 => ?_)
            refine rr_isub hG dX3_ask_73 (fun z73 => ?_)
            refine rr_iload_n hG dX3_ask_74 rfl 2 rfl ?_
            refine rr_icmp_ge hG 101 dX3_ask_75 (by decide) ?_ ?_
            · refine rr_iinc (v := 1) (lr := [(4, .int x4), (3, .int x3), (2, .int x2), (0, .ref (bd_ad (g_E G) 55)), (1, .int x1)]) hG dX3_ask_101 0 rfl (by decide) (by decide) rfl (fun z101 => ?_)
              refine rr_goto (tgt := 29) hG dX3_ask_104 (by decide) ?_
              exact ih z101 x4 x3 x2 x1 s51
            · exact rr_sub [0, 1, 4, 5] rfl (b_X3_ask_78 hG ho ih x5 x4 x1 s51)
set_option maxRecDepth 100000 in
set_option maxHeartbeats 4000000 in
theorem b_X3_ask_17 {G : bd_G} {out : Int32 × bd_S} (hG : bd_OK G cX3_ask 6 RX3 85 4 96 (some .int)) (ho : bd_ends bd_Qi G out) : ∀ (n_ : Nat) (x4 : Int32) (x3 : Int32) (x2 : Int32) (x1 : Int32) (s_ : bd_S), bd_WF G out (f_X3_ask_17 n_ x4 x3 x2 x1 s_) s_ 17 [(4, .int x4), (3, .int x3), (2, .int x2), (0, .ref (bd_ad (g_E G) 55)), (1, .int x1)] [] := by
  intro n_
  induction n_ with
  | zero => intros; intro hF; cases hF
  | succ n_ ih =>
    intro x4 x3 x2 x1 s_
    rw [f_X3_ask_17]
    refine rr_iload hG dX3_ask_17 0 rfl ?_
    refine rr_aload_n hG dX3_ask_19 rfl 3 rfl ?_
    refine gf_X3_115 hG (by decide) dX3_ask_20 (fun z20 => ?_)
    refine rr_icmp_ge hG 113 dX3_ask_23 (by decide) ?_ ?_
    · refine rr_iload_n hG dX3_ask_113 rfl 2 rfl ?_
      exact rr_iret hG ho dX3_ask_114
    · refine rr_iconst (v := 0) hG dX3_ask_26 (by decide) ?_
      refine rr_istore (lr := [(4, .int x4), (3, .int x3), (2, .int x2), (0, .ref (bd_ad (g_E G) 55)), (1, .int x1)]) hG dX3_ask_27 (by decide) rfl ?_
      refine (b_X3_ask_29 hG ho (fun x4e x3e x2e x1e e107 => ?_) FU_ 0 x4 x3 x2 x1 s_)
      · refine rr_iinc (v := 1) (lr := [(3, .int x3e), (2, .int x2e), (0, .ref (bd_ad (g_E G) 55)), (1, .int x1e)]) hG dX3_ask_107 0 rfl (by decide) (by decide) rfl (fun z107 => ?_)
        refine rr_goto (tgt := 17) hG dX3_ask_110 (by decide) ?_
        exact ih z107 x3e x2e x1e e107
set_option maxRecDepth 100000 in
set_option maxHeartbeats 4000000 in
theorem c_X3_ask (l : Launch) (E : bd_E) (hE : bd_ok E 85) (p1 : Int32) (s_ : bd_S) : bd_M bd_Qi l yX3_ask cX3_ask 6 (some .int) 4 96 E [.ref (bd_ad E 55), .int p1] s_ (f_X3_ask p1 s_) := by
  refine bd_open bd_Qi (by decide +kernel) hE (Nat.le_of_ble_eq_true rfl) (fun G out hG hGE hGl ho => ?_)
  subst hGE
  have hG : bd_OK G cX3_ask 6 RX3 85 4 96 (some .int) := hG
  have h : bd_WF G out (f_X3_ask p1 s_) s_ 0 [(0, .ref (bd_ad (g_E G) 55)), (1, .int p1)] [] := by
    unfold f_X3_ask
    refine rr_iload_n hG dX3_ask_0 rfl 1 rfl ?_
    refine rr_cSi hG [.int p1] (c_X3_isDay (g_l G) (g_E G) (hG.hE.mono (by decide)) p1 s_) lk_X3_146 sm_X3_isDay (Nat.le_of_ble_eq_true rfl) (Nat.le_of_ble_eq_true rfl) rfl rfl (Nat.le_of_ble_eq_true rfl) dX3_ask_1 (fun z1 s1 => ?_)
    refine rr_if_ne hG 9 dX3_ask_4 (by decide) ?_ ?_
    · refine rr_bipush (v := (-6)) hG dX3_ask_9 (by decide) ?_
      refine rr_istore_n (lr := [(0, .ref (bd_ad (g_E G) 55)), (1, .int p1)]) hG dX3_ask_11 rfl (by decide) rfl ?_
      refine rr_iconst (v := 0) hG dX3_ask_12 (by decide) ?_
      refine rr_istore_n (lr := [(2, .int (-6)), (0, .ref (bd_ad (g_E G) 55)), (1, .int p1)]) hG dX3_ask_13 rfl (by decide) rfl ?_
      refine rr_iconst (v := 0) hG dX3_ask_14 (by decide) ?_
      refine rr_istore (lr := [(3, .int 0), (2, .int (-6)), (0, .ref (bd_ad (g_E G) 55)), (1, .int p1)]) hG dX3_ask_15 (by decide) rfl ?_
      exact (b_X3_ask_17 hG ho FU_ 0 0 (-6) p1 s1)
    · refine rr_iconst (v := (-1)) hG dX3_ask_7 (by decide) ?_
      exact rr_iret hG ho dX3_ask_8
  exact h
set_option maxRecDepth 100000 in
set_option maxHeartbeats 4000000 in
theorem b_X3_carry_125 {G : bd_G} {out : Int32 × bd_S} (hG : bd_OK G cX3_carry 8 RX3 85 4 96 (some .int)) (ho : bd_ends bd_Qi G out) (x6 : Int32) (x1 : Int32) (t0 : Int32) (s_ : bd_S) : bd_WF G out (f_X3_carry_125 x6 x1 t0 s_) s_ 125 [(6, .int x6), (0, .ref (bd_ad (g_E G) 55)), (1, .int x1)] [.int t0] := by
  unfold f_X3_carry_125
  refine rr_istore (lr := [(6, .int x6), (0, .ref (bd_ad (g_E G) 55)), (1, .int x1)]) hG dX3_carry_125 (by decide) rfl ?_
  refine rr_iload hG dX3_carry_127 1 rfl ?_
  refine rr_iload hG dX3_carry_129 0 rfl ?_
  refine rr_icmp_le hG 137 dX3_carry_131 (by decide) ?_ ?_
  · refine rr_aload_n hG dX3_carry_137 rfl 2 rfl ?_
    refine gf_X3_78 hG (by decide) dX3_carry_138 ?_
    refine rr_iload_n hG dX3_carry_141 rfl 3 rfl ?_
    refine rr_iload hG dX3_carry_142 1 rfl ?_
    refine rr_iast hG rfl (by decide) dX3_carry_144 (fun s144 => ?_)
    refine rr_aload_n hG dX3_carry_145 rfl 2 rfl ?_
    refine gf_X3_81 hG (by decide) dX3_carry_146 ?_
    refine rr_iload_n hG dX3_carry_149 rfl 3 rfl ?_
    refine rr_iload hG dX3_carry_150 0 rfl ?_
    refine rr_iast hG rfl (by decide) dX3_carry_152 (fun s152 => ?_)
    refine rr_iconst (v := 1) hG dX3_carry_153 (by decide) ?_
    exact rr_iret hG ho dX3_carry_154
  · refine rr_bipush (v := (-5)) hG dX3_carry_134 (by decide) ?_
    exact rr_iret hG ho dX3_carry_136
set_option maxRecDepth 100000 in
set_option maxHeartbeats 4000000 in
theorem b_X3_carry_101 {G : bd_G} {out : Int32 × bd_S} (hG : bd_OK G cX3_carry 8 RX3 85 4 96 (some .int)) (ho : bd_ends bd_Qi G out) (x7 : Int32) (x1 : Int32) (t0 : Int32) (s_ : bd_S) : bd_WF G out (f_X3_carry_101 x7 x1 t0 s_) s_ 101 [(7, .int x7), (0, .ref (bd_ad (g_E G) 55)), (1, .int x1)] [.int t0] := by
  unfold f_X3_carry_101
  refine rr_istore (lr := [(7, .int x7), (0, .ref (bd_ad (g_E G) 55)), (1, .int x1)]) hG dX3_carry_101 (by decide) rfl ?_
  refine rr_iload hG dX3_carry_103 1 rfl ?_
  refine rr_aload_n hG dX3_carry_105 rfl 2 rfl ?_
  refine gf_X3_81 hG (by decide) dX3_carry_106 ?_
  refine rr_iload_n hG dX3_carry_109 rfl 3 rfl ?_
  refine rr_iald hG rfl (by decide) dX3_carry_110 (fun z110 => ?_)
  refine rr_icmp_ge hG 119 dX3_carry_111 (by decide) ?_ ?_
  · refine rr_aload_n hG dX3_carry_119 rfl 2 rfl ?_
    refine gf_X3_81 hG (by decide) dX3_carry_120 ?_
    refine rr_iload_n hG dX3_carry_123 rfl 3 rfl ?_
    refine rr_iald hG rfl (by decide) dX3_carry_124 (fun z124 => ?_)
    exact rr_sub [0, 2, 3] rfl (b_X3_carry_125 hG ho t0 x1 z124 s_)
  · refine rr_iload hG dX3_carry_114 1 rfl ?_
    refine rr_goto (tgt := 125) hG dX3_carry_116 (by decide) ?_
    exact rr_sub [0, 2, 3] rfl (b_X3_carry_125 hG ho t0 x1 x7 s_)
set_option maxRecDepth 100000 in
set_option maxHeartbeats 4000000 in
theorem c_X3_carry (l : Launch) (E : bd_E) (hE : bd_ok E 85) (p1 : Int32) (p2 : Int32) (p3 : Int32) (p4 : Int32) (p5 : Int32) (s_ : bd_S) : bd_M bd_Qi l yX3_carry cX3_carry 8 (some .int) 4 96 E [.ref (bd_ad E 55), .int p1, .int p2, .int p3, .int p4, .int p5] s_ (f_X3_carry p1 p2 p3 p4 p5 s_) := by
  refine bd_open bd_Qi (by decide +kernel) hE (Nat.le_of_ble_eq_true rfl) (fun G out hG hGE hGl ho => ?_)
  subst hGE
  have hG : bd_OK G cX3_carry 8 RX3 85 4 96 (some .int) := hG
  have h : bd_WF G out (f_X3_carry p1 p2 p3 p4 p5 s_) s_ 0 [(0, .ref (bd_ad (g_E G) 55)), (1, .int p1), (2, .int p2), (3, .int p3), (4, .int p4), (5, .int p5)] [] := by
    unfold f_X3_carry
    refine rr_iload_n hG dX3_carry_0 rfl 1 rfl ?_
    refine rr_iconst (v := 0) hG dX3_carry_1 (by decide) ?_
    refine rr_iconst (v := 3) hG dX3_carry_2 (by decide) ?_
    refine rr_cSi hG [.int p1, .int 0, .int 3] (c_X3_in (g_l G) (g_E G) (hG.hE.mono (by decide)) p1 0 3 s_) lk_X3_111 sm_X3_in (Nat.le_of_ble_eq_true rfl) (Nat.le_of_ble_eq_true rfl) rfl rfl (Nat.le_of_ble_eq_true rfl) dX3_carry_3 (fun z3 s3 => ?_)
    refine rr_if_eq hG 20 dX3_carry_6 (by decide) ?_ ?_
    · refine rr_iconst (v := (-1)) hG dX3_carry_20 (by decide) ?_
      exact rr_iret hG ho dX3_carry_21
    · refine rr_aload_n hG dX3_carry_9 rfl 0 rfl ?_
      refine rr_iload_n hG dX3_carry_10 rfl 2 rfl ?_
      refine rr_iload_n hG dX3_carry_11 rfl 3 rfl ?_
      refine rr_iload hG dX3_carry_12 4 rfl ?_
      refine rr_cVi hG [.int p2, .int p3, .int p4] (c_X3_isOne (g_l G) (g_E G) (hG.hE.mono (by decide)) p2 p3 p4 s3) lk_X3_164 im_X3_isOne se_X3_isOne rfl (by decide) (by decide) rfl rfl (Nat.le_of_ble_eq_true rfl) (Nat.le_of_ble_eq_true rfl) rfl rfl (Nat.le_of_ble_eq_true rfl) dX3_carry_14 (fun z14 s14 => ?_)
      refine rr_if_ne hG 22 dX3_carry_17 (by decide) ?_ ?_
      · refine rr_iload hG dX3_carry_22 5 rfl ?_
        refine rr_sipush (v := (-9999)) hG dX3_carry_24 (by decide) ?_
        refine rr_sipush (v := 9999) hG dX3_carry_27 (by decide) ?_
        refine rr_cSi hG [.int p5, .int (-9999), .int 9999] (c_X3_in (g_l G) (g_E G) (hG.hE.mono (by decide)) p5 (-9999) 9999 s14) lk_X3_111 sm_X3_in (Nat.le_of_ble_eq_true rfl) (Nat.le_of_ble_eq_true rfl) rfl rfl (Nat.le_of_ble_eq_true rfl) dX3_carry_30 (fun z30 s30 => ?_)
        refine rr_if_ne hG 39 dX3_carry_33 (by decide) ?_ ?_
        · refine rr_aload_n hG dX3_carry_39 rfl 0 rfl ?_
          refine rr_iload_n hG dX3_carry_40 rfl 2 rfl ?_
          refine rr_iload_n hG dX3_carry_41 rfl 3 rfl ?_
          refine rr_cVi hG [.int p2, .int p3] (c_X3_lay (g_l G) (g_E G) (hG.hE.mono (by decide)) p2 p3 s30) lk_X3_175 im_X3_lay se_X3_lay rfl (by decide) (by decide) rfl rfl (Nat.le_of_ble_eq_true rfl) (Nat.le_of_ble_eq_true rfl) rfl rfl (Nat.le_of_ble_eq_true rfl) dX3_carry_42 (fun z42 s42 => ?_)
          refine rr_if_ne hG 51 dX3_carry_45 (by decide) ?_ ?_
          · refine rr_iload hG dX3_carry_51 5 rfl ?_
            refine rr_aload_n hG dX3_carry_53 rfl 0 rfl ?_
            refine gf_X3_87 hG (by decide) dX3_carry_54 ?_
            refine rr_iload hG dX3_carry_57 4 rfl ?_
            refine rr_iald hG rfl (by decide) dX3_carry_59 (fun z59 => ?_)
            refine rr_isub hG dX3_carry_60 (fun z60 => ?_)
            refine rr_iconst (v := 2) hG dX3_carry_61 (by decide) ?_
            refine rr_isub hG dX3_carry_62 (fun z62 => ?_)
            refine rr_istore (lr := [(0, .ref (bd_ad (g_E G) 55)), (1, .int p1), (2, .int p2), (3, .int p3), (4, .int p4), (5, .int p5)]) hG dX3_carry_63 (by decide) rfl ?_
            refine rr_iload hG dX3_carry_65 6 rfl ?_
            refine rr_aload_n hG dX3_carry_67 rfl 1 rfl ?_
            refine gf_X3_84 hG (by decide) dX3_carry_68 ?_
            refine rr_iload hG dX3_carry_71 5 rfl ?_
            refine rr_iald hG rfl (by decide) dX3_carry_73 (fun z73 => ?_)
            refine rr_isub hG dX3_carry_74 (fun z74 => ?_)
            refine rr_iconst (v := 2) hG dX3_carry_75 (by decide) ?_
            refine rr_iadd hG dX3_carry_76 (fun z76 => ?_)
            refine rr_istore (lr := [(6, .int z62), (0, .ref (bd_ad (g_E G) 55)), (1, .int p1), (2, .int p2), (3, .int p3), (4, .int p4), (5, .int p5)]) hG dX3_carry_77 (by decide) rfl ?_
            refine rr_iload hG dX3_carry_79 1 rfl ?_
            refine rr_aload_n hG dX3_carry_81 rfl 2 rfl ?_
            refine gf_X3_78 hG (by decide) dX3_carry_82 ?_
            refine rr_iload_n hG dX3_carry_85 rfl 3 rfl ?_
            refine rr_iald hG rfl (by decide) dX3_carry_86 (fun z86 => ?_)
            refine rr_icmp_le hG 95 dX3_carry_87 (by decide) ?_ ?_
            · refine rr_aload_n hG dX3_carry_95 rfl 2 rfl ?_
              refine gf_X3_78 hG (by decide) dX3_carry_96 ?_
              refine rr_iload_n hG dX3_carry_99 rfl 3 rfl ?_
              refine rr_iald hG rfl (by decide) dX3_carry_100 (fun z100 => ?_)
              exact rr_sub [0, 2, 3] rfl (b_X3_carry_101 hG ho z76 p1 z100 s42)
            · refine rr_iload hG dX3_carry_90 1 rfl ?_
              refine rr_goto (tgt := 101) hG dX3_carry_92 (by decide) ?_
              exact rr_sub [0, 2, 3] rfl (b_X3_carry_101 hG ho z76 p1 z62 s42)
          · refine rr_bipush (v := (-3)) hG dX3_carry_48 (by decide) ?_
            exact rr_iret hG ho dX3_carry_50
        · refine rr_bipush (v := (-2)) hG dX3_carry_36 (by decide) ?_
          exact rr_iret hG ho dX3_carry_38
      · refine rr_iconst (v := (-1)) hG dX3_carry_20 (by decide) ?_
        exact rr_iret hG ho dX3_carry_21
  exact h
set_option maxRecDepth 100000 in
set_option maxHeartbeats 4000000 in
theorem c_X3_port (l : Launch) (E : bd_E) (hE : bd_ok E 85) (p1 : Int32) (p2 : Int32) (s_ : bd_S) : bd_M bd_Qi l yX3_port cX3_port 3 (some .int) 2 42 E [.ref (bd_ad E 55), .int p1, .int p2] s_ (f_X3_port p1 p2 s_) := by
  refine bd_open bd_Qi (by decide +kernel) hE (Nat.le_of_ble_eq_true rfl) (fun G out hG hGE hGl ho => ?_)
  subst hGE
  have hG : bd_OK G cX3_port 3 RX3 85 2 42 (some .int) := hG
  have h : bd_WF G out (f_X3_port p1 p2 s_) s_ 0 [(0, .ref (bd_ad (g_E G) 55)), (1, .int p1), (2, .int p2)] [] := by
    unfold f_X3_port
    refine rr_iload_n hG dX3_port_0 rfl 1 rfl ?_
    refine rr_iconst (v := 0) hG dX3_port_1 (by decide) ?_
    refine rr_iconst (v := 3) hG dX3_port_2 (by decide) ?_
    refine rr_cSi hG [.int p1, .int 0, .int 3] (c_X3_in (g_l G) (g_E G) (hG.hE.mono (by decide)) p1 0 3 s_) lk_X3_111 sm_X3_in (Nat.le_of_ble_eq_true rfl) (Nat.le_of_ble_eq_true rfl) rfl rfl (Nat.le_of_ble_eq_true rfl) dX3_port_3 (fun z3 s3 => ?_)
    refine rr_if_ne hG 12 dX3_port_6 (by decide) ?_ ?_
    · refine rr_iload_n hG dX3_port_12 rfl 2 rfl ?_
      refine rr_cSi hG [.int p2] (c_X3_isEnd (g_l G) (g_E G) (hG.hE.mono (by decide)) p2 s3) lk_X3_151 sm_X3_isEnd (Nat.le_of_ble_eq_true rfl) (Nat.le_of_ble_eq_true rfl) rfl rfl (Nat.le_of_ble_eq_true rfl) dX3_port_13 (fun z13 s13 => ?_)
      refine rr_if_ne hG 24 dX3_port_16 (by decide) ?_ ?_
      · refine rr_iload_n hG dX3_port_24 rfl 2 rfl ?_
        refine rr_if_ne hG 37 dX3_port_25 (by decide) ?_ ?_
        · refine rr_aload_n hG dX3_port_37 rfl 0 rfl ?_
          refine gf_X3_81 hG (by decide) dX3_port_38 ?_
          refine rr_iload_n hG dX3_port_41 rfl 1 rfl ?_
          refine rr_iald hG rfl (by decide) dX3_port_42 (fun z42 => ?_)
          exact rr_iret hG ho dX3_port_43
        · refine rr_aload_n hG dX3_port_28 rfl 0 rfl ?_
          refine gf_X3_78 hG (by decide) dX3_port_29 ?_
          refine rr_iload_n hG dX3_port_32 rfl 1 rfl ?_
          refine rr_iald hG rfl (by decide) dX3_port_33 (fun z33 => ?_)
          refine rr_goto (tgt := 43) hG dX3_port_34 (by decide) ?_
          exact rr_iret hG ho dX3_port_43
      · refine rr_ldc (v := (-100000002)) hG kc_X3_154 dX3_port_19 ?_
        refine rr_goto (tgt := 43) hG dX3_port_21 (by decide) ?_
        exact rr_iret hG ho dX3_port_43
    · refine rr_ldc (v := (-100000001)) hG kc_X3_150 dX3_port_9 ?_
      exact rr_iret hG ho dX3_port_11
  exact h
set_option maxRecDepth 100000 in
set_option maxHeartbeats 4000000 in
theorem b_X3_told_4 {G : bd_G} {out : Int32 × bd_S} (hG : bd_OK G cX3_told 4 RX3 85 2 43 (some .int)) (ho : bd_ends bd_Qi G out) {k35 : Int32 → Int32 → bd_S → Option (Int32 × bd_S)} (hk35 : ∀ (x2 : Int32) (x1 : Int32) (s_ : bd_S), bd_WF G out (k35 x2 x1 s_) s_ 35 [(2, .int x2), (0, .ref (bd_ad (g_E G) 55)), (1, .int x1)] []) : ∀ (n_ : Nat) (x3 : Int32) (x2 : Int32) (x1 : Int32) (s_ : bd_S), bd_WF G out (f_X3_told_4 k35 n_ x3 x2 x1 s_) s_ 4 [(3, .int x3), (2, .int x2), (0, .ref (bd_ad (g_E G) 55)), (1, .int x1)] [] := by
  intro n_
  induction n_ with
  | zero => intros; intro hF; cases hF
  | succ n_ ih =>
    intro x3 x2 x1 s_
    rw [f_X3_told_4]
    refine rr_iload_n hG dX3_told_4 rfl 0 rfl ?_
    refine rr_bipush (v := 20) hG dX3_told_5 (by decide) ?_
    refine rr_icmp_ge hG 35 dX3_told_7 (by decide) ?_ ?_
    · exact rr_sub [1, 2, 3] rfl (hk35 x2 x1 s_)
    · refine rr_iload_n hG dX3_told_10 rfl 1 rfl ?_
      refine rr_aload_n hG dX3_told_11 rfl 2 rfl ?_
      refine gf_X3_38 hG (by decide) dX3_told_12 ?_
      refine rr_iload_n hG dX3_told_15 rfl 0 rfl ?_
      refine rr_zald hG rfl (by decide) dX3_told_16 (fun z16 => ?_)
      refine rr_if_eq hG 26 dX3_told_17 (by decide) ?_ ?_
      · refine rr_iconst (v := 0) hG dX3_told_26 (by decide) ?_
        refine rr_ior hG dX3_told_27 (fun z27 => ?_)
        refine rr_istore_n (lr := [(3, .int x3), (0, .ref (bd_ad (g_E G) 55)), (1, .int x1)]) hG dX3_told_28 rfl (by decide) rfl ?_
        refine rr_iinc (v := 1) (lr := [(2, .int z27), (0, .ref (bd_ad (g_E G) 55)), (1, .int x1)]) hG dX3_told_29 1 rfl (by decide) (by decide) rfl (fun z29 => ?_)
        refine rr_goto (tgt := 4) hG dX3_told_32 (by decide) ?_
        exact ih z29 z27 x1 s_
      · refine rr_iconst (v := 1) hG dX3_told_20 (by decide) ?_
        refine rr_iload_n hG dX3_told_21 rfl 0 rfl ?_
        refine rr_ishl hG dX3_told_22 (fun z22 => ?_)
        refine rr_goto (tgt := 27) hG dX3_told_23 (by decide) ?_
        refine rr_ior hG dX3_told_27 (fun z27 => ?_)
        refine rr_istore_n (lr := [(3, .int x3), (0, .ref (bd_ad (g_E G) 55)), (1, .int x1)]) hG dX3_told_28 rfl (by decide) rfl ?_
        refine rr_iinc (v := 1) (lr := [(2, .int z27), (0, .ref (bd_ad (g_E G) 55)), (1, .int x1)]) hG dX3_told_29 1 rfl (by decide) (by decide) rfl (fun z29 => ?_)
        refine rr_goto (tgt := 4) hG dX3_told_32 (by decide) ?_
        exact ih z29 z27 x1 s_
set_option maxRecDepth 100000 in
set_option maxHeartbeats 4000000 in
theorem c_X3_told (l : Launch) (E : bd_E) (hE : bd_ok E 85) (p1 : Int32) (s_ : bd_S) : bd_M bd_Qi l yX3_told cX3_told 4 (some .int) 2 43 E [.ref (bd_ad E 55), .int p1] s_ (f_X3_told p1 s_) := by
  refine bd_open bd_Qi (by decide +kernel) hE (Nat.le_of_ble_eq_true rfl) (fun G out hG hGE hGl ho => ?_)
  subst hGE
  have hG : bd_OK G cX3_told 4 RX3 85 2 43 (some .int) := hG
  have h : bd_WF G out (f_X3_told p1 s_) s_ 0 [(0, .ref (bd_ad (g_E G) 55)), (1, .int p1)] [] := by
    unfold f_X3_told
    refine rr_iconst (v := 0) hG dX3_told_0 (by decide) ?_
    refine rr_istore_n (lr := [(0, .ref (bd_ad (g_E G) 55)), (1, .int p1)]) hG dX3_told_1 rfl (by decide) rfl ?_
    refine rr_iconst (v := 0) hG dX3_told_2 (by decide) ?_
    refine rr_istore_n (lr := [(2, .int 0), (0, .ref (bd_ad (g_E G) 55)), (1, .int p1)]) hG dX3_told_3 rfl (by decide) rfl ?_
    refine (b_X3_told_4 hG ho (fun x2e x1e e35 => ?_) FU_ 0 0 p1 s_)
    · refine rr_iload_n hG dX3_told_35 rfl 2 rfl ?_
      refine rr_iconst (v := 4) hG dX3_told_36 (by decide) ?_
      refine rr_bipush (v := 7) hG dX3_told_37 (by decide) ?_
      refine rr_cSi hG [.int x1e, .int 4, .int 7] (c_X3_in (g_l G) (g_E G) (hG.hE.mono (by decide)) x1e 4 7 e35) lk_X3_111 sm_X3_in (Nat.le_of_ble_eq_true rfl) (Nat.le_of_ble_eq_true rfl) rfl rfl (Nat.le_of_ble_eq_true rfl) dX3_told_39 (fun z39 s39 => ?_)
      refine rr_if_eq hG 69 dX3_told_42 (by decide) ?_ ?_
      · refine rr_iload_n hG dX3_told_69 rfl 2 rfl ?_
        refine rr_if_ne hG 80 dX3_told_70 (by decide) ?_ ?_
        · refine rr_iload_n hG dX3_told_80 rfl 2 rfl ?_
          refine rr_iconst (v := 1) hG dX3_told_81 (by decide) ?_
          refine rr_icmp_ne hG 92 dX3_told_82 (by decide) ?_ ?_
          · refine rr_iload_n hG dX3_told_92 rfl 2 rfl ?_
            refine rr_iconst (v := 2) hG dX3_told_93 (by decide) ?_
            refine rr_icmp_ne hG 104 dX3_told_94 (by decide) ?_ ?_
            · refine rr_iload_n hG dX3_told_104 rfl 2 rfl ?_
              refine rr_iconst (v := 3) hG dX3_told_105 (by decide) ?_
              refine rr_icmp_ne hG 113 dX3_told_106 (by decide) ?_ ?_
              · refine rr_bipush (v := (-2)) hG dX3_told_113 (by decide) ?_
                exact rr_iret hG ho dX3_told_115
              · refine rr_iload_n hG dX3_told_109 rfl 0 rfl ?_
                refine rr_goto (tgt := 115) hG dX3_told_110 (by decide) ?_
                exact rr_iret hG ho dX3_told_115
            · refine rr_aload_n hG dX3_told_97 rfl 1 rfl ?_
              refine gf_X3_19 hG (by decide) dX3_told_98 (fun z98 => ?_)
              refine rr_goto (tgt := 115) hG dX3_told_101 (by decide) ?_
              exact rr_iret hG ho dX3_told_115
          · refine rr_aload_n hG dX3_told_85 rfl 1 rfl ?_
            refine gf_X3_115 hG (by decide) dX3_told_86 (fun z86 => ?_)
            refine rr_goto (tgt := 115) hG dX3_told_89 (by decide) ?_
            exact rr_iret hG ho dX3_told_115
        · refine rr_aload_n hG dX3_told_73 rfl 1 rfl ?_
          refine gf_X3_140 hG (by decide) dX3_told_74 (fun z74 => ?_)
          refine rr_goto (tgt := 115) hG dX3_told_77 (by decide) ?_
          exact rr_iret hG ho dX3_told_115
      · refine rr_aload_n hG dX3_told_45 rfl 1 rfl ?_
        refine rr_iload_n hG dX3_told_46 rfl 2 rfl ?_
        refine rr_iconst (v := 4) hG dX3_told_47 (by decide) ?_
        refine rr_isub hG dX3_told_48 (fun z48 => ?_)
        refine rr_cVi hG [.int z48] (c_X3_isShip (g_l G) (g_E G) (hG.hE.mono (by decide)) z48 s39) lk_X3_158 im_X3_isShip se_X3_isShip rfl (by decide) (by decide) rfl rfl (Nat.le_of_ble_eq_true rfl) (Nat.le_of_ble_eq_true rfl) rfl rfl (Nat.le_of_ble_eq_true rfl) dX3_told_49 (fun z49 s49 => ?_)
        refine rr_if_eq hG 66 dX3_told_52 (by decide) ?_ ?_
        · refine rr_bipush (v := (-6)) hG dX3_told_66 (by decide) ?_
          exact rr_iret hG ho dX3_told_68
        · refine rr_aload_n hG dX3_told_55 rfl 1 rfl ?_
          refine gf_X3_45 hG (by decide) dX3_told_56 ?_
          refine rr_iload_n hG dX3_told_59 rfl 2 rfl ?_
          refine rr_iconst (v := 4) hG dX3_told_60 (by decide) ?_
          refine rr_isub hG dX3_told_61 (fun z61 => ?_)
          refine rr_iald hG rfl (by decide) dX3_told_62 (fun z62 => ?_)
          refine rr_goto (tgt := 68) hG dX3_told_63 (by decide) ?_
          exact rr_iret hG ho dX3_told_68
  exact h
set_option maxRecDepth 100000 in
set_option maxHeartbeats 4000000 in
theorem b_X2_init_122 {G : bd_G} {out : Unit × bd_S} (hG : bd_OK G cX2_init 2 RX2 19 1 23 none) (ho : True) {k141 : bd_S → Option (Unit × bd_S)} (hk141 : ∀ (s_ : bd_S), bd_WF G out (k141 s_) s_ 141 [(0, .ref (bd_ad (g_E G) 0))] []) : ∀ (n_ : Nat) (x1 : Int32) (s_ : bd_S), bd_WF G out (f_X2_init_122 k141 n_ x1 s_) s_ 122 [(1, .int x1), (0, .ref (bd_ad (g_E G) 0))] [] := by
  intro n_
  induction n_ with
  | zero => intros; intro hF; cases hF
  | succ n_ ih =>
    intro x1 s_
    rw [f_X2_init_122]
    refine rr_iload_n hG dX2_init_122 rfl 0 rfl ?_
    refine rr_bipush (v := 20) hG dX2_init_123 (by decide) ?_
    refine rr_icmp_ge hG 141 dX2_init_125 (by decide) ?_ ?_
    · exact rr_sub [1] rfl (hk141 s_)
    · refine rr_aload_n hG dX2_init_128 rfl 1 rfl ?_
      refine gf_X2_32 hG (by decide) dX2_init_129 ?_
      refine rr_iload_n hG dX2_init_132 rfl 0 rfl ?_
      refine rr_iconst (v := 5) hG dX2_init_133 (by decide) ?_
      refine rr_iast hG rfl (by decide) dX2_init_134 (fun s134 => ?_)
      refine rr_iinc (v := 1) (lr := [(0, .ref (bd_ad (g_E G) 0))]) hG dX2_init_135 0 rfl (by decide) (by decide) rfl (fun z135 => ?_)
      refine rr_goto (tgt := 122) hG dX2_init_138 (by decide) ?_
      exact ih z135 s134
set_option maxRecDepth 100000 in
set_option maxHeartbeats 4000000 in
theorem b_X2_init_108 {G : bd_G} {out : Unit × bd_S} (hG : bd_OK G cX2_init 2 RX2 19 1 23 none) (ho : True) {kS : bd_S → Option (Unit × bd_S)} (hkS : ∀ (s_ : bd_S), bd_WF G out (kS s_) s_ 141 [(0, .ref (bd_ad (g_E G) 0))] []) (s_ : bd_S) : bd_WF G out (f_X2_init_108 kS s_) s_ 108 [(0, .ref (bd_ad (g_E G) 0))] [] := by
  unfold f_X2_init_108
  refine rr_aload_n hG dX2_init_108 rfl 0 rfl ?_
  refine gf_X2_10 hG (by decide) dX2_init_109 ?_
  refine rr_sipush (v := 600) hG dX2_init_112 (by decide) ?_
  refine rr_bipush (v := 20) hG dX2_init_115 (by decide) ?_
  refine rr_cNv hG [.int 600, .int 20] (c_X0_open (g_l G) (g_E G) (hG.hE.mono (by decide)) 1 600 20 bd_c1 s_) lk_X2_57 im_X0_open se_X0_open rfl (by decide) (by decide) rfl rfl (Nat.le_of_ble_eq_true rfl) (Nat.le_of_ble_eq_true rfl) rfl rfl (Nat.le_of_ble_eq_true rfl) dX2_init_117 (fun s117 => ?_)
  refine rr_iconst (v := 0) hG dX2_init_120 (by decide) ?_
  refine rr_istore_n (lr := [(0, .ref (bd_ad (g_E G) 0))]) hG dX2_init_121 rfl (by decide) rfl ?_
  exact (b_X2_init_122 hG ho hkS FU_ 0 s117)
set_option maxRecDepth 100000 in
set_option maxHeartbeats 4000000 in
theorem b_X2_init_169 {G : bd_G} {out : Unit × bd_S} (hG : bd_OK G cX2_init 2 RX2 55 0 0 none) (ho : True) {k196 : bd_S → Option (Unit × bd_S)} (hk196 : ∀ (s_ : bd_S), bd_WF G out (k196 s_) s_ 196 [] []) : ∀ (n_ : Nat) (x1 : Int32) (s_ : bd_S), bd_WF G out (f_X2_init_169 k196 n_ x1 s_) s_ 169 [(1, .int x1), (0, .ref (bd_ad (g_E G) 0))] [] := by
  intro n_
  induction n_ with
  | zero => intros; intro hF; cases hF
  | succ n_ ih =>
    intro x1 s_
    rw [f_X2_init_169]
    refine rr_iload_n hG dX2_init_169 rfl 0 rfl ?_
    refine rr_iconst (v := 4) hG dX2_init_170 (by decide) ?_
    refine rr_icmp_ge hG 196 dX2_init_171 (by decide) ?_ ?_
    · exact rr_sub [] rfl (hk196 s_)
    · refine rr_aload_n hG dX2_init_174 rfl 1 rfl ?_
      refine gf_X2_41 hG (by decide) dX2_init_175 ?_
      refine rr_iload_n hG dX2_init_178 rfl 0 rfl ?_
      refine rr_ldc (v := (-99999)) hG kc_X2_62 dX2_init_179 ?_
      refine rr_iast hG rfl (by decide) dX2_init_181 (fun s181 => ?_)
      refine rr_aload_n hG dX2_init_182 rfl 1 rfl ?_
      refine gf_X2_44 hG (by decide) dX2_init_183 ?_
      refine rr_iload_n hG dX2_init_186 rfl 0 rfl ?_
      refine rr_ldc (v := 99999) hG kc_X2_63 dX2_init_187 ?_
      refine rr_iast hG rfl (by decide) dX2_init_189 (fun s189 => ?_)
      refine rr_iinc (v := 1) (lr := [(0, .ref (bd_ad (g_E G) 0))]) hG dX2_init_190 0 rfl (by decide) (by decide) rfl (fun z190 => ?_)
      refine rr_goto (tgt := 169) hG dX2_init_193 (by decide) ?_
      exact ih z190 s189
set_option maxRecDepth 100000 in
set_option maxHeartbeats 4000000 in
theorem b_X2_init_167 {G : bd_G} {out : Unit × bd_S} (hG : bd_OK G cX2_init 2 RX2 55 0 0 none) (ho : True) {kS : bd_S → Option (Unit × bd_S)} (hkS : ∀ (s_ : bd_S), bd_WF G out (kS s_) s_ 196 [] []) (s_ : bd_S) : bd_WF G out (f_X2_init_167 kS s_) s_ 167 [(0, .ref (bd_ad (g_E G) 0))] [] := by
  unfold f_X2_init_167
  refine rr_iconst (v := 0) hG dX2_init_167 (by decide) ?_
  refine rr_istore_n (lr := [(0, .ref (bd_ad (g_E G) 0))]) hG dX2_init_168 rfl (by decide) rfl ?_
  exact (b_X2_init_169 hG ho hkS FU_ 0 s_)
set_option maxRecDepth 100000 in
set_option maxHeartbeats 4000000 in
theorem b_X3_init_240 {G : bd_G} {out : Unit × bd_S} (hG : bd_OK G cX3_init 2 RX3 85 4 89 none) (ho : True) {k259 : bd_S → Option (Unit × bd_S)} (hk259 : ∀ (s_ : bd_S), bd_WF G out (k259 s_) s_ 259 [(0, .ref (bd_ad (g_E G) 55))] []) : ∀ (n_ : Nat) (x1 : Int32) (s_ : bd_S), bd_WF G out (f_X3_init_240 k259 n_ x1 s_) s_ 240 [(1, .int x1), (0, .ref (bd_ad (g_E G) 55))] [] := by
  intro n_
  induction n_ with
  | zero => intros; intro hF; cases hF
  | succ n_ ih =>
    intro x1 s_
    rw [f_X3_init_240]
    refine rr_iload_n hG dX3_init_240 rfl 0 rfl ?_
    refine rr_bipush (v := 20) hG dX3_init_241 (by decide) ?_
    refine rr_icmp_ge hG 259 dX3_init_243 (by decide) ?_ ?_
    · exact rr_sub [1] rfl (hk259 s_)
    · refine rr_aload_n hG dX3_init_246 rfl 1 rfl ?_
      refine gf_X3_42 hG (by decide) dX3_init_247 ?_
      refine rr_iload_n hG dX3_init_250 rfl 0 rfl ?_
      refine rr_iconst (v := 5) hG dX3_init_251 (by decide) ?_
      refine rr_iast hG rfl (by decide) dX3_init_252 (fun s252 => ?_)
      refine rr_iinc (v := 1) (lr := [(0, .ref (bd_ad (g_E G) 55))]) hG dX3_init_253 0 rfl (by decide) (by decide) rfl (fun z253 => ?_)
      refine rr_goto (tgt := 240) hG dX3_init_256 (by decide) ?_
      exact ih z253 s252
set_option maxRecDepth 100000 in
set_option maxHeartbeats 4000000 in
theorem b_X3_init_261 {G : bd_G} {out : Unit × bd_S} (hG : bd_OK G cX3_init 2 RX3 85 4 89 none) (ho : True) {k280 : bd_S → Option (Unit × bd_S)} (hk280 : ∀ (s_ : bd_S), bd_WF G out (k280 s_) s_ 280 [(0, .ref (bd_ad (g_E G) 55))] []) : ∀ (n_ : Nat) (x1 : Int32) (s_ : bd_S), bd_WF G out (f_X3_init_261 k280 n_ x1 s_) s_ 261 [(1, .int x1), (0, .ref (bd_ad (g_E G) 55))] [] := by
  intro n_
  induction n_ with
  | zero => intros; intro hF; cases hF
  | succ n_ ih =>
    intro x1 s_
    rw [f_X3_init_261]
    refine rr_iload_n hG dX3_init_261 rfl 0 rfl ?_
    refine rr_bipush (v := 12) hG dX3_init_262 (by decide) ?_
    refine rr_icmp_ge hG 280 dX3_init_264 (by decide) ?_ ?_
    · exact rr_sub [1] rfl (hk280 s_)
    · refine rr_aload_n hG dX3_init_267 rfl 1 rfl ?_
      refine gf_X3_69 hG (by decide) dX3_init_268 ?_
      refine rr_iload_n hG dX3_init_271 rfl 0 rfl ?_
      refine rr_iconst (v := 1) hG dX3_init_272 (by decide) ?_
      refine rr_iast hG rfl (by decide) dX3_init_273 (fun s273 => ?_)
      refine rr_iinc (v := 1) (lr := [(0, .ref (bd_ad (g_E G) 55))]) hG dX3_init_274 0 rfl (by decide) (by decide) rfl (fun z274 => ?_)
      refine rr_goto (tgt := 261) hG dX3_init_277 (by decide) ?_
      exact ih z274 s273
set_option maxRecDepth 100000 in
set_option maxHeartbeats 4000000 in
theorem b_X3_init_282 {G : bd_G} {out : Unit × bd_S} (hG : bd_OK G cX3_init 2 RX3 85 4 89 none) (ho : True) {k309 : bd_S → Option (Unit × bd_S)} (hk309 : ∀ (s_ : bd_S), bd_WF G out (k309 s_) s_ 309 [(0, .ref (bd_ad (g_E G) 55))] []) : ∀ (n_ : Nat) (x1 : Int32) (s_ : bd_S), bd_WF G out (f_X3_init_282 k309 n_ x1 s_) s_ 282 [(1, .int x1), (0, .ref (bd_ad (g_E G) 55))] [] := by
  intro n_
  induction n_ with
  | zero => intros; intro hF; cases hF
  | succ n_ ih =>
    intro x1 s_
    rw [f_X3_init_282]
    refine rr_iload_n hG dX3_init_282 rfl 0 rfl ?_
    refine rr_iconst (v := 4) hG dX3_init_283 (by decide) ?_
    refine rr_icmp_ge hG 309 dX3_init_284 (by decide) ?_ ?_
    · exact rr_sub [1] rfl (hk309 s_)
    · refine rr_aload_n hG dX3_init_287 rfl 1 rfl ?_
      refine gf_X3_78 hG (by decide) dX3_init_288 ?_
      refine rr_iload_n hG dX3_init_291 rfl 0 rfl ?_
      refine rr_ldc (v := (-99999)) hG kc_X3_105 dX3_init_292 ?_
      refine rr_iast hG rfl (by decide) dX3_init_294 (fun s294 => ?_)
      refine rr_aload_n hG dX3_init_295 rfl 1 rfl ?_
      refine gf_X3_81 hG (by decide) dX3_init_296 ?_
      refine rr_iload_n hG dX3_init_299 rfl 0 rfl ?_
      refine rr_ldc (v := 99999) hG kc_X3_106 dX3_init_300 ?_
      refine rr_iast hG rfl (by decide) dX3_init_302 (fun s302 => ?_)
      refine rr_iinc (v := 1) (lr := [(0, .ref (bd_ad (g_E G) 55))]) hG dX3_init_303 0 rfl (by decide) (by decide) rfl (fun z303 => ?_)
      refine rr_goto (tgt := 282) hG dX3_init_306 (by decide) ?_
      exact ih z303 s302
set_option maxRecDepth 100000 in
set_option maxHeartbeats 4000000 in
theorem b_X3_init_238 {G : bd_G} {out : Unit × bd_S} (hG : bd_OK G cX3_init 2 RX3 85 4 89 none) (ho : True) {kS : bd_S → Option (Unit × bd_S)} (hkS : ∀ (s_ : bd_S), bd_WF G out (kS s_) s_ 314 [] []) (s_ : bd_S) : bd_WF G out (f_X3_init_238 kS s_) s_ 238 [(0, .ref (bd_ad (g_E G) 55))] [] := by
  unfold f_X3_init_238
  refine rr_iconst (v := 0) hG dX3_init_238 (by decide) ?_
  refine rr_istore_n (lr := [(0, .ref (bd_ad (g_E G) 55))]) hG dX3_init_239 rfl (by decide) rfl ?_
  refine (b_X3_init_240 hG ho (fun e259 => ?_) FU_ 0 s_)
  · refine rr_iconst (v := 0) hG dX3_init_259 (by decide) ?_
    refine rr_istore_n (lr := [(0, .ref (bd_ad (g_E G) 55))]) hG dX3_init_260 rfl (by decide) rfl ?_
    refine (b_X3_init_261 hG ho (fun e280 => ?_) FU_ 0 e259)
    · refine rr_iconst (v := 0) hG dX3_init_280 (by decide) ?_
      refine rr_istore_n (lr := [(0, .ref (bd_ad (g_E G) 55))]) hG dX3_init_281 rfl (by decide) rfl ?_
      refine (b_X3_init_282 hG ho (fun e309 => ?_) FU_ 0 e280)
      · refine rr_aload_n hG dX3_init_309 rfl 0 rfl ?_
        refine rr_cVi hG [] (c_X3_layOffs (g_l G) (g_E G) (hG.hE.mono (by decide)) e309) lk_X3_107 im_X3_layOffs se_X3_layOffs rfl (by decide) (by decide) rfl rfl (Nat.le_of_ble_eq_true rfl) (Nat.le_of_ble_eq_true rfl) rfl rfl (Nat.le_of_ble_eq_true rfl) dX3_init_310 (fun z310 s310 => ?_)
        refine rr_pop hG dX3_init_313 rfl ?_
        exact rr_sub [] rfl (hkS s310)
