set_option maxRecDepth 100000 in
set_option maxHeartbeats 4000000 in
theorem b_X3_narrow_36 {G : bd_G} {out : Int32 × bd_S} (hG : bd_OK G cX3_narrow 5 RX3 85 2 43 (some .boolean)) (ho : bd_ends bd_Qi G out) {k199 : Int32 → bd_S → Option (Int32 × bd_S)} (hk199 : ∀ (x1 : Int32) (s_ : bd_S), bd_WF G out (k199 x1 s_) s_ 199 [(1, .int x1), (0, .ref (bd_ad (g_E G) 55))] []) : ∀ (n_ : Nat) (x2 : Int32) (x1 : Int32) (s_ : bd_S), bd_WF G out (f_X3_narrow_36 k199 n_ x2 x1 s_) s_ 36 [(2, .int x2), (1, .int x1), (0, .ref (bd_ad (g_E G) 55))] [] := by
  intro n_
  induction n_ with
  | zero => intros; intro hF; cases hF
  | succ n_ ih =>
    intro x2 x1 s_
    rw [f_X3_narrow_36]
    refine rr_iload_n hG dX3_narrow_36 rfl 0 rfl ?_
    refine rr_bipush (v := 20) hG dX3_narrow_37 (by decide) ?_
    refine rr_icmp_ge hG 199 dX3_narrow_39 (by decide) ?_ ?_
    · exact rr_sub [1, 2] rfl (hk199 x1 s_)
    · refine rr_iload_n hG dX3_narrow_42 rfl 0 rfl ?_
      refine rr_iload_n hG dX3_narrow_43 rfl 1 rfl ?_
      refine rr_isub hG dX3_narrow_44 (fun z44 => ?_)
      refine rr_istore_n (lr := [(2, .int x2), (1, .int x1), (0, .ref (bd_ad (g_E G) 55))]) hG dX3_narrow_45 rfl (by decide) rfl ?_
      refine rr_aload_n hG dX3_narrow_46 rfl 3 rfl ?_
      refine gf_X3_90 hG (by decide) dX3_narrow_47 ?_
      refine rr_iload_n hG dX3_narrow_50 rfl 1 rfl ?_
      refine rr_iald hG rfl (by decide) dX3_narrow_51 (fun z51 => ?_)
      refine rr_aload_n hG dX3_narrow_52 rfl 3 rfl ?_
      refine gf_X3_90 hG (by decide) dX3_narrow_53 ?_
      refine rr_iload_n hG dX3_narrow_56 rfl 2 rfl ?_
      refine rr_iald hG rfl (by decide) dX3_narrow_57 (fun z57 => ?_)
      refine rr_isub hG dX3_narrow_58 (fun z58 => ?_)
      refine rr_istore (lr := [(3, .int z44), (2, .int x2), (1, .int x1), (0, .ref (bd_ad (g_E G) 55))]) hG dX3_narrow_59 (by decide) rfl ?_
      refine rr_aload_n hG dX3_narrow_61 rfl 4 rfl ?_
      refine rr_iload_n hG dX3_narrow_62 rfl 2 rfl ?_
      refine rr_aload_n hG dX3_narrow_63 rfl 4 rfl ?_
      refine gf_X3_84 hG (by decide) dX3_narrow_64 ?_
      refine rr_iload_n hG dX3_narrow_67 rfl 3 rfl ?_
      refine rr_iald hG rfl (by decide) dX3_narrow_68 (fun z68 => ?_)
      refine rr_iload_n hG dX3_narrow_69 rfl 1 rfl ?_
      refine rr_aload_n hG dX3_narrow_70 rfl 4 rfl ?_
      refine gf_X3_84 hG (by decide) dX3_narrow_71 ?_
      refine rr_bipush (v := 20) hG dX3_narrow_74 (by decide) ?_
      refine rr_iald hG rfl (by decide) dX3_narrow_76 (fun z76 => ?_)
      refine rr_imul hG dX3_narrow_77 (fun z77 => ?_)
      refine rr_iadd hG dX3_narrow_78 (fun z78 => ?_)
      refine rr_iload hG dX3_narrow_79 0 rfl ?_
      refine rr_iadd hG dX3_narrow_81 (fun z81 => ?_)
      refine rr_aload_n hG dX3_narrow_82 rfl 4 rfl ?_
      refine gf_X3_87 hG (by decide) dX3_narrow_83 ?_
      refine rr_iload_n hG dX3_narrow_86 rfl 3 rfl ?_
      refine rr_iald hG rfl (by decide) dX3_narrow_87 (fun z87 => ?_)
      refine rr_iload_n hG dX3_narrow_88 rfl 1 rfl ?_
      refine rr_aload_n hG dX3_narrow_89 rfl 4 rfl ?_
      refine gf_X3_87 hG (by decide) dX3_narrow_90 ?_
      refine rr_bipush (v := 20) hG dX3_narrow_93 (by decide) ?_
      refine rr_iald hG rfl (by decide) dX3_narrow_95 (fun z95 => ?_)
      refine rr_imul hG dX3_narrow_96 (fun z96 => ?_)
      refine rr_iadd hG dX3_narrow_97 (fun z97 => ?_)
      refine rr_iload hG dX3_narrow_98 0 rfl ?_
      refine rr_iadd hG dX3_narrow_100 (fun z100 => ?_)
      refine rr_cVv hG [.int x2, .int z81, .int z100] (c_X3_within (g_l G) (g_E G) (hG.hE.mono (by decide)) x2 z81 z100 s_) lk_X3_129 im_X3_within se_X3_within rfl (by decide) (by decide) rfl rfl (Nat.le_of_ble_eq_true rfl) (Nat.le_of_ble_eq_true rfl) rfl rfl (Nat.le_of_ble_eq_true rfl) dX3_narrow_101 (fun s101 => ?_)
      refine rr_aload_n hG dX3_narrow_104 rfl 4 rfl ?_
      refine rr_iload_n hG dX3_narrow_105 rfl 3 rfl ?_
      refine rr_aload_n hG dX3_narrow_106 rfl 4 rfl ?_
      refine gf_X3_84 hG (by decide) dX3_narrow_107 ?_
      refine rr_iload_n hG dX3_narrow_110 rfl 2 rfl ?_
      refine rr_iald hG rfl (by decide) dX3_narrow_111 (fun z111 => ?_)
      refine rr_iload_n hG dX3_narrow_112 rfl 1 rfl ?_
      refine rr_aload_n hG dX3_narrow_113 rfl 4 rfl ?_
      refine gf_X3_87 hG (by decide) dX3_narrow_114 ?_
      refine rr_bipush (v := 20) hG dX3_narrow_117 (by decide) ?_
      refine rr_iald hG rfl (by decide) dX3_narrow_119 (fun z119 => ?_)
      refine rr_imul hG dX3_narrow_120 (fun z120 => ?_)
      refine rr_isub hG dX3_narrow_121 (fun z121 => ?_)
      refine rr_iload hG dX3_narrow_122 0 rfl ?_
      refine rr_isub hG dX3_narrow_124 (fun z124 => ?_)
      refine rr_aload_n hG dX3_narrow_125 rfl 4 rfl ?_
      refine gf_X3_87 hG (by decide) dX3_narrow_126 ?_
      refine rr_iload_n hG dX3_narrow_129 rfl 2 rfl ?_
      refine rr_iald hG rfl (by decide) dX3_narrow_130 (fun z130 => ?_)
      refine rr_iload_n hG dX3_narrow_131 rfl 1 rfl ?_
      refine rr_aload_n hG dX3_narrow_132 rfl 4 rfl ?_
      refine gf_X3_84 hG (by decide) dX3_narrow_133 ?_
      refine rr_bipush (v := 20) hG dX3_narrow_136 (by decide) ?_
      refine rr_iald hG rfl (by decide) dX3_narrow_138 (fun z138 => ?_)
      refine rr_imul hG dX3_narrow_139 (fun z139 => ?_)
      refine rr_isub hG dX3_narrow_140 (fun z140 => ?_)
      refine rr_iload hG dX3_narrow_141 0 rfl ?_
      refine rr_isub hG dX3_narrow_143 (fun z143 => ?_)
      refine rr_cVv hG [.int x1, .int z124, .int z143] (c_X3_within (g_l G) (g_E G) (hG.hE.mono (by decide)) x1 z124 z143 s101) lk_X3_129 im_X3_within se_X3_within rfl (by decide) (by decide) rfl rfl (Nat.le_of_ble_eq_true rfl) (Nat.le_of_ble_eq_true rfl) rfl rfl (Nat.le_of_ble_eq_true rfl) dX3_narrow_144 (fun s144 => ?_)
      refine rr_aload_n hG dX3_narrow_147 rfl 4 rfl ?_
      refine rr_bipush (v := 20) hG dX3_narrow_148 (by decide) ?_
      refine rr_aload_n hG dX3_narrow_150 rfl 4 rfl ?_
      refine gf_X3_84 hG (by decide) dX3_narrow_151 ?_
      refine rr_iload_n hG dX3_narrow_154 rfl 2 rfl ?_
      refine rr_iald hG rfl (by decide) dX3_narrow_155 (fun z155 => ?_)
      refine rr_aload_n hG dX3_narrow_156 rfl 4 rfl ?_
      refine gf_X3_87 hG (by decide) dX3_narrow_157 ?_
      refine rr_iload_n hG dX3_narrow_160 rfl 3 rfl ?_
      refine rr_iald hG rfl (by decide) dX3_narrow_161 (fun z161 => ?_)
      refine rr_isub hG dX3_narrow_162 (fun z162 => ?_)
      refine rr_iload hG dX3_narrow_163 0 rfl ?_
      refine rr_isub hG dX3_narrow_165 (fun z165 => ?_)
      refine rr_iload_n hG dX3_narrow_166 rfl 1 rfl ?_
      refine rr_cSi hG [.int z165, .int z44] (c_X3_up (g_l G) (g_E G) (hG.hE.mono (by decide)) z165 z44 s144) lk_X3_133 sm_X3_up (Nat.le_of_ble_eq_true rfl) (Nat.le_of_ble_eq_true rfl) rfl rfl (Nat.le_of_ble_eq_true rfl) dX3_narrow_167 (fun z167 s167 => ?_)
      refine rr_aload_n hG dX3_narrow_170 rfl 4 rfl ?_
      refine gf_X3_87 hG (by decide) dX3_narrow_171 ?_
      refine rr_iload_n hG dX3_narrow_174 rfl 2 rfl ?_
      refine rr_iald hG rfl (by decide) dX3_narrow_175 (fun z175 => ?_)
      refine rr_aload_n hG dX3_narrow_176 rfl 4 rfl ?_
      refine gf_X3_84 hG (by decide) dX3_narrow_177 ?_
      refine rr_iload_n hG dX3_narrow_180 rfl 3 rfl ?_
      refine rr_iald hG rfl (by decide) dX3_narrow_181 (fun z181 => ?_)
      refine rr_isub hG dX3_narrow_182 (fun z182 => ?_)
      refine rr_iload hG dX3_narrow_183 0 rfl ?_
      refine rr_isub hG dX3_narrow_185 (fun z185 => ?_)
      refine rr_iload_n hG dX3_narrow_186 rfl 1 rfl ?_
      refine rr_cSi hG [.int z185, .int z44] (c_X3_down (g_l G) (g_E G) (hG.hE.mono (by decide)) z185 z44 s167) lk_X3_118 sm_X3_down (Nat.le_of_ble_eq_true rfl) (Nat.le_of_ble_eq_true rfl) rfl rfl (Nat.le_of_ble_eq_true rfl) dX3_narrow_187 (fun z187 s187 => ?_)
      refine rr_cVv hG [.int 20, .int z167, .int z187] (c_X3_within (g_l G) (g_E G) (hG.hE.mono (by decide)) 20 z167 z187 s187) lk_X3_129 im_X3_within se_X3_within rfl (by decide) (by decide) rfl rfl (Nat.le_of_ble_eq_true rfl) (Nat.le_of_ble_eq_true rfl) rfl rfl (Nat.le_of_ble_eq_true rfl) dX3_narrow_190 (fun s190 => ?_)
      refine rr_iinc (v := 1) (lr := [(4, .int z58), (3, .int z44), (1, .int x1), (0, .ref (bd_ad (g_E G) 55))]) hG dX3_narrow_193 2 rfl (by decide) (by decide) rfl (fun z193 => ?_)
      refine rr_goto (tgt := 36) hG dX3_narrow_196 (by decide) ?_
      exact rr_sub [0, 3, 4] rfl (ih z193 x1 s190)
set_option maxRecDepth 100000 in
set_option maxHeartbeats 4000000 in
theorem b_X3_narrow_26 {G : bd_G} {out : Int32 × bd_S} (hG : bd_OK G cX3_narrow 5 RX3 85 2 43 (some .boolean)) (ho : bd_ends bd_Qi G out) {k205 : bd_S → Option (Int32 × bd_S)} (hk205 : ∀ (s_ : bd_S), bd_WF G out (k205 s_) s_ 205 [(0, .ref (bd_ad (g_E G) 55))] []) : ∀ (n_ : Nat) (x1 : Int32) (s_ : bd_S), bd_WF G out (f_X3_narrow_26 k205 n_ x1 s_) s_ 26 [(1, .int x1), (0, .ref (bd_ad (g_E G) 55))] [] := by
  intro n_
  induction n_ with
  | zero => intros; intro hF; cases hF
  | succ n_ ih =>
    intro x1 s_
    rw [f_X3_narrow_26]
    refine rr_iload_n hG dX3_narrow_26 rfl 0 rfl ?_
    refine rr_bipush (v := 20) hG dX3_narrow_27 (by decide) ?_
    refine rr_icmp_ge hG 205 dX3_narrow_29 (by decide) ?_ ?_
    · exact rr_sub [1] rfl (hk205 s_)
    · refine rr_iload_n hG dX3_narrow_32 rfl 0 rfl ?_
      refine rr_iconst (v := 1) hG dX3_narrow_33 (by decide) ?_
      refine rr_iadd hG dX3_narrow_34 (fun z34 => ?_)
      refine rr_istore_n (lr := [(1, .int x1), (0, .ref (bd_ad (g_E G) 55))]) hG dX3_narrow_35 rfl (by decide) rfl ?_
      refine (b_X3_narrow_36 hG ho (fun x1e e199 => ?_) FU_ z34 x1 s_)
      · refine rr_iinc (v := 1) (lr := [(0, .ref (bd_ad (g_E G) 55))]) hG dX3_narrow_199 0 rfl (by decide) (by decide) rfl (fun z199 => ?_)
        refine rr_goto (tgt := 26) hG dX3_narrow_202 (by decide) ?_
        exact ih z199 e199
set_option maxRecDepth 100000 in
set_option maxHeartbeats 4000000 in
theorem b_X3_narrow_5 {G : bd_G} {out : Int32 × bd_S} (hG : bd_OK G cX3_narrow 5 RX3 85 2 43 (some .boolean)) (ho : bd_ends bd_Qi G out) : ∀ (n_ : Nat) (s_ : bd_S), bd_WF G out (f_X3_narrow_5 n_ s_) s_ 5 [(0, .ref (bd_ad (g_E G) 55))] [] := by
  intro n_
  induction n_ with
  | zero => intros; intro hF; cases hF
  | succ n_ ih =>
    intro s_
    rw [f_X3_narrow_5]
    refine rr_aload_n hG dX3_narrow_5 rfl 0 rfl ?_
    refine gf_X3_122 hG (by decide) dX3_narrow_6 (fun z6 => ?_)
    refine rr_if_eq hG 208 dX3_narrow_9 (by decide) ?_ ?_
    · refine rr_aload_n hG dX3_narrow_208 rfl 0 rfl ?_
      refine rr_cVi hG [] (c_X3_isLeft (g_l G) (g_E G) (hG.hE.mono (by decide)) s_) lk_X3_126 im_X3_isLeft se_X3_isLeft rfl (by decide) (by decide) rfl rfl (Nat.le_of_ble_eq_true rfl) (Nat.le_of_ble_eq_true rfl) rfl rfl (Nat.le_of_ble_eq_true rfl) dX3_narrow_209 (fun z209 s209 => ?_)
      exact rr_zret hG ho dX3_narrow_212
    · refine rr_aload_n hG dX3_narrow_12 rfl 0 rfl ?_
      refine rr_cVi hG [] (c_X3_isLeft (g_l G) (g_E G) (hG.hE.mono (by decide)) s_) lk_X3_126 im_X3_isLeft se_X3_isLeft rfl (by decide) (by decide) rfl rfl (Nat.le_of_ble_eq_true rfl) (Nat.le_of_ble_eq_true rfl) rfl rfl (Nat.le_of_ble_eq_true rfl) dX3_narrow_13 (fun z13 s13 => ?_)
      refine rr_if_eq hG 208 dX3_narrow_16 (by decide) ?_ ?_
      · refine rr_aload_n hG dX3_narrow_208 rfl 0 rfl ?_
        refine rr_cVi hG [] (c_X3_isLeft (g_l G) (g_E G) (hG.hE.mono (by decide)) s13) lk_X3_126 im_X3_isLeft se_X3_isLeft rfl (by decide) (by decide) rfl rfl (Nat.le_of_ble_eq_true rfl) (Nat.le_of_ble_eq_true rfl) rfl rfl (Nat.le_of_ble_eq_true rfl) dX3_narrow_209 (fun z209 s209 => ?_)
        exact rr_zret hG ho dX3_narrow_212
      · refine rr_aload_n hG dX3_narrow_19 rfl 0 rfl ?_
        refine rr_iconst (v := 0) hG dX3_narrow_20 (by decide) ?_
        refine pf_X3_122 hG rfl rfl (by decide) dX3_narrow_21 (fun s21 => ?_)
        refine rr_iconst (v := 0) hG dX3_narrow_24 (by decide) ?_
        refine rr_istore_n (lr := [(0, .ref (bd_ad (g_E G) 55))]) hG dX3_narrow_25 rfl (by decide) rfl ?_
        refine (b_X3_narrow_26 hG ho (fun e205 => ?_) FU_ 0 s21)
        · refine rr_goto (tgt := 5) hG dX3_narrow_205 (by decide) ?_
          exact ih e205
set_option maxRecDepth 100000 in
set_option maxHeartbeats 4000000 in
theorem c_X3_narrow (l : Launch) (E : bd_E) (hE : bd_ok E 85) (s_ : bd_S) : bd_M bd_Qi l yX3_narrow cX3_narrow 5 (some .boolean) 2 43 E [.ref (bd_ad E 55)] s_ (f_X3_narrow s_) := by
  refine bd_open bd_Qi (by decide +kernel) hE (Nat.le_of_ble_eq_true rfl) (fun G out hG hGE hGl ho => ?_)
  subst hGE
  have hG : bd_OK G cX3_narrow 5 RX3 85 2 43 (some .boolean) := hG
  have h : bd_WF G out (f_X3_narrow  s_) s_ 0 [(0, .ref (bd_ad (g_E G) 55))] [] := by
    unfold f_X3_narrow
    refine rr_aload_n hG dX3_narrow_0 rfl 0 rfl ?_
    refine rr_iconst (v := 1) hG dX3_narrow_1 (by decide) ?_
    refine pf_X3_122 hG rfl rfl (by decide) dX3_narrow_2 (fun s2 => ?_)
    exact (b_X3_narrow_5 hG ho FU_ s2)
  exact h
set_option maxRecDepth 100000 in
set_option maxHeartbeats 4000000 in
theorem b_X3_start_26 {G : bd_G} {out : Unit × bd_S} (hG : bd_OK G cX3_start 4 RX3 85 0 0 none) (ho : bd_ends bd_Qv G out) {k2 : Int32 → Int32 → Int32 → bd_S → Option (Unit × bd_S)} (hk2 : ∀ (x3 : Int32) (x1 : Int32) (x2 : Int32) (s_ : bd_S), bd_WF G out (k2 x3 x1 x2 s_) s_ 2 [(3, .int x3), (0, .ref (bd_ad (g_E G) 55)), (1, .int x1), (2, .int x2)] []) (x3 : Int32) (x1 : Int32) (x2 : Int32) (t0 : Int32) (t1 : Int32) (s_ : bd_S) : bd_WF G out (f_X3_start_26 k2 x3 x1 x2 t0 t1 s_) s_ 26 [(3, .int x3), (0, .ref (bd_ad (g_E G) 55)), (1, .int x1), (2, .int x2)] [.int t0, .int t1, .ref (bd_ad (g_E G) 79)] := by
  unfold f_X3_start_26
  refine rr_iast hG rfl (by decide) dX3_start_26 (fun s26 => ?_)
  refine rr_aload_n hG dX3_start_27 rfl 1 rfl ?_
  refine gf_X3_87 hG (by decide) dX3_start_28 ?_
  refine rr_iload_n hG dX3_start_31 rfl 0 rfl ?_
  refine rr_iload_n hG dX3_start_32 rfl 0 rfl ?_
  refine rr_bipush (v := 20) hG dX3_start_33 (by decide) ?_
  refine rr_icmp_ne hG 42 dX3_start_35 (by decide) ?_ ?_
  · refine rr_iload_n hG dX3_start_42 rfl 2 rfl ?_
    refine rr_iast hG rfl (by decide) dX3_start_43 (fun s43 => ?_)
    refine rr_iinc (v := 1) (lr := [(0, .ref (bd_ad (g_E G) 55)), (1, .int x1), (2, .int x2)]) hG dX3_start_44 0 rfl (by decide) (by decide) rfl (fun z44 => ?_)
    refine rr_goto (tgt := 2) hG dX3_start_47 (by decide) ?_
    exact hk2 z44 x1 x2 s43
  · refine rr_iload_n hG dX3_start_38 rfl 3 rfl ?_
    refine rr_goto (tgt := 43) hG dX3_start_39 (by decide) ?_
    refine rr_iast hG rfl (by decide) dX3_start_43 (fun s43 => ?_)
    refine rr_iinc (v := 1) (lr := [(0, .ref (bd_ad (g_E G) 55)), (1, .int x1), (2, .int x2)]) hG dX3_start_44 0 rfl (by decide) (by decide) rfl (fun z44 => ?_)
    refine rr_goto (tgt := 2) hG dX3_start_47 (by decide) ?_
    exact hk2 z44 x1 x2 s43
set_option maxRecDepth 100000 in
set_option maxHeartbeats 4000000 in
theorem b_X3_start_2 {G : bd_G} {out : Unit × bd_S} (hG : bd_OK G cX3_start 4 RX3 85 0 0 none) (ho : bd_ends bd_Qv G out) : ∀ (n_ : Nat) (x3 : Int32) (x1 : Int32) (x2 : Int32) (s_ : bd_S), bd_WF G out (f_X3_start_2 n_ x3 x1 x2 s_) s_ 2 [(3, .int x3), (0, .ref (bd_ad (g_E G) 55)), (1, .int x1), (2, .int x2)] [] := by
  intro n_
  induction n_ with
  | zero => intros; intro hF; cases hF
  | succ n_ ih =>
    intro x3 x1 x2 s_
    rw [f_X3_start_2]
    refine rr_iload_n hG dX3_start_2 rfl 0 rfl ?_
    refine rr_bipush (v := 21) hG dX3_start_3 (by decide) ?_
    refine rr_icmp_ge hG 50 dX3_start_5 (by decide) ?_ ?_
    · exact rr_vret hG ho dX3_start_50
    · refine rr_aload_n hG dX3_start_8 rfl 1 rfl ?_
      refine gf_X3_84 hG (by decide) dX3_start_9 ?_
      refine rr_iload_n hG dX3_start_12 rfl 0 rfl ?_
      refine rr_iload_n hG dX3_start_13 rfl 0 rfl ?_
      refine rr_bipush (v := 20) hG dX3_start_14 (by decide) ?_
      refine rr_icmp_ne hG 24 dX3_start_16 (by decide) ?_ ?_
      · refine rr_iload_n hG dX3_start_24 rfl 2 rfl ?_
        refine rr_ineg hG dX3_start_25 (fun z25 => ?_)
        exact (b_X3_start_26 hG ho ih x3 x1 x2 z25 x3 s_)
      · refine rr_iload_n hG dX3_start_19 rfl 3 rfl ?_
        refine rr_ineg hG dX3_start_20 (fun z20 => ?_)
        refine rr_goto (tgt := 26) hG dX3_start_21 (by decide) ?_
        exact (b_X3_start_26 hG ho ih x3 x1 x2 z20 x3 s_)
set_option maxRecDepth 100000 in
set_option maxHeartbeats 4000000 in
theorem c_X3_start (l : Launch) (E : bd_E) (hE : bd_ok E 85) (p1 : Int32) (p2 : Int32) (s_ : bd_S) : bd_M bd_Qv l yX3_start cX3_start 4 none 0 0 E [.ref (bd_ad E 55), .int p1, .int p2] s_ (f_X3_start p1 p2 s_) := by
  refine bd_open bd_Qv (by decide +kernel) hE (Nat.le_of_ble_eq_true rfl) (fun G out hG hGE hGl ho => ?_)
  subst hGE
  have hG : bd_OK G cX3_start 4 RX3 85 0 0 none := hG
  have h : bd_WF G out (f_X3_start p1 p2 s_) s_ 0 [(0, .ref (bd_ad (g_E G) 55)), (1, .int p1), (2, .int p2)] [] := by
    unfold f_X3_start
    refine rr_iconst (v := 0) hG dX3_start_0 (by decide) ?_
    refine rr_istore_n (lr := [(0, .ref (bd_ad (g_E G) 55)), (1, .int p1), (2, .int p2)]) hG dX3_start_1 rfl (by decide) rfl ?_
    exact (b_X3_start_2 hG ho FU_ 0 p1 p2 s_)
  exact h
set_option maxRecDepth 100000 in
set_option maxHeartbeats 4000000 in
theorem b_X3_layOffs_11 {G : bd_G} {out : Int32 × bd_S} (hG : bd_OK G cX3_layOffs 3 RX3 85 3 67 (some .boolean)) (ho : bd_ends bd_Qi G out) {k30 : bd_S → Option (Int32 × bd_S)} (hk30 : ∀ (s_ : bd_S), bd_WF G out (k30 s_) s_ 30 [(0, .ref (bd_ad (g_E G) 55))] []) : ∀ (n_ : Nat) (x1 : Int32) (s_ : bd_S), bd_WF G out (f_X3_layOffs_11 k30 n_ x1 s_) s_ 11 [(1, .int x1), (0, .ref (bd_ad (g_E G) 55))] [] := by
  intro n_
  induction n_ with
  | zero => intros; intro hF; cases hF
  | succ n_ ih =>
    intro x1 s_
    rw [f_X3_layOffs_11]
    refine rr_iload_n hG dX3_layOffs_11 rfl 0 rfl ?_
    refine rr_bipush (v := 20) hG dX3_layOffs_12 (by decide) ?_
    refine rr_icmp_ge hG 30 dX3_layOffs_14 (by decide) ?_ ?_
    · exact rr_sub [1] rfl (hk30 s_)
    · refine rr_aload_n hG dX3_layOffs_17 rfl 1 rfl ?_
      refine gf_X3_90 hG (by decide) dX3_layOffs_18 ?_
      refine rr_iload_n hG dX3_layOffs_21 rfl 0 rfl ?_
      refine rr_iconst (v := 0) hG dX3_layOffs_22 (by decide) ?_
      refine rr_iast hG rfl (by decide) dX3_layOffs_23 (fun s23 => ?_)
      refine rr_iinc (v := 1) (lr := [(0, .ref (bd_ad (g_E G) 55))]) hG dX3_layOffs_24 0 rfl (by decide) (by decide) rfl (fun z24 => ?_)
      refine rr_goto (tgt := 11) hG dX3_layOffs_27 (by decide) ?_
      exact ih z24 s23
set_option maxRecDepth 100000 in
set_option maxHeartbeats 4000000 in
theorem b_X3_layOffs_32 {G : bd_G} {out : Int32 × bd_S} (hG : bd_OK G cX3_layOffs 3 RX3 85 3 67 (some .boolean)) (ho : bd_ends bd_Qi G out) {k82 : bd_S → Option (Int32 × bd_S)} (hk82 : ∀ (s_ : bd_S), bd_WF G out (k82 s_) s_ 82 [(0, .ref (bd_ad (g_E G) 55))] []) : ∀ (n_ : Nat) (x1 : Int32) (s_ : bd_S), bd_WF G out (f_X3_layOffs_32 k82 n_ x1 s_) s_ 32 [(1, .int x1), (0, .ref (bd_ad (g_E G) 55))] [] := by
  intro n_
  induction n_ with
  | zero => intros; intro hF; cases hF
  | succ n_ ih =>
    intro x1 s_
    rw [f_X3_layOffs_32]
    refine rr_iload_n hG dX3_layOffs_32 rfl 0 rfl ?_
    refine rr_aload_n hG dX3_layOffs_33 rfl 1 rfl ?_
    refine gf_X3_140 hG (by decide) dX3_layOffs_34 (fun z34 => ?_)
    refine rr_icmp_ge hG 82 dX3_layOffs_37 (by decide) ?_ ?_
    · exact rr_sub [1] rfl (hk82 s_)
    · refine rr_aload_n hG dX3_layOffs_40 rfl 1 rfl ?_
      refine rr_aload_n hG dX3_layOffs_41 rfl 1 rfl ?_
      refine gf_X3_7 hG (by decide) dX3_layOffs_42 ?_
      refine rr_iload_n hG dX3_layOffs_45 rfl 0 rfl ?_
      refine rr_iald hG rfl (by decide) dX3_layOffs_46 (fun z46 => ?_)
      refine rr_aload_n hG dX3_layOffs_47 rfl 1 rfl ?_
      refine gf_X3_13 hG (by decide) dX3_layOffs_48 ?_
      refine rr_iload_n hG dX3_layOffs_51 rfl 0 rfl ?_
      refine rr_iald hG rfl (by decide) dX3_layOffs_52 (fun z52 => ?_)
      refine rr_aload_n hG dX3_layOffs_53 rfl 1 rfl ?_
      refine gf_X3_16 hG (by decide) dX3_layOffs_54 ?_
      refine rr_iload_n hG dX3_layOffs_57 rfl 0 rfl ?_
      refine rr_iald hG rfl (by decide) dX3_layOffs_58 (fun z58 => ?_)
      refine rr_isub hG dX3_layOffs_59 (fun z59 => ?_)
      refine rr_aload_n hG dX3_layOffs_60 rfl 1 rfl ?_
      refine gf_X3_13 hG (by decide) dX3_layOffs_61 ?_
      refine rr_iload_n hG dX3_layOffs_64 rfl 0 rfl ?_
      refine rr_iald hG rfl (by decide) dX3_layOffs_65 (fun z65 => ?_)
      refine rr_aload_n hG dX3_layOffs_66 rfl 1 rfl ?_
      refine gf_X3_16 hG (by decide) dX3_layOffs_67 ?_
      refine rr_iload_n hG dX3_layOffs_70 rfl 0 rfl ?_
      refine rr_iald hG rfl (by decide) dX3_layOffs_71 (fun z71 => ?_)
      refine rr_iadd hG dX3_layOffs_72 (fun z72 => ?_)
      refine rr_cVv hG [.int z46, .int z59, .int z72] (c_X3_within (g_l G) (g_E G) (hG.hE.mono (by decide)) z46 z59 z72 s_) lk_X3_129 im_X3_within se_X3_within rfl (by decide) (by decide) rfl rfl (Nat.le_of_ble_eq_true rfl) (Nat.le_of_ble_eq_true rfl) rfl rfl (Nat.le_of_ble_eq_true rfl) dX3_layOffs_73 (fun s73 => ?_)
      refine rr_iinc (v := 1) (lr := [(0, .ref (bd_ad (g_E G) 55))]) hG dX3_layOffs_76 0 rfl (by decide) (by decide) rfl (fun z76 => ?_)
      refine rr_goto (tgt := 32) hG dX3_layOffs_79 (by decide) ?_
      exact ih z76 s73
set_option maxRecDepth 100000 in
set_option maxHeartbeats 4000000 in
theorem b_X3_layOffs_89 {G : bd_G} {out : Int32 × bd_S} (hG : bd_OK G cX3_layOffs 3 RX3 85 3 67 (some .boolean)) (ho : bd_ends bd_Qi G out) : ∀ (n_ : Nat) (x2 : Int32) (x1 : Int32) (s_ : bd_S), bd_WF G out (f_X3_layOffs_89 n_ x2 x1 s_) s_ 89 [(2, .int x2), (1, .int x1), (0, .ref (bd_ad (g_E G) 55))] [] := by
  intro n_
  induction n_ with
  | zero => intros; intro hF; cases hF
  | succ n_ ih =>
    intro x2 x1 s_
    rw [f_X3_layOffs_89]
    refine rr_iload_n hG dX3_layOffs_89 rfl 0 rfl ?_
    refine rr_bipush (v := 21) hG dX3_layOffs_90 (by decide) ?_
    refine rr_icmp_ge hG 129 dX3_layOffs_92 (by decide) ?_ ?_
    · refine rr_iload_n hG dX3_layOffs_129 rfl 1 rfl ?_
      exact rr_zret hG ho dX3_layOffs_130
    · refine rr_iload_n hG dX3_layOffs_95 rfl 1 rfl ?_
      refine rr_if_eq hG 129 dX3_layOffs_96 (by decide) ?_ ?_
      · refine rr_iload_n hG dX3_layOffs_129 rfl 1 rfl ?_
        exact rr_zret hG ho dX3_layOffs_130
      · refine rr_aload_n hG dX3_layOffs_99 rfl 2 rfl ?_
        refine gf_X3_23 hG (by decide) dX3_layOffs_100 ?_
        refine rr_iload_n hG dX3_layOffs_103 rfl 0 rfl ?_
        refine rr_aload_n hG dX3_layOffs_104 rfl 2 rfl ?_
        refine gf_X3_84 hG (by decide) dX3_layOffs_105 ?_
        refine rr_iload_n hG dX3_layOffs_108 rfl 0 rfl ?_
        refine rr_iald hG rfl (by decide) dX3_layOffs_109 (fun z109 => ?_)
        refine rr_iast hG rfl (by decide) dX3_layOffs_110 (fun s110 => ?_)
        refine rr_aload_n hG dX3_layOffs_111 rfl 2 rfl ?_
        refine gf_X3_26 hG (by decide) dX3_layOffs_112 ?_
        refine rr_iload_n hG dX3_layOffs_115 rfl 0 rfl ?_
        refine rr_aload_n hG dX3_layOffs_116 rfl 2 rfl ?_
        refine gf_X3_87 hG (by decide) dX3_layOffs_117 ?_
        refine rr_iload_n hG dX3_layOffs_120 rfl 0 rfl ?_
        refine rr_iald hG rfl (by decide) dX3_layOffs_121 (fun z121 => ?_)
        refine rr_iast hG rfl (by decide) dX3_layOffs_122 (fun s122 => ?_)
        refine rr_iinc (v := 1) (lr := [(1, .int x1), (0, .ref (bd_ad (g_E G) 55))]) hG dX3_layOffs_123 0 rfl (by decide) (by decide) rfl (fun z123 => ?_)
        refine rr_goto (tgt := 89) hG dX3_layOffs_126 (by decide) ?_
        exact ih z123 x1 s122
set_option maxRecDepth 100000 in
set_option maxHeartbeats 4000000 in
theorem c_X3_layOffs (l : Launch) (E : bd_E) (hE : bd_ok E 85) (s_ : bd_S) : bd_M bd_Qi l yX3_layOffs cX3_layOffs 3 (some .boolean) 3 67 E [.ref (bd_ad E 55)] s_ (f_X3_layOffs s_) := by
  refine bd_open bd_Qi (by decide +kernel) hE (Nat.le_of_ble_eq_true rfl) (fun G out hG hGE hGl ho => ?_)
  subst hGE
  have hG : bd_OK G cX3_layOffs 3 RX3 85 3 67 (some .boolean) := hG
  have h : bd_WF G out (f_X3_layOffs  s_) s_ 0 [(0, .ref (bd_ad (g_E G) 55))] [] := by
    unfold f_X3_layOffs
    refine rr_aload_n hG dX3_layOffs_0 rfl 0 rfl ?_
    refine rr_sipush (v := 600) hG dX3_layOffs_1 (by decide) ?_
    refine rr_bipush (v := 20) hG dX3_layOffs_4 (by decide) ?_
    refine rr_cVv hG [.int 600, .int 20] (c_X3_start (g_l G) (g_E G) (hG.hE.mono (by decide)) 600 20 s_) lk_X3_136 im_X3_start se_X3_start rfl (by decide) (by decide) rfl rfl (Nat.le_of_ble_eq_true rfl) (Nat.le_of_ble_eq_true rfl) rfl rfl (Nat.le_of_ble_eq_true rfl) dX3_layOffs_6 (fun s6 => ?_)
    refine rr_iconst (v := 0) hG dX3_layOffs_9 (by decide) ?_
    refine rr_istore_n (lr := [(0, .ref (bd_ad (g_E G) 55))]) hG dX3_layOffs_10 rfl (by decide) rfl ?_
    refine (b_X3_layOffs_11 hG ho (fun e30 => ?_) FU_ 0 s6)
    · refine rr_iconst (v := 0) hG dX3_layOffs_30 (by decide) ?_
      refine rr_istore_n (lr := [(0, .ref (bd_ad (g_E G) 55))]) hG dX3_layOffs_31 rfl (by decide) rfl ?_
      refine (b_X3_layOffs_32 hG ho (fun e82 => ?_) FU_ 0 e30)
      · refine rr_aload_n hG dX3_layOffs_82 rfl 0 rfl ?_
        refine rr_cVi hG [] (c_X3_narrow (g_l G) (g_E G) (hG.hE.mono (by decide)) e82) lk_X3_143 im_X3_narrow se_X3_narrow rfl (by decide) (by decide) rfl rfl (Nat.le_of_ble_eq_true rfl) (Nat.le_of_ble_eq_true rfl) rfl rfl (Nat.le_of_ble_eq_true rfl) dX3_layOffs_83 (fun z83 s83 => ?_)
        refine rr_istore_n (lr := [(0, .ref (bd_ad (g_E G) 55))]) hG dX3_layOffs_86 rfl (by decide) rfl ?_
        refine rr_iconst (v := 0) hG dX3_layOffs_87 (by decide) ?_
        refine rr_istore_n (lr := [(1, .int z83), (0, .ref (bd_ad (g_E G) 55))]) hG dX3_layOffs_88 rfl (by decide) rfl ?_
        exact (b_X3_layOffs_89 hG ho FU_ 0 z83 s83)
  exact h
set_option maxRecDepth 100000 in
set_option maxHeartbeats 4000000 in
theorem c_X3_star (l : Launch) (E : bd_E) (hE : bd_ok E 85) (p1 : Int32) (p2 : Int32) (s_ : bd_S) : bd_M bd_Qi l yX3_star cX3_star 3 (some .int) 4 89 E [.ref (bd_ad E 55), .int p1, .int p2] s_ (f_X3_star p1 p2 s_) := by
  refine bd_open bd_Qi (by decide +kernel) hE (Nat.le_of_ble_eq_true rfl) (fun G out hG hGE hGl ho => ?_)
  subst hGE
  have hG : bd_OK G cX3_star 3 RX3 85 4 89 (some .int) := hG
  have h : bd_WF G out (f_X3_star p1 p2 s_) s_ 0 [(0, .ref (bd_ad (g_E G) 55)), (1, .int p1), (2, .int p2)] [] := by
    unfold f_X3_star
    refine rr_iload_n hG dX3_star_0 rfl 1 rfl ?_
    refine rr_cSi hG [.int p1] (c_X3_isDay (g_l G) (g_E G) (hG.hE.mono (by decide)) p1 s_) lk_X3_146 sm_X3_isDay (Nat.le_of_ble_eq_true rfl) (Nat.le_of_ble_eq_true rfl) rfl rfl (Nat.le_of_ble_eq_true rfl) dX3_star_1 (fun z1 s1 => ?_)
    refine rr_if_ne hG 9 dX3_star_4 (by decide) ?_ ?_
    · refine rr_iload_n hG dX3_star_9 rfl 2 rfl ?_
      refine rr_sipush (v := (-600)) hG dX3_star_10 (by decide) ?_
      refine rr_sipush (v := 600) hG dX3_star_13 (by decide) ?_
      refine rr_cSi hG [.int p2, .int (-600), .int 600] (c_X3_in (g_l G) (g_E G) (hG.hE.mono (by decide)) p2 (-600) 600 s1) lk_X3_111 sm_X3_in (Nat.le_of_ble_eq_true rfl) (Nat.le_of_ble_eq_true rfl) rfl rfl (Nat.le_of_ble_eq_true rfl) dX3_star_16 (fun z16 s16 => ?_)
      refine rr_if_ne hG 25 dX3_star_19 (by decide) ?_ ?_
      · refine rr_aload_n hG dX3_star_25 rfl 0 rfl ?_
        refine gf_X3_140 hG (by decide) dX3_star_26 (fun z26 => ?_)
        refine rr_bipush (v := 20) hG dX3_star_29 (by decide) ?_
        refine rr_icmp_ne hG 37 dX3_star_31 (by decide) ?_ ?_
        · refine rr_aload_n hG dX3_star_37 rfl 0 rfl ?_
          refine gf_X3_7 hG (by decide) dX3_star_38 ?_
          refine rr_aload_n hG dX3_star_41 rfl 0 rfl ?_
          refine gf_X3_140 hG (by decide) dX3_star_42 (fun z42 => ?_)
          refine rr_iload_n hG dX3_star_45 rfl 1 rfl ?_
          refine rr_iast hG rfl (by decide) dX3_star_46 (fun s46 => ?_)
          refine rr_aload_n hG dX3_star_47 rfl 0 rfl ?_
          refine gf_X3_13 hG (by decide) dX3_star_48 ?_
          refine rr_aload_n hG dX3_star_51 rfl 0 rfl ?_
          refine gf_X3_140 hG (by decide) dX3_star_52 (fun z52 => ?_)
          refine rr_iload_n hG dX3_star_55 rfl 2 rfl ?_
          refine rr_iast hG rfl (by decide) dX3_star_56 (fun s56 => ?_)
          refine rr_aload_n hG dX3_star_57 rfl 0 rfl ?_
          refine gf_X3_16 hG (by decide) dX3_star_58 ?_
          refine rr_aload_n hG dX3_star_61 rfl 0 rfl ?_
          refine gf_X3_140 hG (by decide) dX3_star_62 (fun z62 => ?_)
          refine rr_aload_n hG dX3_star_65 rfl 0 rfl ?_
          refine gf_X3_19 hG (by decide) dX3_star_66 (fun z66 => ?_)
          refine rr_iast hG rfl (by decide) dX3_star_69 (fun s69 => ?_)
          refine rr_aload_n hG dX3_star_70 rfl 0 rfl ?_
          refine rr_dup hG dX3_star_71 rfl ?_
          refine gf_X3_140 hG (by decide) dX3_star_72 (fun z72 => ?_)
          refine rr_iconst (v := 1) hG dX3_star_75 (by decide) ?_
          refine rr_iadd hG dX3_star_76 (fun z76 => ?_)
          refine pf_X3_140 hG (by decide) dX3_star_77 (fun s77 => ?_)
          refine rr_aload_n hG dX3_star_80 rfl 0 rfl ?_
          refine rr_cVi hG [] (c_X3_layOffs (g_l G) (g_E G) (hG.hE.mono (by decide)) s77) lk_X3_107 im_X3_layOffs se_X3_layOffs rfl (by decide) (by decide) rfl rfl (Nat.le_of_ble_eq_true rfl) (Nat.le_of_ble_eq_true rfl) rfl rfl (Nat.le_of_ble_eq_true rfl) dX3_star_81 (fun z81 s81 => ?_)
          refine rr_if_eq hG 92 dX3_star_84 (by decide) ?_ ?_
          · refine rr_aload_n hG dX3_star_92 rfl 0 rfl ?_
            refine rr_dup hG dX3_star_93 rfl ?_
            refine gf_X3_140 hG (by decide) dX3_star_94 (fun z94 => ?_)
            refine rr_iconst (v := 1) hG dX3_star_97 (by decide) ?_
            refine rr_isub hG dX3_star_98 (fun z98 => ?_)
            refine pf_X3_140 hG (by decide) dX3_star_99 (fun s99 => ?_)
            refine rr_aload_n hG dX3_star_102 rfl 0 rfl ?_
            refine rr_cVi hG [] (c_X3_layOffs (g_l G) (g_E G) (hG.hE.mono (by decide)) s99) lk_X3_107 im_X3_layOffs se_X3_layOffs rfl (by decide) (by decide) rfl rfl (Nat.le_of_ble_eq_true rfl) (Nat.le_of_ble_eq_true rfl) rfl rfl (Nat.le_of_ble_eq_true rfl) dX3_star_103 (fun z103 s103 => ?_)
            refine rr_pop hG dX3_star_106 rfl ?_
            refine rr_bipush (v := (-5)) hG dX3_star_107 (by decide) ?_
            exact rr_iret hG ho dX3_star_109
          · refine rr_aload_n hG dX3_star_87 rfl 0 rfl ?_
            refine gf_X3_140 hG (by decide) dX3_star_88 (fun z88 => ?_)
            exact rr_iret hG ho dX3_star_91
        · refine rr_bipush (v := (-4)) hG dX3_star_34 (by decide) ?_
          exact rr_iret hG ho dX3_star_36
      · refine rr_bipush (v := (-2)) hG dX3_star_22 (by decide) ?_
        exact rr_iret hG ho dX3_star_24
    · refine rr_iconst (v := (-1)) hG dX3_star_7 (by decide) ?_
      exact rr_iret hG ho dX3_star_8
  exact h
set_option maxRecDepth 100000 in
set_option maxHeartbeats 4000000 in
theorem c_X3_care (l : Launch) (E : bd_E) (hE : bd_ok E 85) (p1 : Int32) (s_ : bd_S) : bd_M bd_Qi l yX3_care cX3_care 3 (some .int) 1 22 E [.ref (bd_ad E 55), .int p1] s_ (f_X3_care p1 s_) := by
  refine bd_open bd_Qi (by decide +kernel) hE (Nat.le_of_ble_eq_true rfl) (fun G out hG hGE hGl ho => ?_)
  subst hGE
  have hG : bd_OK G cX3_care 3 RX3 85 1 22 (some .int) := hG
  have h : bd_WF G out (f_X3_care p1 s_) s_ 0 [(0, .ref (bd_ad (g_E G) 55)), (1, .int p1)] [] := by
    unfold f_X3_care
    refine rr_iload_n hG dX3_care_0 rfl 1 rfl ?_
    refine rr_iconst (v := 0) hG dX3_care_1 (by decide) ?_
    refine rr_bipush (v := 9) hG dX3_care_2 (by decide) ?_
    refine rr_cSi hG [.int p1, .int 0, .int 9] (c_X3_in (g_l G) (g_E G) (hG.hE.mono (by decide)) p1 0 9 s_) lk_X3_111 sm_X3_in (Nat.le_of_ble_eq_true rfl) (Nat.le_of_ble_eq_true rfl) rfl rfl (Nat.le_of_ble_eq_true rfl) dX3_care_4 (fun z4 s4 => ?_)
    refine rr_if_ne hG 13 dX3_care_7 (by decide) ?_ ?_
    · refine rr_aload_n hG dX3_care_13 rfl 0 rfl ?_
      refine gf_X3_19 hG (by decide) dX3_care_14 (fun z14 => ?_)
      refine rr_istore_n (lr := [(0, .ref (bd_ad (g_E G) 55)), (1, .int p1)]) hG dX3_care_17 rfl (by decide) rfl ?_
      refine rr_aload_n hG dX3_care_18 rfl 1 rfl ?_
      refine rr_iload_n hG dX3_care_19 rfl 2 rfl ?_
      refine pf_X3_19 hG (by decide) dX3_care_20 (fun s20 => ?_)
      refine rr_iload_n hG dX3_care_23 rfl 0 rfl ?_
      exact rr_iret hG ho dX3_care_24
    · refine rr_bipush (v := (-2)) hG dX3_care_10 (by decide) ?_
      exact rr_iret hG ho dX3_care_12
  exact h
set_option maxRecDepth 100000 in
set_option maxHeartbeats 4000000 in
theorem c_X3_off (l : Launch) (E : bd_E) (hE : bd_ok E 85) (p1 : Int32) (p2 : Int32) (s_ : bd_S) : bd_M bd_Qi l yX3_off cX3_off 3 (some .int) 2 42 E [.ref (bd_ad E 55), .int p1, .int p2] s_ (f_X3_off p1 p2 s_) := by
  refine bd_open bd_Qi (by decide +kernel) hE (Nat.le_of_ble_eq_true rfl) (fun G out hG hGE hGl ho => ?_)
  subst hGE
  have hG : bd_OK G cX3_off 3 RX3 85 2 42 (some .int) := hG
  have h : bd_WF G out (f_X3_off p1 p2 s_) s_ 0 [(0, .ref (bd_ad (g_E G) 55)), (1, .int p1), (2, .int p2)] [] := by
    unfold f_X3_off
    refine rr_iload_n hG dX3_off_0 rfl 1 rfl ?_
    refine rr_cSi hG [.int p1] (c_X3_isDay (g_l G) (g_E G) (hG.hE.mono (by decide)) p1 s_) lk_X3_146 sm_X3_isDay (Nat.le_of_ble_eq_true rfl) (Nat.le_of_ble_eq_true rfl) rfl rfl (Nat.le_of_ble_eq_true rfl) dX3_off_1 (fun z1 s1 => ?_)
    refine rr_if_ne hG 10 dX3_off_4 (by decide) ?_ ?_
    · refine rr_iload_n hG dX3_off_10 rfl 2 rfl ?_
      refine rr_cSi hG [.int p2] (c_X3_isEnd (g_l G) (g_E G) (hG.hE.mono (by decide)) p2 s1) lk_X3_151 sm_X3_isEnd (Nat.le_of_ble_eq_true rfl) (Nat.le_of_ble_eq_true rfl) rfl rfl (Nat.le_of_ble_eq_true rfl) dX3_off_11 (fun z11 s11 => ?_)
      refine rr_if_ne hG 22 dX3_off_14 (by decide) ?_ ?_
      · refine rr_iload_n hG dX3_off_22 rfl 2 rfl ?_
        refine rr_if_ne hG 35 dX3_off_23 (by decide) ?_ ?_
        · refine rr_aload_n hG dX3_off_35 rfl 0 rfl ?_
          refine gf_X3_26 hG (by decide) dX3_off_36 ?_
          refine rr_iload_n hG dX3_off_39 rfl 1 rfl ?_
          refine rr_iald hG rfl (by decide) dX3_off_40 (fun z40 => ?_)
          exact rr_iret hG ho dX3_off_41
        · refine rr_aload_n hG dX3_off_26 rfl 0 rfl ?_
          refine gf_X3_23 hG (by decide) dX3_off_27 ?_
          refine rr_iload_n hG dX3_off_30 rfl 1 rfl ?_
          refine rr_iald hG rfl (by decide) dX3_off_31 (fun z31 => ?_)
          refine rr_goto (tgt := 41) hG dX3_off_32 (by decide) ?_
          exact rr_iret hG ho dX3_off_41
      · refine rr_ldc (v := (-100000002)) hG kc_X3_154 dX3_off_17 ?_
        refine rr_goto (tgt := 41) hG dX3_off_19 (by decide) ?_
        exact rr_iret hG ho dX3_off_41
    · refine rr_ldc (v := (-100000001)) hG kc_X3_150 dX3_off_7 ?_
      exact rr_iret hG ho dX3_off_9
  exact h
set_option maxRecDepth 100000 in
set_option maxHeartbeats 4000000 in
theorem c_X3_rate (l : Launch) (E : bd_E) (hE : bd_ok E 85) (p1 : Int32) (s_ : bd_S) : bd_M bd_Qi l yX3_rate cX3_rate 2 (some .int) 2 42 E [.ref (bd_ad E 55), .int p1] s_ (f_X3_rate p1 s_) := by
  refine bd_open bd_Qi (by decide +kernel) hE (Nat.le_of_ble_eq_true rfl) (fun G out hG hGE hGl ho => ?_)
  subst hGE
  have hG : bd_OK G cX3_rate 2 RX3 85 2 42 (some .int) := hG
  have h : bd_WF G out (f_X3_rate p1 s_) s_ 0 [(0, .ref (bd_ad (g_E G) 55)), (1, .int p1)] [] := by
    unfold f_X3_rate
    refine rr_iload_n hG dX3_rate_0 rfl 1 rfl ?_
    refine rr_cSi hG [.int p1] (c_X3_isEnd (g_l G) (g_E G) (hG.hE.mono (by decide)) p1 s_) lk_X3_151 sm_X3_isEnd (Nat.le_of_ble_eq_true rfl) (Nat.le_of_ble_eq_true rfl) rfl rfl (Nat.le_of_ble_eq_true rfl) dX3_rate_1 (fun z1 s1 => ?_)
    refine rr_if_ne hG 12 dX3_rate_4 (by decide) ?_ ?_
    · refine rr_iload_n hG dX3_rate_12 rfl 1 rfl ?_
      refine rr_if_ne hG 26 dX3_rate_13 (by decide) ?_ ?_
      · refine rr_aload_n hG dX3_rate_26 rfl 0 rfl ?_
        refine gf_X3_26 hG (by decide) dX3_rate_27 ?_
        refine rr_bipush (v := 20) hG dX3_rate_30 (by decide) ?_
        refine rr_iald hG rfl (by decide) dX3_rate_32 (fun z32 => ?_)
        exact rr_iret hG ho dX3_rate_33
      · refine rr_aload_n hG dX3_rate_16 rfl 0 rfl ?_
        refine gf_X3_23 hG (by decide) dX3_rate_17 ?_
        refine rr_bipush (v := 20) hG dX3_rate_20 (by decide) ?_
        refine rr_iald hG rfl (by decide) dX3_rate_22 (fun z22 => ?_)
        refine rr_goto (tgt := 33) hG dX3_rate_23 (by decide) ?_
        exact rr_iret hG ho dX3_rate_33
    · refine rr_ldc (v := (-100000002)) hG kc_X3_154 dX3_rate_7 ?_
      refine rr_goto (tgt := 33) hG dX3_rate_9 (by decide) ?_
      exact rr_iret hG ho dX3_rate_33
  exact h
set_option maxRecDepth 100000 in
set_option maxHeartbeats 4000000 in
theorem c_X3_slow (l : Launch) (E : bd_E) (hE : bd_ok E 85) (p1 : Int32) (p2 : Int32) (p3 : Int32) (s_ : bd_S) : bd_M bd_Qi l yX3_slow cX3_slow 5 (some .int) 1 22 E [.ref (bd_ad E 55), .int p1, .int p2, .int p3] s_ (f_X3_slow p1 p2 p3 s_) := by
  refine bd_open bd_Qi (by decide +kernel) hE (Nat.le_of_ble_eq_true rfl) (fun G out hG hGE hGl ho => ?_)
  subst hGE
  have hG : bd_OK G cX3_slow 5 RX3 85 1 22 (some .int) := hG
  have h : bd_WF G out (f_X3_slow p1 p2 p3 s_) s_ 0 [(0, .ref (bd_ad (g_E G) 55)), (1, .int p1), (2, .int p2), (3, .int p3)] [] := by
    unfold f_X3_slow
    refine rr_iload_n hG dX3_slow_0 rfl 1 rfl ?_
    refine rr_iconst (v := 0) hG dX3_slow_1 (by decide) ?_
    refine rr_iconst (v := 1) hG dX3_slow_2 (by decide) ?_
    refine rr_cSi hG [.int p1, .int 0, .int 1] (c_X3_in (g_l G) (g_E G) (hG.hE.mono (by decide)) p1 0 1 s_) lk_X3_111 sm_X3_in (Nat.le_of_ble_eq_true rfl) (Nat.le_of_ble_eq_true rfl) rfl rfl (Nat.le_of_ble_eq_true rfl) dX3_slow_3 (fun z3 s3 => ?_)
    refine rr_if_eq hG 29 dX3_slow_6 (by decide) ?_ ?_
    · refine rr_bipush (v := (-2)) hG dX3_slow_29 (by decide) ?_
      exact rr_iret hG ho dX3_slow_31
    · refine rr_iload_n hG dX3_slow_9 rfl 2 rfl ?_
      refine rr_iconst (v := 0) hG dX3_slow_10 (by decide) ?_
      refine rr_bipush (v := 50) hG dX3_slow_11 (by decide) ?_
      refine rr_cSi hG [.int p2, .int 0, .int 50] (c_X3_in (g_l G) (g_E G) (hG.hE.mono (by decide)) p2 0 50 s3) lk_X3_111 sm_X3_in (Nat.le_of_ble_eq_true rfl) (Nat.le_of_ble_eq_true rfl) rfl rfl (Nat.le_of_ble_eq_true rfl) dX3_slow_13 (fun z13 s13 => ?_)
      refine rr_if_eq hG 29 dX3_slow_16 (by decide) ?_ ?_
      · refine rr_bipush (v := (-2)) hG dX3_slow_29 (by decide) ?_
        exact rr_iret hG ho dX3_slow_31
      · refine rr_iload_n hG dX3_slow_19 rfl 3 rfl ?_
        refine rr_iload_n hG dX3_slow_20 rfl 2 rfl ?_
        refine rr_bipush (v := 50) hG dX3_slow_21 (by decide) ?_
        refine rr_cSi hG [.int p3, .int p2, .int 50] (c_X3_in (g_l G) (g_E G) (hG.hE.mono (by decide)) p3 p2 50 s13) lk_X3_111 sm_X3_in (Nat.le_of_ble_eq_true rfl) (Nat.le_of_ble_eq_true rfl) rfl rfl (Nat.le_of_ble_eq_true rfl) dX3_slow_23 (fun z23 s23 => ?_)
        refine rr_if_ne hG 32 dX3_slow_26 (by decide) ?_ ?_
        · refine rr_bipush (v := 100) hG dX3_slow_32 (by decide) ?_
          refine rr_aload_n hG dX3_slow_34 rfl 0 rfl ?_
          refine gf_X3_29 hG (by decide) dX3_slow_35 ?_
          refine rr_iload_n hG dX3_slow_38 rfl 1 rfl ?_
          refine rr_iald hG rfl (by decide) dX3_slow_39 (fun z39 => ?_)
          refine rr_imul hG dX3_slow_40 (fun z40 => ?_)
          refine rr_aload_n hG dX3_slow_41 rfl 0 rfl ?_
          refine gf_X3_32 hG (by decide) dX3_slow_42 ?_
          refine rr_iload_n hG dX3_slow_45 rfl 1 rfl ?_
          refine rr_iald hG rfl (by decide) dX3_slow_46 (fun z46 => ?_)
          refine rr_iadd hG dX3_slow_47 (fun z47 => ?_)
          refine rr_istore (lr := [(0, .ref (bd_ad (g_E G) 55)), (1, .int p1), (2, .int p2), (3, .int p3)]) hG dX3_slow_48 (by decide) rfl ?_
          refine rr_aload_n hG dX3_slow_50 rfl 1 rfl ?_
          refine gf_X3_29 hG (by decide) dX3_slow_51 ?_
          refine rr_iload_n hG dX3_slow_54 rfl 2 rfl ?_
          refine rr_iload_n hG dX3_slow_55 rfl 3 rfl ?_
          refine rr_iast hG rfl (by decide) dX3_slow_56 (fun s56 => ?_)
          refine rr_aload_n hG dX3_slow_57 rfl 1 rfl ?_
          refine gf_X3_32 hG (by decide) dX3_slow_58 ?_
          refine rr_iload_n hG dX3_slow_61 rfl 2 rfl ?_
          refine rr_iload_n hG dX3_slow_62 rfl 4 rfl ?_
          refine rr_iast hG rfl (by decide) dX3_slow_63 (fun s63 => ?_)
          refine rr_iload hG dX3_slow_64 0 rfl ?_
          exact rr_iret hG ho dX3_slow_66
        · refine rr_bipush (v := (-2)) hG dX3_slow_29 (by decide) ?_
          exact rr_iret hG ho dX3_slow_31
  exact h
set_option maxRecDepth 100000 in
set_option maxHeartbeats 4000000 in
theorem c_X3_slip (l : Launch) (E : bd_E) (hE : bd_ok E 85) (p1 : Int32) (p2 : Int32) (s_ : bd_S) : bd_M bd_Qi l yX3_slip cX3_slip 4 (some .int) 2 42 E [.ref (bd_ad E 55), .int p1, .int p2] s_ (f_X3_slip p1 p2 s_) := by
  refine bd_open bd_Qi (by decide +kernel) hE (Nat.le_of_ble_eq_true rfl) (fun G out hG hGE hGl ho => ?_)
  subst hGE
  have hG : bd_OK G cX3_slip 4 RX3 85 2 42 (some .int) := hG
  have h : bd_WF G out (f_X3_slip p1 p2 s_) s_ 0 [(0, .ref (bd_ad (g_E G) 55)), (1, .int p1), (2, .int p2)] [] := by
    unfold f_X3_slip
    refine rr_iload_n hG dX3_slip_0 rfl 1 rfl ?_
    refine rr_cSi hG [.int p1] (c_X3_isDay (g_l G) (g_E G) (hG.hE.mono (by decide)) p1 s_) lk_X3_146 sm_X3_isDay (Nat.le_of_ble_eq_true rfl) (Nat.le_of_ble_eq_true rfl) rfl rfl (Nat.le_of_ble_eq_true rfl) dX3_slip_1 (fun z1 s1 => ?_)
    refine rr_if_ne hG 10 dX3_slip_4 (by decide) ?_ ?_
    · refine rr_iload_n hG dX3_slip_10 rfl 2 rfl ?_
      refine rr_bipush (v := (-60)) hG dX3_slip_11 (by decide) ?_
      refine rr_bipush (v := 60) hG dX3_slip_13 (by decide) ?_
      refine rr_cSi hG [.int p2, .int (-60), .int 60] (c_X3_in (g_l G) (g_E G) (hG.hE.mono (by decide)) p2 (-60) 60 s1) lk_X3_111 sm_X3_in (Nat.le_of_ble_eq_true rfl) (Nat.le_of_ble_eq_true rfl) rfl rfl (Nat.le_of_ble_eq_true rfl) dX3_slip_15 (fun z15 s15 => ?_)
      refine rr_if_ne hG 24 dX3_slip_18 (by decide) ?_ ?_
      · refine rr_aload_n hG dX3_slip_24 rfl 0 rfl ?_
        refine gf_X3_35 hG (by decide) dX3_slip_25 ?_
        refine rr_iload_n hG dX3_slip_28 rfl 1 rfl ?_
        refine rr_iald hG rfl (by decide) dX3_slip_29 (fun z29 => ?_)
        refine rr_istore_n (lr := [(0, .ref (bd_ad (g_E G) 55)), (1, .int p1), (2, .int p2)]) hG dX3_slip_30 rfl (by decide) rfl ?_
        refine rr_aload_n hG dX3_slip_31 rfl 1 rfl ?_
        refine gf_X3_35 hG (by decide) dX3_slip_32 ?_
        refine rr_iload_n hG dX3_slip_35 rfl 2 rfl ?_
        refine rr_iload_n hG dX3_slip_36 rfl 3 rfl ?_
        refine rr_iast hG rfl (by decide) dX3_slip_37 (fun s37 => ?_)
        refine rr_iload_n hG dX3_slip_38 rfl 0 rfl ?_
        exact rr_iret hG ho dX3_slip_39
      · refine rr_ldc (v := (-100000002)) hG kc_X3_154 dX3_slip_21 ?_
        exact rr_iret hG ho dX3_slip_23
    · refine rr_ldc (v := (-100000001)) hG kc_X3_150 dX3_slip_7 ?_
      exact rr_iret hG ho dX3_slip_9
  exact h
set_option maxRecDepth 100000 in
set_option maxHeartbeats 4000000 in
theorem c_X3_back (l : Launch) (E : bd_E) (hE : bd_ok E 85) (p1 : Int32) (p2 : Int32) (s_ : bd_S) : bd_M bd_Qi l yX3_back cX3_back 4 (some .int) 2 42 E [.ref (bd_ad E 55), .int p1, .int p2] s_ (f_X3_back p1 p2 s_) := by
  refine bd_open bd_Qi (by decide +kernel) hE (Nat.le_of_ble_eq_true rfl) (fun G out hG hGE hGl ho => ?_)
  subst hGE
  have hG : bd_OK G cX3_back 4 RX3 85 2 42 (some .int) := hG
  have h : bd_WF G out (f_X3_back p1 p2 s_) s_ 0 [(0, .ref (bd_ad (g_E G) 55)), (1, .int p1), (2, .int p2)] [] := by
    unfold f_X3_back
    refine rr_iload_n hG dX3_back_0 rfl 1 rfl ?_
    refine rr_cSi hG [.int p1] (c_X3_isDay (g_l G) (g_E G) (hG.hE.mono (by decide)) p1 s_) lk_X3_146 sm_X3_isDay (Nat.le_of_ble_eq_true rfl) (Nat.le_of_ble_eq_true rfl) rfl rfl (Nat.le_of_ble_eq_true rfl) dX3_back_1 (fun z1 s1 => ?_)
    refine rr_if_ne hG 9 dX3_back_4 (by decide) ?_ ?_
    · refine rr_aload_n hG dX3_back_9 rfl 0 rfl ?_
      refine gf_X3_38 hG (by decide) dX3_back_10 ?_
      refine rr_iload_n hG dX3_back_13 rfl 1 rfl ?_
      refine rr_zald hG rfl (by decide) dX3_back_14 (fun z14 => ?_)
      refine rr_if_eq hG 22 dX3_back_15 (by decide) ?_ ?_
      · refine rr_iconst (v := 0) hG dX3_back_22 (by decide) ?_
        refine rr_istore_n (lr := [(0, .ref (bd_ad (g_E G) 55)), (1, .int p1), (2, .int p2)]) hG dX3_back_23 rfl (by decide) rfl ?_
        refine rr_aload_n hG dX3_back_24 rfl 1 rfl ?_
        refine gf_X3_38 hG (by decide) dX3_back_25 ?_
        refine rr_iload_n hG dX3_back_28 rfl 2 rfl ?_
        refine rr_iload_n hG dX3_back_29 rfl 3 rfl ?_
        refine rr_zast hG rfl (by decide) dX3_back_30 (fun s30 => ?_)
        refine rr_iload_n hG dX3_back_31 rfl 0 rfl ?_
        exact rr_iret hG ho dX3_back_32
      · refine rr_iconst (v := 1) hG dX3_back_18 (by decide) ?_
        refine rr_goto (tgt := 23) hG dX3_back_19 (by decide) ?_
        refine rr_istore_n (lr := [(0, .ref (bd_ad (g_E G) 55)), (1, .int p1), (2, .int p2)]) hG dX3_back_23 rfl (by decide) rfl ?_
        refine rr_aload_n hG dX3_back_24 rfl 1 rfl ?_
        refine gf_X3_38 hG (by decide) dX3_back_25 ?_
        refine rr_iload_n hG dX3_back_28 rfl 2 rfl ?_
        refine rr_iload_n hG dX3_back_29 rfl 3 rfl ?_
        refine rr_zast hG rfl (by decide) dX3_back_30 (fun s30 => ?_)
        refine rr_iload_n hG dX3_back_31 rfl 0 rfl ?_
        exact rr_iret hG ho dX3_back_32
    · refine rr_iconst (v := (-1)) hG dX3_back_7 (by decide) ?_
      exact rr_iret hG ho dX3_back_8
  exact h
set_option maxRecDepth 100000 in
set_option maxHeartbeats 4000000 in
theorem b_X3_lateOf_65 {G : bd_G} {out : Int32 × bd_S} (hG : bd_OK G cX3_lateOf 5 RX3 85 1 22 (some .int)) (ho : bd_ends bd_Qi G out) (x3 : Int32) (x1 : Int32) (t0 : Int32) (s_ : bd_S) : bd_WF G out (f_X3_lateOf_65 x3 x1 t0 s_) s_ 65 [(3, .int x3), (0, .ref (bd_ad (g_E G) 55)), (1, .int x1)] [.int t0] := by
  unfold f_X3_lateOf_65
  refine rr_istore (lr := [(3, .int x3), (0, .ref (bd_ad (g_E G) 55)), (1, .int x1)]) hG dX3_lateOf_65 (by decide) rfl ?_
  refine rr_iload_n hG dX3_lateOf_67 rfl 1 rfl ?_
  refine rr_iload hG dX3_lateOf_68 0 rfl ?_
  refine rr_iadd hG dX3_lateOf_70 (fun z70 => ?_)
  refine rr_aload_n hG dX3_lateOf_71 rfl 2 rfl ?_
  refine gf_X3_35 hG (by decide) dX3_lateOf_72 ?_
  refine rr_iload_n hG dX3_lateOf_75 rfl 3 rfl ?_
  refine rr_iald hG rfl (by decide) dX3_lateOf_76 (fun z76 => ?_)
  refine rr_iadd hG dX3_lateOf_77 (fun z77 => ?_)
  exact rr_iret hG ho dX3_lateOf_78
set_option maxRecDepth 100000 in
set_option maxHeartbeats 4000000 in
theorem c_X3_lateOf (l : Launch) (E : bd_E) (hE : bd_ok E 85) (p1 : Int32) (p2 : Int32) (s_ : bd_S) : bd_M bd_Qi l yX3_lateOf cX3_lateOf 5 (some .int) 1 22 E [.ref (bd_ad E 55), .int p1, .int p2] s_ (f_X3_lateOf p1 p2 s_) := by
  refine bd_open bd_Qi (by decide +kernel) hE (Nat.le_of_ble_eq_true rfl) (fun G out hG hGE hGl ho => ?_)
  subst hGE
  have hG : bd_OK G cX3_lateOf 5 RX3 85 1 22 (some .int) := hG
  have h : bd_WF G out (f_X3_lateOf p1 p2 s_) s_ 0 [(0, .ref (bd_ad (g_E G) 55)), (1, .int p1), (2, .int p2)] [] := by
    unfold f_X3_lateOf
    refine rr_aload_n hG dX3_lateOf_0 rfl 0 rfl ?_
    refine gf_X3_23 hG (by decide) dX3_lateOf_1 ?_
    refine rr_iload_n hG dX3_lateOf_4 rfl 1 rfl ?_
    refine rr_iald hG rfl (by decide) dX3_lateOf_5 (fun z5 => ?_)
    refine rr_aload_n hG dX3_lateOf_6 rfl 0 rfl ?_
    refine gf_X3_26 hG (by decide) dX3_lateOf_7 ?_
    refine rr_iload_n hG dX3_lateOf_10 rfl 1 rfl ?_
    refine rr_iald hG rfl (by decide) dX3_lateOf_11 (fun z11 => ?_)
    refine rr_iadd hG dX3_lateOf_12 (fun z12 => ?_)
    refine rr_iconst (v := 2) hG dX3_lateOf_13 (by decide) ?_
    refine rr_cSi hG [.int z12, .int 2] (c_X3_down (g_l G) (g_E G) (hG.hE.mono (by decide)) z12 2 s_) lk_X3_118 sm_X3_down (Nat.le_of_ble_eq_true rfl) (Nat.le_of_ble_eq_true rfl) rfl rfl (Nat.le_of_ble_eq_true rfl) dX3_lateOf_14 (fun z14 s14 => ?_)
    refine rr_istore_n (lr := [(0, .ref (bd_ad (g_E G) 55)), (1, .int p1), (2, .int p2)]) hG dX3_lateOf_17 rfl (by decide) rfl ?_
    refine rr_iload_n hG dX3_lateOf_18 rfl 3 rfl ?_
    refine rr_if_ne hG 45 dX3_lateOf_19 (by decide) ?_ ?_
    · refine rr_aload_n hG dX3_lateOf_45 rfl 1 rfl ?_
      refine gf_X3_32 hG (by decide) dX3_lateOf_46 ?_
      refine rr_iconst (v := 0) hG dX3_lateOf_49 (by decide) ?_
      refine rr_iald hG rfl (by decide) dX3_lateOf_50 (fun z50 => ?_)
      refine rr_aload_n hG dX3_lateOf_51 rfl 1 rfl ?_
      refine gf_X3_32 hG (by decide) dX3_lateOf_52 ?_
      refine rr_iconst (v := 1) hG dX3_lateOf_55 (by decide) ?_
      refine rr_iald hG rfl (by decide) dX3_lateOf_56 (fun z56 => ?_)
      refine rr_iadd hG dX3_lateOf_57 (fun z57 => ?_)
      refine rr_aload_n hG dX3_lateOf_58 rfl 1 rfl ?_
      refine gf_X3_23 hG (by decide) dX3_lateOf_59 ?_
      refine rr_iload_n hG dX3_lateOf_62 rfl 2 rfl ?_
      refine rr_iald hG rfl (by decide) dX3_lateOf_63 (fun z63 => ?_)
      refine rr_isub hG dX3_lateOf_64 (fun z64 => ?_)
      exact rr_sub [0, 1, 2] rfl (b_X3_lateOf_65 hG ho z14 p1 z64 s14)
    · refine rr_aload_n hG dX3_lateOf_22 rfl 1 rfl ?_
      refine gf_X3_29 hG (by decide) dX3_lateOf_23 ?_
      refine rr_iconst (v := 0) hG dX3_lateOf_26 (by decide) ?_
      refine rr_iald hG rfl (by decide) dX3_lateOf_27 (fun z27 => ?_)
      refine rr_aload_n hG dX3_lateOf_28 rfl 1 rfl ?_
      refine gf_X3_29 hG (by decide) dX3_lateOf_29 ?_
      refine rr_iconst (v := 1) hG dX3_lateOf_32 (by decide) ?_
      refine rr_iald hG rfl (by decide) dX3_lateOf_33 (fun z33 => ?_)
      refine rr_iadd hG dX3_lateOf_34 (fun z34 => ?_)
      refine rr_aload_n hG dX3_lateOf_35 rfl 1 rfl ?_
      refine gf_X3_26 hG (by decide) dX3_lateOf_36 ?_
      refine rr_iload_n hG dX3_lateOf_39 rfl 2 rfl ?_
      refine rr_iald hG rfl (by decide) dX3_lateOf_40 (fun z40 => ?_)
      refine rr_isub hG dX3_lateOf_41 (fun z41 => ?_)
      refine rr_goto (tgt := 65) hG dX3_lateOf_42 (by decide) ?_
      exact rr_sub [0, 1, 2] rfl (b_X3_lateOf_65 hG ho z14 p1 z41 s14)
  exact h
set_option maxRecDepth 100000 in
set_option maxHeartbeats 4000000 in
theorem c_X3_late (l : Launch) (E : bd_E) (hE : bd_ok E 85) (p1 : Int32) (p2 : Int32) (s_ : bd_S) : bd_M bd_Qi l yX3_late cX3_late 3 (some .int) 2 46 E [.ref (bd_ad E 55), .int p1, .int p2] s_ (f_X3_late p1 p2 s_) := by
  refine bd_open bd_Qi (by decide +kernel) hE (Nat.le_of_ble_eq_true rfl) (fun G out hG hGE hGl ho => ?_)
  subst hGE
  have hG : bd_OK G cX3_late 3 RX3 85 2 46 (some .int) := hG
  have h : bd_WF G out (f_X3_late p1 p2 s_) s_ 0 [(0, .ref (bd_ad (g_E G) 55)), (1, .int p1), (2, .int p2)] [] := by
    unfold f_X3_late
    refine rr_iload_n hG dX3_late_0 rfl 1 rfl ?_
    refine rr_cSi hG [.int p1] (c_X3_isDay (g_l G) (g_E G) (hG.hE.mono (by decide)) p1 s_) lk_X3_146 sm_X3_isDay (Nat.le_of_ble_eq_true rfl) (Nat.le_of_ble_eq_true rfl) rfl rfl (Nat.le_of_ble_eq_true rfl) dX3_late_1 (fun z1 s1 => ?_)
    refine rr_if_ne hG 10 dX3_late_4 (by decide) ?_ ?_
    · refine rr_iload_n hG dX3_late_10 rfl 2 rfl ?_
      refine rr_cSi hG [.int p2] (c_X3_isEnd (g_l G) (g_E G) (hG.hE.mono (by decide)) p2 s1) lk_X3_151 sm_X3_isEnd (Nat.le_of_ble_eq_true rfl) (Nat.le_of_ble_eq_true rfl) rfl rfl (Nat.le_of_ble_eq_true rfl) dX3_late_11 (fun z11 s11 => ?_)
      refine rr_if_eq hG 26 dX3_late_14 (by decide) ?_ ?_
      · refine rr_ldc (v := (-100000002)) hG kc_X3_154 dX3_late_26 ?_
        exact rr_iret hG ho dX3_late_28
      · refine rr_aload_n hG dX3_late_17 rfl 0 rfl ?_
        refine rr_iload_n hG dX3_late_18 rfl 1 rfl ?_
        refine rr_iload_n hG dX3_late_19 rfl 2 rfl ?_
        refine rr_cVi hG [.int p1, .int p2] (c_X3_lateOf (g_l G) (g_E G) (hG.hE.mono (by decide)) p1 p2 s11) lk_X3_155 im_X3_lateOf se_X3_lateOf rfl (by decide) (by decide) rfl rfl (Nat.le_of_ble_eq_true rfl) (Nat.le_of_ble_eq_true rfl) rfl rfl (Nat.le_of_ble_eq_true rfl) dX3_late_20 (fun z20 s20 => ?_)
        refine rr_goto (tgt := 28) hG dX3_late_23 (by decide) ?_
        exact rr_iret hG ho dX3_late_28
    · refine rr_ldc (v := (-100000001)) hG kc_X3_150 dX3_late_7 ?_
      exact rr_iret hG ho dX3_late_9
  exact h
set_option maxRecDepth 100000 in
set_option maxHeartbeats 4000000 in
theorem c_X3_ship (l : Launch) (E : bd_E) (hE : bd_ok E 85) (s_ : bd_S) : bd_M bd_Qi l yX3_ship cX3_ship 1 (some .int) 0 0 E [.ref (bd_ad E 55)] s_ (f_X3_ship s_) := by
  refine bd_open bd_Qi (by decide +kernel) hE (Nat.le_of_ble_eq_true rfl) (fun G out hG hGE hGl ho => ?_)
  subst hGE
  have hG : bd_OK G cX3_ship 1 RX3 85 0 0 (some .int) := hG
  have h : bd_WF G out (f_X3_ship  s_) s_ 0 [(0, .ref (bd_ad (g_E G) 55))] [] := by
    unfold f_X3_ship
    refine rr_aload_n hG dX3_ship_0 rfl 0 rfl ?_
    refine gf_X3_115 hG (by decide) dX3_ship_1 (fun z1 => ?_)
    refine rr_iconst (v := 4) hG dX3_ship_4 (by decide) ?_
    refine rr_icmp_ne hG 11 dX3_ship_5 (by decide) ?_ ?_
    · refine rr_aload_n hG dX3_ship_11 rfl 0 rfl ?_
      refine gf_X3_45 hG (by decide) dX3_ship_12 ?_
      refine rr_aload_n hG dX3_ship_15 rfl 0 rfl ?_
      refine gf_X3_115 hG (by decide) dX3_ship_16 (fun z16 => ?_)
      refine rr_iconst (v := 0) hG dX3_ship_19 (by decide) ?_
      refine rr_iast hG rfl (by decide) dX3_ship_20 (fun s20 => ?_)
      refine rr_aload_n hG dX3_ship_21 rfl 0 rfl ?_
      refine rr_dup hG dX3_ship_22 rfl ?_
      refine gf_X3_115 hG (by decide) dX3_ship_23 (fun z23 => ?_)
      refine rr_iconst (v := 1) hG dX3_ship_26 (by decide) ?_
      refine rr_iadd hG dX3_ship_27 (fun z27 => ?_)
      refine pf_X3_115 hG (by decide) dX3_ship_28 (fun s28 => ?_)
      refine rr_aload_n hG dX3_ship_31 rfl 0 rfl ?_
      refine gf_X3_115 hG (by decide) dX3_ship_32 (fun z32 => ?_)
      refine rr_iconst (v := 1) hG dX3_ship_35 (by decide) ?_
      refine rr_isub hG dX3_ship_36 (fun z36 => ?_)
      exact rr_iret hG ho dX3_ship_37
    · refine rr_bipush (v := (-4)) hG dX3_ship_8 (by decide) ?_
      exact rr_iret hG ho dX3_ship_10
  exact h
set_option maxRecDepth 100000 in
set_option maxHeartbeats 4000000 in
theorem c_X3_mark (l : Launch) (E : bd_E) (hE : bd_ok E 85) (p1 : Int32) (p2 : Int32) (p3 : Int32) (p4 : Int32) (p5 : Int32) (p6 : Int32) (s_ : bd_S) : bd_M bd_Qi l yX3_mark cX3_mark 8 (some .int) 0 0 E [.ref (bd_ad E 55), .int p1, .int p2, .int p3, .int p4, .int p5, .int p6] s_ (f_X3_mark p1 p2 p3 p4 p5 p6 s_) := by
  refine bd_open bd_Qi (by decide +kernel) hE (Nat.le_of_ble_eq_true rfl) (fun G out hG hGE hGl ho => ?_)
  subst hGE
  have hG : bd_OK G cX3_mark 8 RX3 85 0 0 (some .int) := hG
  have h : bd_WF G out (f_X3_mark p1 p2 p3 p4 p5 p6 s_) s_ 0 [(0, .ref (bd_ad (g_E G) 55)), (1, .int p1), (2, .int p2), (3, .int p3), (4, .int p4), (5, .int p5), (6, .int p6)] [] := by
    unfold f_X3_mark
    refine rr_aload_n hG dX3_mark_0 rfl 0 rfl ?_
    refine gf_X3_45 hG (by decide) dX3_mark_1 ?_
    refine rr_iload_n hG dX3_mark_4 rfl 1 rfl ?_
    refine rr_iald hG rfl (by decide) dX3_mark_5 (fun z5 => ?_)
    refine rr_bipush (v := 12) hG dX3_mark_6 (by decide) ?_
    refine rr_icmp_ne hG 14 dX3_mark_8 (by decide) ?_ ?_
    · refine rr_bipush (v := 12) hG dX3_mark_14 (by decide) ?_
      refine rr_iload_n hG dX3_mark_16 rfl 1 rfl ?_
      refine rr_imul hG dX3_mark_17 (fun z17 => ?_)
      refine rr_aload_n hG dX3_mark_18 rfl 0 rfl ?_
      refine gf_X3_45 hG (by decide) dX3_mark_19 ?_
      refine rr_iload_n hG dX3_mark_22 rfl 1 rfl ?_
      refine rr_iald hG rfl (by decide) dX3_mark_23 (fun z23 => ?_)
      refine rr_iadd hG dX3_mark_24 (fun z24 => ?_)
      refine rr_istore (lr := [(0, .ref (bd_ad (g_E G) 55)), (1, .int p1), (2, .int p2), (3, .int p3), (4, .int p4), (5, .int p5), (6, .int p6)]) hG dX3_mark_25 (by decide) rfl ?_
      refine rr_aload_n hG dX3_mark_27 rfl 1 rfl ?_
      refine gf_X3_48 hG (by decide) dX3_mark_28 ?_
      refine rr_iload hG dX3_mark_31 0 rfl ?_
      refine rr_iload_n hG dX3_mark_33 rfl 3 rfl ?_
      refine rr_iast hG rfl (by decide) dX3_mark_34 (fun s34 => ?_)
      refine rr_aload_n hG dX3_mark_35 rfl 1 rfl ?_
      refine gf_X3_51 hG (by decide) dX3_mark_36 ?_
      refine rr_iload hG dX3_mark_39 0 rfl ?_
      refine rr_iload_n hG dX3_mark_41 rfl 4 rfl ?_
      refine rr_iast hG rfl (by decide) dX3_mark_42 (fun s42 => ?_)
      refine rr_aload_n hG dX3_mark_43 rfl 1 rfl ?_
      refine gf_X3_54 hG (by decide) dX3_mark_44 ?_
      refine rr_iload hG dX3_mark_47 0 rfl ?_
      refine rr_iload hG dX3_mark_49 5 rfl ?_
      refine rr_iast hG rfl (by decide) dX3_mark_51 (fun s51 => ?_)
      refine rr_aload_n hG dX3_mark_52 rfl 1 rfl ?_
      refine gf_X3_57 hG (by decide) dX3_mark_53 ?_
      refine rr_iload hG dX3_mark_56 0 rfl ?_
      refine rr_iload hG dX3_mark_58 6 rfl ?_
      refine rr_iast hG rfl (by decide) dX3_mark_60 (fun s60 => ?_)
      refine rr_aload_n hG dX3_mark_61 rfl 1 rfl ?_
      refine gf_X3_60 hG (by decide) dX3_mark_62 ?_
      refine rr_iload hG dX3_mark_65 0 rfl ?_
      refine rr_iload hG dX3_mark_67 7 rfl ?_
      refine rr_iast hG rfl (by decide) dX3_mark_69 (fun s69 => ?_)
      refine rr_aload_n hG dX3_mark_70 rfl 1 rfl ?_
      refine gf_X3_45 hG (by decide) dX3_mark_71 ?_
      refine rr_iload_n hG dX3_mark_74 rfl 2 rfl ?_
      refine rr_dup2 hG dX3_mark_75 rfl rfl ?_
      refine rr_iald hG rfl (by decide) dX3_mark_76 (fun z76 => ?_)
      refine rr_iconst (v := 1) hG dX3_mark_77 (by decide) ?_
      refine rr_iadd hG dX3_mark_78 (fun z78 => ?_)
      refine rr_iast hG rfl (by decide) dX3_mark_79 (fun s79 => ?_)
      refine rr_aload_n hG dX3_mark_80 rfl 1 rfl ?_
      refine gf_X3_45 hG (by decide) dX3_mark_81 ?_
      refine rr_iload_n hG dX3_mark_84 rfl 2 rfl ?_
      refine rr_iald hG rfl (by decide) dX3_mark_85 (fun z85 => ?_)
      exact rr_iret hG ho dX3_mark_86
    · refine rr_bipush (v := (-4)) hG dX3_mark_11 (by decide) ?_
      exact rr_iret hG ho dX3_mark_13
  exact h
set_option maxRecDepth 100000 in
set_option maxHeartbeats 4000000 in
theorem c_X3_isOne (l : Launch) (E : bd_E) (hE : bd_ok E 85) (p1 : Int32) (p2 : Int32) (p3 : Int32) (s_ : bd_S) : bd_M bd_Qi l yX3_isOne cX3_isOne 4 (some .boolean) 2 43 E [.ref (bd_ad E 55), .int p1, .int p2, .int p3] s_ (f_X3_isOne p1 p2 p3 s_) := by
  refine bd_open bd_Qi (by decide +kernel) hE (Nat.le_of_ble_eq_true rfl) (fun G out hG hGE hGl ho => ?_)
  subst hGE
  have hG : bd_OK G cX3_isOne 4 RX3 85 2 43 (some .boolean) := hG
  have h : bd_WF G out (f_X3_isOne p1 p2 p3 s_) s_ 0 [(0, .ref (bd_ad (g_E G) 55)), (1, .int p1), (2, .int p2), (3, .int p3)] [] := by
    unfold f_X3_isOne
    refine rr_aload_n hG dX3_isOne_0 rfl 0 rfl ?_
    refine rr_iload_n hG dX3_isOne_1 rfl 1 rfl ?_
    refine rr_cVi hG [.int p1] (c_X3_isShip (g_l G) (g_E G) (hG.hE.mono (by decide)) p1 s_) lk_X3_158 im_X3_isShip se_X3_isShip rfl (by decide) (by decide) rfl rfl (Nat.le_of_ble_eq_true rfl) (Nat.le_of_ble_eq_true rfl) rfl rfl (Nat.le_of_ble_eq_true rfl) dX3_isOne_2 (fun z2 s2 => ?_)
    refine rr_if_eq hG 26 dX3_isOne_5 (by decide) ?_ ?_
    · refine rr_iconst (v := 0) hG dX3_isOne_26 (by decide) ?_
      exact rr_zret hG ho dX3_isOne_27
    · refine rr_iload_n hG dX3_isOne_8 rfl 2 rfl ?_
      refine rr_cSi hG [.int p2] (c_X3_isClock (g_l G) (g_E G) (hG.hE.mono (by decide)) p2 s2) lk_X3_161 sm_X3_isClock (Nat.le_of_ble_eq_true rfl) (Nat.le_of_ble_eq_true rfl) rfl rfl (Nat.le_of_ble_eq_true rfl) dX3_isOne_9 (fun z9 s9 => ?_)
      refine rr_if_eq hG 26 dX3_isOne_12 (by decide) ?_ ?_
      · refine rr_iconst (v := 0) hG dX3_isOne_26 (by decide) ?_
        exact rr_zret hG ho dX3_isOne_27
      · refine rr_iload_n hG dX3_isOne_15 rfl 3 rfl ?_
        refine rr_cSi hG [.int p3] (c_X3_isDay (g_l G) (g_E G) (hG.hE.mono (by decide)) p3 s9) lk_X3_146 sm_X3_isDay (Nat.le_of_ble_eq_true rfl) (Nat.le_of_ble_eq_true rfl) rfl rfl (Nat.le_of_ble_eq_true rfl) dX3_isOne_16 (fun z16 s16 => ?_)
        refine rr_if_eq hG 26 dX3_isOne_19 (by decide) ?_ ?_
        · refine rr_iconst (v := 0) hG dX3_isOne_26 (by decide) ?_
          exact rr_zret hG ho dX3_isOne_27
        · refine rr_iconst (v := 1) hG dX3_isOne_22 (by decide) ?_
          refine rr_goto (tgt := 27) hG dX3_isOne_23 (by decide) ?_
          exact rr_zret hG ho dX3_isOne_27
  exact h
set_option maxRecDepth 100000 in
set_option maxHeartbeats 4000000 in
theorem b_X3_set_37 {G : bd_G} {out : Int32 × bd_S} (hG : bd_OK G cX3_set 7 RX3 85 3 66 (some .int)) (ho : bd_ends bd_Qi G out) (x1 : Int32) (x2 : Int32) (x3 : Int32) (x4 : Int32) (x5 : Int32) (x6 : Int32) (t0 : Int32) (t1 : Int32) (t2 : Int32) (s_ : bd_S) : bd_WF G out (f_X3_set_37 x1 x2 x3 x4 x5 x6 t0 t1 t2 s_) s_ 37 [(0, .ref (bd_ad (g_E G) 55)), (1, .int x1), (2, .int x2), (3, .int x3), (4, .int x4), (5, .int x5), (6, .int x6)] [.int t0, .int t1, .int t2] := by
  unfold f_X3_set_37
  refine rr_cSi hG [.int t2, .int t1, .int t0] (c_X3_in (g_l G) (g_E G) (hG.hE.mono (by decide)) t2 t1 t0 s_) lk_X3_111 sm_X3_in (Nat.le_of_ble_eq_true rfl) (Nat.le_of_ble_eq_true rfl) rfl rfl (Nat.le_of_ble_eq_true rfl) dX3_set_37 (fun z37 s37 => ?_)
  refine rr_if_eq hG 57 dX3_set_40 (by decide) ?_ ?_
  · refine rr_bipush (v := (-2)) hG dX3_set_57 (by decide) ?_
    exact rr_iret hG ho dX3_set_59
  · refine rr_iload hG dX3_set_43 6 rfl ?_
    refine rr_sipush (v := (-9999)) hG dX3_set_45 (by decide) ?_
    refine rr_sipush (v := 9999) hG dX3_set_48 (by decide) ?_
    refine rr_cSi hG [.int x6, .int (-9999), .int 9999] (c_X3_in (g_l G) (g_E G) (hG.hE.mono (by decide)) x6 (-9999) 9999 s37) lk_X3_111 sm_X3_in (Nat.le_of_ble_eq_true rfl) (Nat.le_of_ble_eq_true rfl) rfl rfl (Nat.le_of_ble_eq_true rfl) dX3_set_51 (fun z51 s51 => ?_)
    refine rr_if_ne hG 60 dX3_set_54 (by decide) ?_ ?_
    · refine rr_aload_n hG dX3_set_60 rfl 0 rfl ?_
      refine rr_iload_n hG dX3_set_61 rfl 1 rfl ?_
      refine rr_iload_n hG dX3_set_62 rfl 2 rfl ?_
      refine rr_iload_n hG dX3_set_63 rfl 3 rfl ?_
      refine rr_iload hG dX3_set_64 4 rfl ?_
      refine rr_iload hG dX3_set_66 5 rfl ?_
      refine rr_iload hG dX3_set_68 6 rfl ?_
      refine rr_cVi hG [.int x1, .int x2, .int x3, .int x4, .int x5, .int x6] (c_X3_mark (g_l G) (g_E G) (hG.hE.mono (by decide)) x1 x2 x3 x4 x5 x6 s51) lk_X3_167 im_X3_mark se_X3_mark rfl (by decide) (by decide) rfl rfl (Nat.le_of_ble_eq_true rfl) (Nat.le_of_ble_eq_true rfl) rfl rfl (Nat.le_of_ble_eq_true rfl) dX3_set_70 (fun z70 s70 => ?_)
      exact rr_iret hG ho dX3_set_73
    · refine rr_bipush (v := (-2)) hG dX3_set_57 (by decide) ?_
      exact rr_iret hG ho dX3_set_59
set_option maxRecDepth 100000 in
set_option maxHeartbeats 4000000 in
theorem c_X3_set (l : Launch) (E : bd_E) (hE : bd_ok E 85) (p1 : Int32) (p2 : Int32) (p3 : Int32) (p4 : Int32) (p5 : Int32) (p6 : Int32) (s_ : bd_S) : bd_M bd_Qi l yX3_set cX3_set 7 (some .int) 3 66 E [.ref (bd_ad E 55), .int p1, .int p2, .int p3, .int p4, .int p5, .int p6] s_ (f_X3_set p1 p2 p3 p4 p5 p6 s_) := by
  refine bd_open bd_Qi (by decide +kernel) hE (Nat.le_of_ble_eq_true rfl) (fun G out hG hGE hGl ho => ?_)
  subst hGE
  have hG : bd_OK G cX3_set 7 RX3 85 3 66 (some .int) := hG
  have h : bd_WF G out (f_X3_set p1 p2 p3 p4 p5 p6 s_) s_ 0 [(0, .ref (bd_ad (g_E G) 55)), (1, .int p1), (2, .int p2), (3, .int p3), (4, .int p4), (5, .int p5), (6, .int p6)] [] := by
    unfold f_X3_set
    refine rr_aload_n hG dX3_set_0 rfl 0 rfl ?_
    refine rr_iload_n hG dX3_set_1 rfl 1 rfl ?_
    refine rr_iload_n hG dX3_set_2 rfl 2 rfl ?_
    refine rr_iload_n hG dX3_set_3 rfl 3 rfl ?_
    refine rr_cVi hG [.int p1, .int p2, .int p3] (c_X3_isOne (g_l G) (g_E G) (hG.hE.mono (by decide)) p1 p2 p3 s_) lk_X3_164 im_X3_isOne se_X3_isOne rfl (by decide) (by decide) rfl rfl (Nat.le_of_ble_eq_true rfl) (Nat.le_of_ble_eq_true rfl) rfl rfl (Nat.le_of_ble_eq_true rfl) dX3_set_4 (fun z4 s4 => ?_)
    refine rr_if_ne hG 12 dX3_set_7 (by decide) ?_ ?_
    · refine rr_iload hG dX3_set_12 4 rfl ?_
      refine rr_iconst (v := 0) hG dX3_set_14 (by decide) ?_
      refine rr_iconst (v := 2) hG dX3_set_15 (by decide) ?_
      refine rr_cSi hG [.int p4, .int 0, .int 2] (c_X3_in (g_l G) (g_E G) (hG.hE.mono (by decide)) p4 0 2 s4) lk_X3_111 sm_X3_in (Nat.le_of_ble_eq_true rfl) (Nat.le_of_ble_eq_true rfl) rfl rfl (Nat.le_of_ble_eq_true rfl) dX3_set_16 (fun z16 s16 => ?_)
      refine rr_if_eq hG 57 dX3_set_19 (by decide) ?_ ?_
      · refine rr_bipush (v := (-2)) hG dX3_set_57 (by decide) ?_
        exact rr_iret hG ho dX3_set_59
      · refine rr_iload hG dX3_set_22 5 rfl ?_
        refine rr_iconst (v := 0) hG dX3_set_24 (by decide) ?_
        refine rr_iload hG dX3_set_25 4 rfl ?_
        refine rr_iconst (v := 2) hG dX3_set_27 (by decide) ?_
        refine rr_icmp_ne hG 36 dX3_set_28 (by decide) ?_ ?_
        · refine rr_iconst (v := 0) hG dX3_set_36 (by decide) ?_
          exact (b_X3_set_37 hG ho p1 p2 p3 p4 p5 p6 0 0 p5 s16)
        · refine rr_bipush (v := 30) hG dX3_set_31 (by decide) ?_
          refine rr_goto (tgt := 37) hG dX3_set_33 (by decide) ?_
          exact (b_X3_set_37 hG ho p1 p2 p3 p4 p5 p6 30 0 p5 s16)
    · refine rr_iconst (v := (-1)) hG dX3_set_10 (by decide) ?_
      exact rr_iret hG ho dX3_set_11
  exact h
