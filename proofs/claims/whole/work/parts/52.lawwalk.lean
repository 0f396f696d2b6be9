set_option maxRecDepth 100000 in
set_option maxHeartbeats 4000000 in
theorem b_L_law_379 {G : bd_G} {out : Int32 × bd_S} (hG : bd_OK G cL_law 4 RL 85 8 192 ret) {b_ : Nat} {xs_ : Nat → Int32} {L_ : Nat} (ho : lw_H G b_ L_ xs_ out) {k18 : Int32 → bd_S → Option (Int32 × bd_S)} (hk18 : ∀ (x3 : Int32) (s_ : bd_S), bd_WF G out (k18 x3 s_) s_ 18 [(0, .ref b_), (1, .ref (bd_ad (g_E G) 0)), (2, .ref (bd_ad (g_E G) 55)), (3, .int x3)] []) (x3 : Int32) (t0 : Int32) (t1 : Int32) (s_ : bd_S) : bd_WF G out (f_L_law_379 xs_ L_ k18 x3 t0 t1 s_) s_ 379 [(0, .ref b_), (1, .ref (bd_ad (g_E G) 0)), (2, .ref (bd_ad (g_E G) 55)), (3, .int x3)] [.int t0, .int t1, .ref (bd_ad (g_E G) 0)] := by
  unfold f_L_law_379
  refine rr_cVi hG [.int t1, .int t0] (c_X2_back (g_l G) (g_E G) (hG.hE.mono (by decide)) t1 t0 s_) lk_L_40 im_X2_back se_X2_back rfl (by decide) (by decide) rfl rfl (Nat.le_of_ble_eq_true rfl) (Nat.le_of_ble_eq_true rfl) rfl rfl (Nat.le_of_ble_eq_true rfl) dL_law_379 (fun z379 s379 => ?_)
  refine rr_aload_n hG dL_law_382 rfl 2 rfl ?_
  refine rr_aload_n hG dL_law_383 rfl 0 rfl ?_
  refine rr_iload_n hG dL_law_384 rfl 3 rfl ?_
  refine rr_iconst (v := 1) hG dL_law_385 (by decide) ?_
  refine rr_iadd hG dL_law_386 (fun z386 => ?_)
  refine rr_sld hG ho.1 dL_law_387 (fun z387 => ?_)
  refine rr_aload_n hG dL_law_388 rfl 0 rfl ?_
  refine rr_iload_n hG dL_law_389 rfl 3 rfl ?_
  refine rr_iconst (v := 2) hG dL_law_390 (by decide) ?_
  refine rr_iadd hG dL_law_391 (fun z391 => ?_)
  refine rr_sld hG ho.1 dL_law_392 (fun z392 => ?_)
  refine rr_if_eq hG 400 dL_law_393 (by decide) ?_ ?_
  · refine rr_iconst (v := 0) hG dL_law_400 (by decide) ?_
    refine rr_cVi hG [.int z387, .int 0] (c_X3_back (g_l G) (g_E G) (hG.hE.mono (by decide)) z387 0 s379) lk_L_44 im_X3_back se_X3_back rfl (by decide) (by decide) rfl rfl (Nat.le_of_ble_eq_true rfl) (Nat.le_of_ble_eq_true rfl) rfl rfl (Nat.le_of_ble_eq_true rfl) dL_law_401 (fun z401 s401 => ?_)
    refine rr_icmp_eq hG 1370 dL_law_404 (by decide) ?_ ?_
    · refine rr_iinc (v := 7) (lr := [(0, .ref b_), (1, .ref (bd_ad (g_E G) 0)), (2, .ref (bd_ad (g_E G) 55))]) hG dL_law_1370 3 rfl (by decide) (by decide) rfl (fun z1370 => ?_)
      refine rr_goto (tgt := 18) hG dL_law_1373 (by decide) ?_
      exact rr_sub [1, 2, 3, 0] rfl (hk18 z1370 s401)
    · refine rr_iconst (v := 0) hG dL_law_407 (by decide) ?_
      exact rr_lwret hG ho dL_law_408
  · refine rr_iconst (v := 1) hG dL_law_396 (by decide) ?_
    refine rr_goto (tgt := 401) hG dL_law_397 (by decide) ?_
    refine rr_cVi hG [.int z387, .int 1] (c_X3_back (g_l G) (g_E G) (hG.hE.mono (by decide)) z387 1 s379) lk_L_44 im_X3_back se_X3_back rfl (by decide) (by decide) rfl rfl (Nat.le_of_ble_eq_true rfl) (Nat.le_of_ble_eq_true rfl) rfl rfl (Nat.le_of_ble_eq_true rfl) dL_law_401 (fun z401 s401 => ?_)
    refine rr_icmp_eq hG 1370 dL_law_404 (by decide) ?_ ?_
    · refine rr_iinc (v := 7) (lr := [(0, .ref b_), (1, .ref (bd_ad (g_E G) 0)), (2, .ref (bd_ad (g_E G) 55))]) hG dL_law_1370 3 rfl (by decide) (by decide) rfl (fun z1370 => ?_)
      refine rr_goto (tgt := 18) hG dL_law_1373 (by decide) ?_
      exact rr_sub [1, 2, 3, 0] rfl (hk18 z1370 s401)
    · refine rr_iconst (v := 0) hG dL_law_407 (by decide) ?_
      exact rr_lwret hG ho dL_law_408
set_option maxRecDepth 100000 in
set_option maxHeartbeats 4000000 in
theorem b_L_law_640 {G : bd_G} {out : Int32 × bd_S} (hG : bd_OK G cL_law 4 RL 85 8 192 ret) {b_ : Nat} {xs_ : Nat → Int32} {L_ : Nat} (ho : lw_H G b_ L_ xs_ out) {k18 : Int32 → bd_S → Option (Int32 × bd_S)} (hk18 : ∀ (x3 : Int32) (s_ : bd_S), bd_WF G out (k18 x3 s_) s_ 18 [(0, .ref b_), (1, .ref (bd_ad (g_E G) 0)), (2, .ref (bd_ad (g_E G) 55)), (3, .int x3)] []) (x3 : Int32) (t0 : Int32) (t1 : Int32) (t2 : Int32) (s_ : bd_S) : bd_WF G out (f_L_law_640 xs_ L_ k18 x3 t0 t1 t2 s_) s_ 640 [(0, .ref b_), (1, .ref (bd_ad (g_E G) 0)), (2, .ref (bd_ad (g_E G) 55)), (3, .int x3)] [.int t0, .int t1, .int t2, .ref (bd_ad (g_E G) 0)] := by
  unfold f_L_law_640
  refine rr_cVi hG [.int t2, .int t1, .int t0] (c_X2_saw (g_l G) (g_E G) (hG.hE.mono (by decide)) t2 t1 t0 s_) lk_L_68 im_X2_saw se_X2_saw rfl (by decide) (by decide) rfl rfl (Nat.le_of_ble_eq_true rfl) (Nat.le_of_ble_eq_true rfl) rfl rfl (Nat.le_of_ble_eq_true rfl) dL_law_640 (fun z640 s640 => ?_)
  refine rr_aload_n hG dL_law_643 rfl 2 rfl ?_
  refine rr_aload_n hG dL_law_644 rfl 0 rfl ?_
  refine rr_iload_n hG dL_law_645 rfl 3 rfl ?_
  refine rr_iconst (v := 1) hG dL_law_646 (by decide) ?_
  refine rr_iadd hG dL_law_647 (fun z647 => ?_)
  refine rr_sld hG ho.1 dL_law_648 (fun z648 => ?_)
  refine rr_aload_n hG dL_law_649 rfl 0 rfl ?_
  refine rr_iload_n hG dL_law_650 rfl 3 rfl ?_
  refine rr_iconst (v := 2) hG dL_law_651 (by decide) ?_
  refine rr_iadd hG dL_law_652 (fun z652 => ?_)
  refine rr_sld hG ho.1 dL_law_653 (fun z653 => ?_)
  refine rr_aload_n hG dL_law_654 rfl 0 rfl ?_
  refine rr_iload_n hG dL_law_655 rfl 3 rfl ?_
  refine rr_iconst (v := 3) hG dL_law_656 (by decide) ?_
  refine rr_iadd hG dL_law_657 (fun z657 => ?_)
  refine rr_sld hG ho.1 dL_law_658 (fun z658 => ?_)
  refine rr_if_eq hG 666 dL_law_659 (by decide) ?_ ?_
  · refine rr_iconst (v := 0) hG dL_law_666 (by decide) ?_
    refine rr_cVi hG [.int z648, .int z653, .int 0] (c_X3_saw (g_l G) (g_E G) (hG.hE.mono (by decide)) z648 z653 0 s640) lk_L_72 im_X3_saw se_X3_saw rfl (by decide) (by decide) rfl rfl (Nat.le_of_ble_eq_true rfl) (Nat.le_of_ble_eq_true rfl) rfl rfl (Nat.le_of_ble_eq_true rfl) dL_law_667 (fun z667 s667 => ?_)
    refine rr_icmp_eq hG 1370 dL_law_670 (by decide) ?_ ?_
    · refine rr_iinc (v := 7) (lr := [(0, .ref b_), (1, .ref (bd_ad (g_E G) 0)), (2, .ref (bd_ad (g_E G) 55))]) hG dL_law_1370 3 rfl (by decide) (by decide) rfl (fun z1370 => ?_)
      refine rr_goto (tgt := 18) hG dL_law_1373 (by decide) ?_
      exact rr_sub [1, 2, 3, 0] rfl (hk18 z1370 s667)
    · refine rr_iconst (v := 0) hG dL_law_673 (by decide) ?_
      exact rr_lwret hG ho dL_law_674
  · refine rr_iconst (v := 1) hG dL_law_662 (by decide) ?_
    refine rr_goto (tgt := 667) hG dL_law_663 (by decide) ?_
    refine rr_cVi hG [.int z648, .int z653, .int 1] (c_X3_saw (g_l G) (g_E G) (hG.hE.mono (by decide)) z648 z653 1 s640) lk_L_72 im_X3_saw se_X3_saw rfl (by decide) (by decide) rfl rfl (Nat.le_of_ble_eq_true rfl) (Nat.le_of_ble_eq_true rfl) rfl rfl (Nat.le_of_ble_eq_true rfl) dL_law_667 (fun z667 s667 => ?_)
    refine rr_icmp_eq hG 1370 dL_law_670 (by decide) ?_ ?_
    · refine rr_iinc (v := 7) (lr := [(0, .ref b_), (1, .ref (bd_ad (g_E G) 0)), (2, .ref (bd_ad (g_E G) 55))]) hG dL_law_1370 3 rfl (by decide) (by decide) rfl (fun z1370 => ?_)
      refine rr_goto (tgt := 18) hG dL_law_1373 (by decide) ?_
      exact rr_sub [1, 2, 3, 0] rfl (hk18 z1370 s667)
    · refine rr_iconst (v := 0) hG dL_law_673 (by decide) ?_
      exact rr_lwret hG ho dL_law_674
set_option maxRecDepth 100000 in
set_option maxHeartbeats 4000000 in
theorem b_L_law_18 {G : bd_G} {out : Int32 × bd_S} (hG : bd_OK G cL_law 4 RL 85 8 192 ret) {b_ : Nat} {xs_ : Nat → Int32} {L_ : Nat} (ho : lw_H G b_ L_ xs_ out) : ∀ (n_ : Nat) (x3 : Int32) (s_ : bd_S), bd_WF G out (f_L_law_18 xs_ L_ n_ x3 s_) s_ 18 [(0, .ref b_), (1, .ref (bd_ad (g_E G) 0)), (2, .ref (bd_ad (g_E G) 55)), (3, .int x3)] [] := by
  intro n_
  induction n_ with
  | zero => intros; intro hF; cases hF
  | succ n_ ih =>
    intro x3 s_
    rw [f_L_law_18]
    refine rr_iload_n hG dL_law_18 rfl 3 rfl ?_
    refine rr_aload_n hG dL_law_19 rfl 0 rfl ?_
    refine rr_slen hG ho.1 dL_law_20 (fun z20 => ?_)
    refine rr_bipush (v := 7) hG dL_law_21 (by decide) ?_
    refine rr_isub hG dL_law_23 (fun z23 => ?_)
    refine rr_icmp_gt hG 1376 dL_law_24 (by decide) ?_ ?_
    · refine rr_iconst (v := 1) hG dL_law_1376 (by decide) ?_
      exact rr_lwret hG ho dL_law_1377
    · refine rr_aload_n hG dL_law_27 rfl 0 rfl ?_
      refine rr_iload_n hG dL_law_28 rfl 3 rfl ?_
      refine rr_sld hG ho.1 dL_law_29 (fun z29 => ?_)
      refine rr_bipush (v := 31) hG dL_law_30 (by decide) ?_
      refine rr_iand hG dL_law_32 (fun z32 => ?_)
      refine rr_swc hG 0 172 dL_law_33 (by decide) ?_ (fun nq0 => ?_)
      · refine rr_aload_n hG dL_law_172 rfl 1 rfl ?_
        refine rr_aload_n hG dL_law_173 rfl 0 rfl ?_
        refine rr_iload_n hG dL_law_174 rfl 3 rfl ?_
        refine rr_iconst (v := 1) hG dL_law_175 (by decide) ?_
        refine rr_iadd hG dL_law_176 (fun z176 => ?_)
        refine rr_sld hG ho.1 dL_law_177 (fun z177 => ?_)
        refine rr_aload_n hG dL_law_178 rfl 0 rfl ?_
        refine rr_iload_n hG dL_law_179 rfl 3 rfl ?_
        refine rr_iconst (v := 2) hG dL_law_180 (by decide) ?_
        refine rr_iadd hG dL_law_181 (fun z181 => ?_)
        refine rr_sld hG ho.1 dL_law_182 (fun z182 => ?_)
        refine rr_cVi hG [.int z177, .int z182] (c_X2_star (g_l G) (g_E G) (hG.hE.mono (by decide)) z177 z182 s_) lk_L_13 im_X2_star se_X2_star rfl (by decide) (by decide) rfl rfl (Nat.le_of_ble_eq_true rfl) (Nat.le_of_ble_eq_true rfl) rfl rfl (Nat.le_of_ble_eq_true rfl) dL_law_183 (fun z183 s183 => ?_)
        refine rr_aload_n hG dL_law_186 rfl 2 rfl ?_
        refine rr_aload_n hG dL_law_187 rfl 0 rfl ?_
        refine rr_iload_n hG dL_law_188 rfl 3 rfl ?_
        refine rr_iconst (v := 1) hG dL_law_189 (by decide) ?_
        refine rr_iadd hG dL_law_190 (fun z190 => ?_)
        refine rr_sld hG ho.1 dL_law_191 (fun z191 => ?_)
        refine rr_aload_n hG dL_law_192 rfl 0 rfl ?_
        refine rr_iload_n hG dL_law_193 rfl 3 rfl ?_
        refine rr_iconst (v := 2) hG dL_law_194 (by decide) ?_
        refine rr_iadd hG dL_law_195 (fun z195 => ?_)
        refine rr_sld hG ho.1 dL_law_196 (fun z196 => ?_)
        refine rr_cVi hG [.int z191, .int z196] (c_X3_star (g_l G) (g_E G) (hG.hE.mono (by decide)) z191 z196 s183) lk_L_17 im_X3_star se_X3_star rfl (by decide) (by decide) rfl rfl (Nat.le_of_ble_eq_true rfl) (Nat.le_of_ble_eq_true rfl) rfl rfl (Nat.le_of_ble_eq_true rfl) dL_law_197 (fun z197 s197 => ?_)
        refine rr_icmp_eq hG 1370 dL_law_200 (by decide) ?_ ?_
        · refine rr_iinc (v := 7) (lr := [(0, .ref b_), (1, .ref (bd_ad (g_E G) 0)), (2, .ref (bd_ad (g_E G) 55))]) hG dL_law_1370 3 rfl (by decide) (by decide) rfl (fun z1370 => ?_)
          refine rr_goto (tgt := 18) hG dL_law_1373 (by decide) ?_
          exact rr_sub [1, 2, 3, 0] rfl (ih z1370 s197)
        · refine rr_iconst (v := 0) hG dL_law_203 (by decide) ?_
          exact rr_lwret hG ho dL_law_204
      refine rr_swc hG 1 205 dL_law_33 (by decide) ?_ (fun nq1 => ?_)
      · refine rr_aload_n hG dL_law_205 rfl 1 rfl ?_
        refine rr_aload_n hG dL_law_206 rfl 0 rfl ?_
        refine rr_iload_n hG dL_law_207 rfl 3 rfl ?_
        refine rr_iconst (v := 1) hG dL_law_208 (by decide) ?_
        refine rr_iadd hG dL_law_209 (fun z209 => ?_)
        refine rr_sld hG ho.1 dL_law_210 (fun z210 => ?_)
        refine rr_cVi hG [.int z210] (c_X2_care (g_l G) (g_E G) (hG.hE.mono (by decide)) z210 s_) lk_L_18 im_X2_care se_X2_care rfl (by decide) (by decide) rfl rfl (Nat.le_of_ble_eq_true rfl) (Nat.le_of_ble_eq_true rfl) rfl rfl (Nat.le_of_ble_eq_true rfl) dL_law_211 (fun z211 s211 => ?_)
        refine rr_aload_n hG dL_law_214 rfl 2 rfl ?_
        refine rr_aload_n hG dL_law_215 rfl 0 rfl ?_
        refine rr_iload_n hG dL_law_216 rfl 3 rfl ?_
        refine rr_iconst (v := 1) hG dL_law_217 (by decide) ?_
        refine rr_iadd hG dL_law_218 (fun z218 => ?_)
        refine rr_sld hG ho.1 dL_law_219 (fun z219 => ?_)
        refine rr_cVi hG [.int z219] (c_X3_care (g_l G) (g_E G) (hG.hE.mono (by decide)) z219 s211) lk_L_22 im_X3_care se_X3_care rfl (by decide) (by decide) rfl rfl (Nat.le_of_ble_eq_true rfl) (Nat.le_of_ble_eq_true rfl) rfl rfl (Nat.le_of_ble_eq_true rfl) dL_law_220 (fun z220 s220 => ?_)
        refine rr_icmp_eq hG 1370 dL_law_223 (by decide) ?_ ?_
        · refine rr_iinc (v := 7) (lr := [(0, .ref b_), (1, .ref (bd_ad (g_E G) 0)), (2, .ref (bd_ad (g_E G) 55))]) hG dL_law_1370 3 rfl (by decide) (by decide) rfl (fun z1370 => ?_)
          refine rr_goto (tgt := 18) hG dL_law_1373 (by decide) ?_
          exact rr_sub [1, 2, 3, 0] rfl (ih z1370 s220)
        · refine rr_iconst (v := 0) hG dL_law_226 (by decide) ?_
          exact rr_lwret hG ho dL_law_227
      refine rr_swc hG 2 228 dL_law_33 (by decide) ?_ (fun nq2 => ?_)
      · refine rr_aload_n hG dL_law_228 rfl 1 rfl ?_
        refine rr_aload_n hG dL_law_229 rfl 0 rfl ?_
        refine rr_iload_n hG dL_law_230 rfl 3 rfl ?_
        refine rr_iconst (v := 1) hG dL_law_231 (by decide) ?_
        refine rr_iadd hG dL_law_232 (fun z232 => ?_)
        refine rr_sld hG ho.1 dL_law_233 (fun z233 => ?_)
        refine rr_aload_n hG dL_law_234 rfl 0 rfl ?_
        refine rr_iload_n hG dL_law_235 rfl 3 rfl ?_
        refine rr_iconst (v := 2) hG dL_law_236 (by decide) ?_
        refine rr_iadd hG dL_law_237 (fun z237 => ?_)
        refine rr_sld hG ho.1 dL_law_238 (fun z238 => ?_)
        refine rr_cVi hG [.int z233, .int z238] (c_X2_off (g_l G) (g_E G) (hG.hE.mono (by decide)) z233 z238 s_) lk_L_23 im_X2_off se_X2_off rfl (by decide) (by decide) rfl rfl (Nat.le_of_ble_eq_true rfl) (Nat.le_of_ble_eq_true rfl) rfl rfl (Nat.le_of_ble_eq_true rfl) dL_law_239 (fun z239 s239 => ?_)
        refine rr_aload_n hG dL_law_242 rfl 2 rfl ?_
        refine rr_aload_n hG dL_law_243 rfl 0 rfl ?_
        refine rr_iload_n hG dL_law_244 rfl 3 rfl ?_
        refine rr_iconst (v := 1) hG dL_law_245 (by decide) ?_
        refine rr_iadd hG dL_law_246 (fun z246 => ?_)
        refine rr_sld hG ho.1 dL_law_247 (fun z247 => ?_)
        refine rr_aload_n hG dL_law_248 rfl 0 rfl ?_
        refine rr_iload_n hG dL_law_249 rfl 3 rfl ?_
        refine rr_iconst (v := 2) hG dL_law_250 (by decide) ?_
        refine rr_iadd hG dL_law_251 (fun z251 => ?_)
        refine rr_sld hG ho.1 dL_law_252 (fun z252 => ?_)
        refine rr_cVi hG [.int z247, .int z252] (c_X3_off (g_l G) (g_E G) (hG.hE.mono (by decide)) z247 z252 s239) lk_L_26 im_X3_off se_X3_off rfl (by decide) (by decide) rfl rfl (Nat.le_of_ble_eq_true rfl) (Nat.le_of_ble_eq_true rfl) rfl rfl (Nat.le_of_ble_eq_true rfl) dL_law_253 (fun z253 s253 => ?_)
        refine rr_icmp_eq hG 1370 dL_law_256 (by decide) ?_ ?_
        · refine rr_iinc (v := 7) (lr := [(0, .ref b_), (1, .ref (bd_ad (g_E G) 0)), (2, .ref (bd_ad (g_E G) 55))]) hG dL_law_1370 3 rfl (by decide) (by decide) rfl (fun z1370 => ?_)
          refine rr_goto (tgt := 18) hG dL_law_1373 (by decide) ?_
          exact rr_sub [1, 2, 3, 0] rfl (ih z1370 s253)
        · refine rr_iconst (v := 0) hG dL_law_259 (by decide) ?_
          exact rr_lwret hG ho dL_law_260
      refine rr_swc hG 3 261 dL_law_33 (by decide) ?_ (fun nq3 => ?_)
      · refine rr_aload_n hG dL_law_261 rfl 1 rfl ?_
        refine rr_aload_n hG dL_law_262 rfl 0 rfl ?_
        refine rr_iload_n hG dL_law_263 rfl 3 rfl ?_
        refine rr_iconst (v := 1) hG dL_law_264 (by decide) ?_
        refine rr_iadd hG dL_law_265 (fun z265 => ?_)
        refine rr_sld hG ho.1 dL_law_266 (fun z266 => ?_)
        refine rr_cVi hG [.int z266] (c_X2_rate (g_l G) (g_E G) (hG.hE.mono (by decide)) z266 s_) lk_L_27 im_X2_rate se_X2_rate rfl (by decide) (by decide) rfl rfl (Nat.le_of_ble_eq_true rfl) (Nat.le_of_ble_eq_true rfl) rfl rfl (Nat.le_of_ble_eq_true rfl) dL_law_267 (fun z267 s267 => ?_)
        refine rr_aload_n hG dL_law_270 rfl 2 rfl ?_
        refine rr_aload_n hG dL_law_271 rfl 0 rfl ?_
        refine rr_iload_n hG dL_law_272 rfl 3 rfl ?_
        refine rr_iconst (v := 1) hG dL_law_273 (by decide) ?_
        refine rr_iadd hG dL_law_274 (fun z274 => ?_)
        refine rr_sld hG ho.1 dL_law_275 (fun z275 => ?_)
        refine rr_cVi hG [.int z275] (c_X3_rate (g_l G) (g_E G) (hG.hE.mono (by decide)) z275 s267) lk_L_30 im_X3_rate se_X3_rate rfl (by decide) (by decide) rfl rfl (Nat.le_of_ble_eq_true rfl) (Nat.le_of_ble_eq_true rfl) rfl rfl (Nat.le_of_ble_eq_true rfl) dL_law_276 (fun z276 s276 => ?_)
        refine rr_icmp_eq hG 1370 dL_law_279 (by decide) ?_ ?_
        · refine rr_iinc (v := 7) (lr := [(0, .ref b_), (1, .ref (bd_ad (g_E G) 0)), (2, .ref (bd_ad (g_E G) 55))]) hG dL_law_1370 3 rfl (by decide) (by decide) rfl (fun z1370 => ?_)
          refine rr_goto (tgt := 18) hG dL_law_1373 (by decide) ?_
          exact rr_sub [1, 2, 3, 0] rfl (ih z1370 s276)
        · refine rr_iconst (v := 0) hG dL_law_282 (by decide) ?_
          exact rr_lwret hG ho dL_law_283
      refine rr_swc hG 4 284 dL_law_33 (by decide) ?_ (fun nq4 => ?_)
      · refine rr_aload_n hG dL_law_284 rfl 1 rfl ?_
        refine rr_aload_n hG dL_law_285 rfl 0 rfl ?_
        refine rr_iload_n hG dL_law_286 rfl 3 rfl ?_
        refine rr_iconst (v := 1) hG dL_law_287 (by decide) ?_
        refine rr_iadd hG dL_law_288 (fun z288 => ?_)
        refine rr_sld hG ho.1 dL_law_289 (fun z289 => ?_)
        refine rr_aload_n hG dL_law_290 rfl 0 rfl ?_
        refine rr_iload_n hG dL_law_291 rfl 3 rfl ?_
        refine rr_iconst (v := 2) hG dL_law_292 (by decide) ?_
        refine rr_iadd hG dL_law_293 (fun z293 => ?_)
        refine rr_sld hG ho.1 dL_law_294 (fun z294 => ?_)
        refine rr_aload_n hG dL_law_295 rfl 0 rfl ?_
        refine rr_iload_n hG dL_law_296 rfl 3 rfl ?_
        refine rr_iconst (v := 3) hG dL_law_297 (by decide) ?_
        refine rr_iadd hG dL_law_298 (fun z298 => ?_)
        refine rr_sld hG ho.1 dL_law_299 (fun z299 => ?_)
        refine rr_cVi hG [.int z289, .int z294, .int z299] (c_X2_slow (g_l G) (g_E G) (hG.hE.mono (by decide)) z289 z294 z299 s_) lk_L_31 im_X2_slow se_X2_slow rfl (by decide) (by decide) rfl rfl (Nat.le_of_ble_eq_true rfl) (Nat.le_of_ble_eq_true rfl) rfl rfl (Nat.le_of_ble_eq_true rfl) dL_law_300 (fun z300 s300 => ?_)
        refine rr_aload_n hG dL_law_303 rfl 2 rfl ?_
        refine rr_aload_n hG dL_law_304 rfl 0 rfl ?_
        refine rr_iload_n hG dL_law_305 rfl 3 rfl ?_
        refine rr_iconst (v := 1) hG dL_law_306 (by decide) ?_
        refine rr_iadd hG dL_law_307 (fun z307 => ?_)
        refine rr_sld hG ho.1 dL_law_308 (fun z308 => ?_)
        refine rr_aload_n hG dL_law_309 rfl 0 rfl ?_
        refine rr_iload_n hG dL_law_310 rfl 3 rfl ?_
        refine rr_iconst (v := 2) hG dL_law_311 (by decide) ?_
        refine rr_iadd hG dL_law_312 (fun z312 => ?_)
        refine rr_sld hG ho.1 dL_law_313 (fun z313 => ?_)
        refine rr_aload_n hG dL_law_314 rfl 0 rfl ?_
        refine rr_iload_n hG dL_law_315 rfl 3 rfl ?_
        refine rr_iconst (v := 3) hG dL_law_316 (by decide) ?_
        refine rr_iadd hG dL_law_317 (fun z317 => ?_)
        refine rr_sld hG ho.1 dL_law_318 (fun z318 => ?_)
        refine rr_cVi hG [.int z308, .int z313, .int z318] (c_X3_slow (g_l G) (g_E G) (hG.hE.mono (by decide)) z308 z313 z318 s300) lk_L_35 im_X3_slow se_X3_slow rfl (by decide) (by decide) rfl rfl (Nat.le_of_ble_eq_true rfl) (Nat.le_of_ble_eq_true rfl) rfl rfl (Nat.le_of_ble_eq_true rfl) dL_law_319 (fun z319 s319 => ?_)
        refine rr_icmp_eq hG 1370 dL_law_322 (by decide) ?_ ?_
        · refine rr_iinc (v := 7) (lr := [(0, .ref b_), (1, .ref (bd_ad (g_E G) 0)), (2, .ref (bd_ad (g_E G) 55))]) hG dL_law_1370 3 rfl (by decide) (by decide) rfl (fun z1370 => ?_)
          refine rr_goto (tgt := 18) hG dL_law_1373 (by decide) ?_
          exact rr_sub [1, 2, 3, 0] rfl (ih z1370 s319)
        · refine rr_iconst (v := 0) hG dL_law_325 (by decide) ?_
          exact rr_lwret hG ho dL_law_326
      refine rr_swc hG 5 327 dL_law_33 (by decide) ?_ (fun nq5 => ?_)
      · refine rr_aload_n hG dL_law_327 rfl 1 rfl ?_
        refine rr_aload_n hG dL_law_328 rfl 0 rfl ?_
        refine rr_iload_n hG dL_law_329 rfl 3 rfl ?_
        refine rr_iconst (v := 1) hG dL_law_330 (by decide) ?_
        refine rr_iadd hG dL_law_331 (fun z331 => ?_)
        refine rr_sld hG ho.1 dL_law_332 (fun z332 => ?_)
        refine rr_aload_n hG dL_law_333 rfl 0 rfl ?_
        refine rr_iload_n hG dL_law_334 rfl 3 rfl ?_
        refine rr_iconst (v := 2) hG dL_law_335 (by decide) ?_
        refine rr_iadd hG dL_law_336 (fun z336 => ?_)
        refine rr_sld hG ho.1 dL_law_337 (fun z337 => ?_)
        refine rr_cVi hG [.int z332, .int z337] (c_X2_slip (g_l G) (g_E G) (hG.hE.mono (by decide)) z332 z337 s_) lk_L_36 im_X2_slip se_X2_slip rfl (by decide) (by decide) rfl rfl (Nat.le_of_ble_eq_true rfl) (Nat.le_of_ble_eq_true rfl) rfl rfl (Nat.le_of_ble_eq_true rfl) dL_law_338 (fun z338 s338 => ?_)
        refine rr_aload_n hG dL_law_341 rfl 2 rfl ?_
        refine rr_aload_n hG dL_law_342 rfl 0 rfl ?_
        refine rr_iload_n hG dL_law_343 rfl 3 rfl ?_
        refine rr_iconst (v := 1) hG dL_law_344 (by decide) ?_
        refine rr_iadd hG dL_law_345 (fun z345 => ?_)
        refine rr_sld hG ho.1 dL_law_346 (fun z346 => ?_)
        refine rr_aload_n hG dL_law_347 rfl 0 rfl ?_
        refine rr_iload_n hG dL_law_348 rfl 3 rfl ?_
        refine rr_iconst (v := 2) hG dL_law_349 (by decide) ?_
        refine rr_iadd hG dL_law_350 (fun z350 => ?_)
        refine rr_sld hG ho.1 dL_law_351 (fun z351 => ?_)
        refine rr_cVi hG [.int z346, .int z351] (c_X3_slip (g_l G) (g_E G) (hG.hE.mono (by decide)) z346 z351 s338) lk_L_39 im_X3_slip se_X3_slip rfl (by decide) (by decide) rfl rfl (Nat.le_of_ble_eq_true rfl) (Nat.le_of_ble_eq_true rfl) rfl rfl (Nat.le_of_ble_eq_true rfl) dL_law_352 (fun z352 s352 => ?_)
        refine rr_icmp_eq hG 1370 dL_law_355 (by decide) ?_ ?_
        · refine rr_iinc (v := 7) (lr := [(0, .ref b_), (1, .ref (bd_ad (g_E G) 0)), (2, .ref (bd_ad (g_E G) 55))]) hG dL_law_1370 3 rfl (by decide) (by decide) rfl (fun z1370 => ?_)
          refine rr_goto (tgt := 18) hG dL_law_1373 (by decide) ?_
          exact rr_sub [1, 2, 3, 0] rfl (ih z1370 s352)
        · refine rr_iconst (v := 0) hG dL_law_358 (by decide) ?_
          exact rr_lwret hG ho dL_law_359
      refine rr_swc hG 6 360 dL_law_33 (by decide) ?_ (fun nq6 => ?_)
      · refine rr_aload_n hG dL_law_360 rfl 1 rfl ?_
        refine rr_aload_n hG dL_law_361 rfl 0 rfl ?_
        refine rr_iload_n hG dL_law_362 rfl 3 rfl ?_
        refine rr_iconst (v := 1) hG dL_law_363 (by decide) ?_
        refine rr_iadd hG dL_law_364 (fun z364 => ?_)
        refine rr_sld hG ho.1 dL_law_365 (fun z365 => ?_)
        refine rr_aload_n hG dL_law_366 rfl 0 rfl ?_
        refine rr_iload_n hG dL_law_367 rfl 3 rfl ?_
        refine rr_iconst (v := 2) hG dL_law_368 (by decide) ?_
        refine rr_iadd hG dL_law_369 (fun z369 => ?_)
        refine rr_sld hG ho.1 dL_law_370 (fun z370 => ?_)
        refine rr_if_eq hG 378 dL_law_371 (by decide) ?_ ?_
        · refine rr_iconst (v := 0) hG dL_law_378 (by decide) ?_
          exact (b_L_law_379 hG ho ih x3 0 z365 s_)
        · refine rr_iconst (v := 1) hG dL_law_374 (by decide) ?_
          refine rr_goto (tgt := 379) hG dL_law_375 (by decide) ?_
          exact (b_L_law_379 hG ho ih x3 1 z365 s_)
      refine rr_swc hG 7 409 dL_law_33 (by decide) ?_ (fun nq7 => ?_)
      · refine rr_aload_n hG dL_law_409 rfl 1 rfl ?_
        refine rr_aload_n hG dL_law_410 rfl 0 rfl ?_
        refine rr_iload_n hG dL_law_411 rfl 3 rfl ?_
        refine rr_iconst (v := 1) hG dL_law_412 (by decide) ?_
        refine rr_iadd hG dL_law_413 (fun z413 => ?_)
        refine rr_sld hG ho.1 dL_law_414 (fun z414 => ?_)
        refine rr_aload_n hG dL_law_415 rfl 0 rfl ?_
        refine rr_iload_n hG dL_law_416 rfl 3 rfl ?_
        refine rr_iconst (v := 2) hG dL_law_417 (by decide) ?_
        refine rr_iadd hG dL_law_418 (fun z418 => ?_)
        refine rr_sld hG ho.1 dL_law_419 (fun z419 => ?_)
        refine rr_cVi hG [.int z414, .int z419] (c_X2_late (g_l G) (g_E G) (hG.hE.mono (by decide)) z414 z419 s_) lk_L_45 im_X2_late se_X2_late rfl (by decide) (by decide) rfl rfl (Nat.le_of_ble_eq_true rfl) (Nat.le_of_ble_eq_true rfl) rfl rfl (Nat.le_of_ble_eq_true rfl) dL_law_420 (fun z420 s420 => ?_)
        refine rr_aload_n hG dL_law_423 rfl 2 rfl ?_
        refine rr_aload_n hG dL_law_424 rfl 0 rfl ?_
        refine rr_iload_n hG dL_law_425 rfl 3 rfl ?_
        refine rr_iconst (v := 1) hG dL_law_426 (by decide) ?_
        refine rr_iadd hG dL_law_427 (fun z427 => ?_)
        refine rr_sld hG ho.1 dL_law_428 (fun z428 => ?_)
        refine rr_aload_n hG dL_law_429 rfl 0 rfl ?_
        refine rr_iload_n hG dL_law_430 rfl 3 rfl ?_
        refine rr_iconst (v := 2) hG dL_law_431 (by decide) ?_
        refine rr_iadd hG dL_law_432 (fun z432 => ?_)
        refine rr_sld hG ho.1 dL_law_433 (fun z433 => ?_)
        refine rr_cVi hG [.int z428, .int z433] (c_X3_late (g_l G) (g_E G) (hG.hE.mono (by decide)) z428 z433 s420) lk_L_48 im_X3_late se_X3_late rfl (by decide) (by decide) rfl rfl (Nat.le_of_ble_eq_true rfl) (Nat.le_of_ble_eq_true rfl) rfl rfl (Nat.le_of_ble_eq_true rfl) dL_law_434 (fun z434 s434 => ?_)
        refine rr_icmp_eq hG 1370 dL_law_437 (by decide) ?_ ?_
        · refine rr_iinc (v := 7) (lr := [(0, .ref b_), (1, .ref (bd_ad (g_E G) 0)), (2, .ref (bd_ad (g_E G) 55))]) hG dL_law_1370 3 rfl (by decide) (by decide) rfl (fun z1370 => ?_)
          refine rr_goto (tgt := 18) hG dL_law_1373 (by decide) ?_
          exact rr_sub [1, 2, 3, 0] rfl (ih z1370 s434)
        · refine rr_iconst (v := 0) hG dL_law_440 (by decide) ?_
          exact rr_lwret hG ho dL_law_441
      refine rr_swc hG 8 442 dL_law_33 (by decide) ?_ (fun nq8 => ?_)
      · refine rr_aload_n hG dL_law_442 rfl 1 rfl ?_
        refine rr_cVi hG [] (c_X2_ship (g_l G) (g_E G) (hG.hE.mono (by decide)) s_) lk_L_49 im_X2_ship se_X2_ship rfl (by decide) (by decide) rfl rfl (Nat.le_of_ble_eq_true rfl) (Nat.le_of_ble_eq_true rfl) rfl rfl (Nat.le_of_ble_eq_true rfl) dL_law_443 (fun z443 s443 => ?_)
        refine rr_aload_n hG dL_law_446 rfl 2 rfl ?_
        refine rr_cVi hG [] (c_X3_ship (g_l G) (g_E G) (hG.hE.mono (by decide)) s443) lk_L_53 im_X3_ship se_X3_ship rfl (by decide) (by decide) rfl rfl (Nat.le_of_ble_eq_true rfl) (Nat.le_of_ble_eq_true rfl) rfl rfl (Nat.le_of_ble_eq_true rfl) dL_law_447 (fun z447 s447 => ?_)
        refine rr_icmp_eq hG 1370 dL_law_450 (by decide) ?_ ?_
        · refine rr_iinc (v := 7) (lr := [(0, .ref b_), (1, .ref (bd_ad (g_E G) 0)), (2, .ref (bd_ad (g_E G) 55))]) hG dL_law_1370 3 rfl (by decide) (by decide) rfl (fun z1370 => ?_)
          refine rr_goto (tgt := 18) hG dL_law_1373 (by decide) ?_
          exact rr_sub [1, 2, 3, 0] rfl (ih z1370 s447)
        · refine rr_iconst (v := 0) hG dL_law_453 (by decide) ?_
          exact rr_lwret hG ho dL_law_454
      refine rr_swc hG 9 455 dL_law_33 (by decide) ?_ (fun nq9 => ?_)
      · refine rr_aload_n hG dL_law_455 rfl 1 rfl ?_
        refine rr_aload_n hG dL_law_456 rfl 0 rfl ?_
        refine rr_iload_n hG dL_law_457 rfl 3 rfl ?_
        refine rr_iconst (v := 1) hG dL_law_458 (by decide) ?_
        refine rr_iadd hG dL_law_459 (fun z459 => ?_)
        refine rr_sld hG ho.1 dL_law_460 (fun z460 => ?_)
        refine rr_aload_n hG dL_law_461 rfl 0 rfl ?_
        refine rr_iload_n hG dL_law_462 rfl 3 rfl ?_
        refine rr_iconst (v := 2) hG dL_law_463 (by decide) ?_
        refine rr_iadd hG dL_law_464 (fun z464 => ?_)
        refine rr_sld hG ho.1 dL_law_465 (fun z465 => ?_)
        refine rr_aload_n hG dL_law_466 rfl 0 rfl ?_
        refine rr_iload_n hG dL_law_467 rfl 3 rfl ?_
        refine rr_iconst (v := 3) hG dL_law_468 (by decide) ?_
        refine rr_iadd hG dL_law_469 (fun z469 => ?_)
        refine rr_sld hG ho.1 dL_law_470 (fun z470 => ?_)
        refine rr_aload_n hG dL_law_471 rfl 0 rfl ?_
        refine rr_iload_n hG dL_law_472 rfl 3 rfl ?_
        refine rr_iconst (v := 4) hG dL_law_473 (by decide) ?_
        refine rr_iadd hG dL_law_474 (fun z474 => ?_)
        refine rr_sld hG ho.1 dL_law_475 (fun z475 => ?_)
        refine rr_aload_n hG dL_law_476 rfl 0 rfl ?_
        refine rr_iload_n hG dL_law_477 rfl 3 rfl ?_
        refine rr_iconst (v := 5) hG dL_law_478 (by decide) ?_
        refine rr_iadd hG dL_law_479 (fun z479 => ?_)
        refine rr_sld hG ho.1 dL_law_480 (fun z480 => ?_)
        refine rr_aload_n hG dL_law_481 rfl 0 rfl ?_
        refine rr_iload_n hG dL_law_482 rfl 3 rfl ?_
        refine rr_bipush (v := 6) hG dL_law_483 (by decide) ?_
        refine rr_iadd hG dL_law_485 (fun z485 => ?_)
        refine rr_sld hG ho.1 dL_law_486 (fun z486 => ?_)
        refine rr_cVi hG [.int z460, .int z465, .int z470, .int z475, .int z480, .int z486] (c_X2_set (g_l G) (g_E G) (hG.hE.mono (by decide)) z460 z465 z470 z475 z480 z486 s_) lk_L_54 im_X2_set se_X2_set rfl (by decide) (by decide) rfl rfl (Nat.le_of_ble_eq_true rfl) (Nat.le_of_ble_eq_true rfl) rfl rfl (Nat.le_of_ble_eq_true rfl) dL_law_487 (fun z487 s487 => ?_)
        refine rr_aload_n hG dL_law_490 rfl 2 rfl ?_
        refine rr_aload_n hG dL_law_491 rfl 0 rfl ?_
        refine rr_iload_n hG dL_law_492 rfl 3 rfl ?_
        refine rr_iconst (v := 1) hG dL_law_493 (by decide) ?_
        refine rr_iadd hG dL_law_494 (fun z494 => ?_)
        refine rr_sld hG ho.1 dL_law_495 (fun z495 => ?_)
        refine rr_aload_n hG dL_law_496 rfl 0 rfl ?_
        refine rr_iload_n hG dL_law_497 rfl 3 rfl ?_
        refine rr_iconst (v := 2) hG dL_law_498 (by decide) ?_
        refine rr_iadd hG dL_law_499 (fun z499 => ?_)
        refine rr_sld hG ho.1 dL_law_500 (fun z500 => ?_)
        refine rr_aload_n hG dL_law_501 rfl 0 rfl ?_
        refine rr_iload_n hG dL_law_502 rfl 3 rfl ?_
        refine rr_iconst (v := 3) hG dL_law_503 (by decide) ?_
        refine rr_iadd hG dL_law_504 (fun z504 => ?_)
        refine rr_sld hG ho.1 dL_law_505 (fun z505 => ?_)
        refine rr_aload_n hG dL_law_506 rfl 0 rfl ?_
        refine rr_iload_n hG dL_law_507 rfl 3 rfl ?_
        refine rr_iconst (v := 4) hG dL_law_508 (by decide) ?_
        refine rr_iadd hG dL_law_509 (fun z509 => ?_)
        refine rr_sld hG ho.1 dL_law_510 (fun z510 => ?_)
        refine rr_aload_n hG dL_law_511 rfl 0 rfl ?_
        refine rr_iload_n hG dL_law_512 rfl 3 rfl ?_
        refine rr_iconst (v := 5) hG dL_law_513 (by decide) ?_
        refine rr_iadd hG dL_law_514 (fun z514 => ?_)
        refine rr_sld hG ho.1 dL_law_515 (fun z515 => ?_)
        refine rr_aload_n hG dL_law_516 rfl 0 rfl ?_
        refine rr_iload_n hG dL_law_517 rfl 3 rfl ?_
        refine rr_bipush (v := 6) hG dL_law_518 (by decide) ?_
        refine rr_iadd hG dL_law_520 (fun z520 => ?_)
        refine rr_sld hG ho.1 dL_law_521 (fun z521 => ?_)
        refine rr_cVi hG [.int z495, .int z500, .int z505, .int z510, .int z515, .int z521] (c_X3_set (g_l G) (g_E G) (hG.hE.mono (by decide)) z495 z500 z505 z510 z515 z521 s487) lk_L_58 im_X3_set se_X3_set rfl (by decide) (by decide) rfl rfl (Nat.le_of_ble_eq_true rfl) (Nat.le_of_ble_eq_true rfl) rfl rfl (Nat.le_of_ble_eq_true rfl) dL_law_522 (fun z522 s522 => ?_)
        refine rr_icmp_eq hG 1370 dL_law_525 (by decide) ?_ ?_
        · refine rr_iinc (v := 7) (lr := [(0, .ref b_), (1, .ref (bd_ad (g_E G) 0)), (2, .ref (bd_ad (g_E G) 55))]) hG dL_law_1370 3 rfl (by decide) (by decide) rfl (fun z1370 => ?_)
          refine rr_goto (tgt := 18) hG dL_law_1373 (by decide) ?_
          exact rr_sub [1, 2, 3, 0] rfl (ih z1370 s522)
        · refine rr_iconst (v := 0) hG dL_law_528 (by decide) ?_
          exact rr_lwret hG ho dL_law_529
      refine rr_swc hG 10 530 dL_law_33 (by decide) ?_ (fun nq10 => ?_)
      · refine rr_aload_n hG dL_law_530 rfl 1 rfl ?_
        refine rr_aload_n hG dL_law_531 rfl 0 rfl ?_
        refine rr_iload_n hG dL_law_532 rfl 3 rfl ?_
        refine rr_iconst (v := 1) hG dL_law_533 (by decide) ?_
        refine rr_iadd hG dL_law_534 (fun z534 => ?_)
        refine rr_sld hG ho.1 dL_law_535 (fun z535 => ?_)
        refine rr_aload_n hG dL_law_536 rfl 0 rfl ?_
        refine rr_iload_n hG dL_law_537 rfl 3 rfl ?_
        refine rr_iconst (v := 2) hG dL_law_538 (by decide) ?_
        refine rr_iadd hG dL_law_539 (fun z539 => ?_)
        refine rr_sld hG ho.1 dL_law_540 (fun z540 => ?_)
        refine rr_aload_n hG dL_law_541 rfl 0 rfl ?_
        refine rr_iload_n hG dL_law_542 rfl 3 rfl ?_
        refine rr_iconst (v := 3) hG dL_law_543 (by decide) ?_
        refine rr_iadd hG dL_law_544 (fun z544 => ?_)
        refine rr_sld hG ho.1 dL_law_545 (fun z545 => ?_)
        refine rr_aload_n hG dL_law_546 rfl 0 rfl ?_
        refine rr_iload_n hG dL_law_547 rfl 3 rfl ?_
        refine rr_iconst (v := 4) hG dL_law_548 (by decide) ?_
        refine rr_iadd hG dL_law_549 (fun z549 => ?_)
        refine rr_sld hG ho.1 dL_law_550 (fun z550 => ?_)
        refine rr_aload_n hG dL_law_551 rfl 0 rfl ?_
        refine rr_iload_n hG dL_law_552 rfl 3 rfl ?_
        refine rr_iconst (v := 5) hG dL_law_553 (by decide) ?_
        refine rr_iadd hG dL_law_554 (fun z554 => ?_)
        refine rr_sld hG ho.1 dL_law_555 (fun z555 => ?_)
        refine rr_cVi hG [.int z535, .int z540, .int z545, .int z550, .int z555] (c_X2_meet (g_l G) (g_E G) (hG.hE.mono (by decide)) z535 z540 z545 z550 z555 s_) lk_L_59 im_X2_meet se_X2_meet rfl (by decide) (by decide) rfl rfl (Nat.le_of_ble_eq_true rfl) (Nat.le_of_ble_eq_true rfl) rfl rfl (Nat.le_of_ble_eq_true rfl) dL_law_556 (fun z556 s556 => ?_)
        refine rr_aload_n hG dL_law_559 rfl 2 rfl ?_
        refine rr_aload_n hG dL_law_560 rfl 0 rfl ?_
        refine rr_iload_n hG dL_law_561 rfl 3 rfl ?_
        refine rr_iconst (v := 1) hG dL_law_562 (by decide) ?_
        refine rr_iadd hG dL_law_563 (fun z563 => ?_)
        refine rr_sld hG ho.1 dL_law_564 (fun z564 => ?_)
        refine rr_aload_n hG dL_law_565 rfl 0 rfl ?_
        refine rr_iload_n hG dL_law_566 rfl 3 rfl ?_
        refine rr_iconst (v := 2) hG dL_law_567 (by decide) ?_
        refine rr_iadd hG dL_law_568 (fun z568 => ?_)
        refine rr_sld hG ho.1 dL_law_569 (fun z569 => ?_)
        refine rr_aload_n hG dL_law_570 rfl 0 rfl ?_
        refine rr_iload_n hG dL_law_571 rfl 3 rfl ?_
        refine rr_iconst (v := 3) hG dL_law_572 (by decide) ?_
        refine rr_iadd hG dL_law_573 (fun z573 => ?_)
        refine rr_sld hG ho.1 dL_law_574 (fun z574 => ?_)
        refine rr_aload_n hG dL_law_575 rfl 0 rfl ?_
        refine rr_iload_n hG dL_law_576 rfl 3 rfl ?_
        refine rr_iconst (v := 4) hG dL_law_577 (by decide) ?_
        refine rr_iadd hG dL_law_578 (fun z578 => ?_)
        refine rr_sld hG ho.1 dL_law_579 (fun z579 => ?_)
        refine rr_aload_n hG dL_law_580 rfl 0 rfl ?_
        refine rr_iload_n hG dL_law_581 rfl 3 rfl ?_
        refine rr_iconst (v := 5) hG dL_law_582 (by decide) ?_
        refine rr_iadd hG dL_law_583 (fun z583 => ?_)
        refine rr_sld hG ho.1 dL_law_584 (fun z584 => ?_)
        refine rr_cVi hG [.int z564, .int z569, .int z574, .int z579, .int z584] (c_X3_meet (g_l G) (g_E G) (hG.hE.mono (by decide)) z564 z569 z574 z579 z584 s556) lk_L_63 im_X3_meet se_X3_meet rfl (by decide) (by decide) rfl rfl (Nat.le_of_ble_eq_true rfl) (Nat.le_of_ble_eq_true rfl) rfl rfl (Nat.le_of_ble_eq_true rfl) dL_law_585 (fun z585 s585 => ?_)
        refine rr_icmp_eq hG 1370 dL_law_588 (by decide) ?_ ?_
        · refine rr_iinc (v := 7) (lr := [(0, .ref b_), (1, .ref (bd_ad (g_E G) 0)), (2, .ref (bd_ad (g_E G) 55))]) hG dL_law_1370 3 rfl (by decide) (by decide) rfl (fun z1370 => ?_)
          refine rr_goto (tgt := 18) hG dL_law_1373 (by decide) ?_
          exact rr_sub [1, 2, 3, 0] rfl (ih z1370 s585)
        · refine rr_iconst (v := 0) hG dL_law_591 (by decide) ?_
          exact rr_lwret hG ho dL_law_592
      refine rr_swc hG 11 593 dL_law_33 (by decide) ?_ (fun nq11 => ?_)
      · refine rr_aload_n hG dL_law_593 rfl 1 rfl ?_
        refine rr_aload_n hG dL_law_594 rfl 0 rfl ?_
        refine rr_iload_n hG dL_law_595 rfl 3 rfl ?_
        refine rr_iconst (v := 1) hG dL_law_596 (by decide) ?_
        refine rr_iadd hG dL_law_597 (fun z597 => ?_)
        refine rr_sld hG ho.1 dL_law_598 (fun z598 => ?_)
        refine rr_cVi hG [.int z598] (c_X2_strike (g_l G) (g_E G) (hG.hE.mono (by decide)) z598 s_) lk_L_64 im_X2_strike se_X2_strike rfl (by decide) (by decide) rfl rfl (Nat.le_of_ble_eq_true rfl) (Nat.le_of_ble_eq_true rfl) rfl rfl (Nat.le_of_ble_eq_true rfl) dL_law_599 (fun z599 s599 => ?_)
        refine rr_aload_n hG dL_law_602 rfl 2 rfl ?_
        refine rr_aload_n hG dL_law_603 rfl 0 rfl ?_
        refine rr_iload_n hG dL_law_604 rfl 3 rfl ?_
        refine rr_iconst (v := 1) hG dL_law_605 (by decide) ?_
        refine rr_iadd hG dL_law_606 (fun z606 => ?_)
        refine rr_sld hG ho.1 dL_law_607 (fun z607 => ?_)
        refine rr_cVi hG [.int z607] (c_X3_strike (g_l G) (g_E G) (hG.hE.mono (by decide)) z607 s599) lk_L_67 im_X3_strike se_X3_strike rfl (by decide) (by decide) rfl rfl (Nat.le_of_ble_eq_true rfl) (Nat.le_of_ble_eq_true rfl) rfl rfl (Nat.le_of_ble_eq_true rfl) dL_law_608 (fun z608 s608 => ?_)
        refine rr_icmp_eq hG 1370 dL_law_611 (by decide) ?_ ?_
        · refine rr_iinc (v := 7) (lr := [(0, .ref b_), (1, .ref (bd_ad (g_E G) 0)), (2, .ref (bd_ad (g_E G) 55))]) hG dL_law_1370 3 rfl (by decide) (by decide) rfl (fun z1370 => ?_)
          refine rr_goto (tgt := 18) hG dL_law_1373 (by decide) ?_
          exact rr_sub [1, 2, 3, 0] rfl (ih z1370 s608)
        · refine rr_iconst (v := 0) hG dL_law_614 (by decide) ?_
          exact rr_lwret hG ho dL_law_615
      refine rr_swc hG 12 616 dL_law_33 (by decide) ?_ (fun nq12 => ?_)
      · refine rr_aload_n hG dL_law_616 rfl 1 rfl ?_
        refine rr_aload_n hG dL_law_617 rfl 0 rfl ?_
        refine rr_iload_n hG dL_law_618 rfl 3 rfl ?_
        refine rr_iconst (v := 1) hG dL_law_619 (by decide) ?_
        refine rr_iadd hG dL_law_620 (fun z620 => ?_)
        refine rr_sld hG ho.1 dL_law_621 (fun z621 => ?_)
        refine rr_aload_n hG dL_law_622 rfl 0 rfl ?_
        refine rr_iload_n hG dL_law_623 rfl 3 rfl ?_
        refine rr_iconst (v := 2) hG dL_law_624 (by decide) ?_
        refine rr_iadd hG dL_law_625 (fun z625 => ?_)
        refine rr_sld hG ho.1 dL_law_626 (fun z626 => ?_)
        refine rr_aload_n hG dL_law_627 rfl 0 rfl ?_
        refine rr_iload_n hG dL_law_628 rfl 3 rfl ?_
        refine rr_iconst (v := 3) hG dL_law_629 (by decide) ?_
        refine rr_iadd hG dL_law_630 (fun z630 => ?_)
        refine rr_sld hG ho.1 dL_law_631 (fun z631 => ?_)
        refine rr_if_eq hG 639 dL_law_632 (by decide) ?_ ?_
        · refine rr_iconst (v := 0) hG dL_law_639 (by decide) ?_
          exact (b_L_law_640 hG ho ih x3 0 z626 z621 s_)
        · refine rr_iconst (v := 1) hG dL_law_635 (by decide) ?_
          refine rr_goto (tgt := 640) hG dL_law_636 (by decide) ?_
          exact (b_L_law_640 hG ho ih x3 1 z626 z621 s_)
      refine rr_swc hG 13 675 dL_law_33 (by decide) ?_ (fun nq13 => ?_)
      · refine rr_aload_n hG dL_law_675 rfl 1 rfl ?_
        refine rr_aload_n hG dL_law_676 rfl 0 rfl ?_
        refine rr_iload_n hG dL_law_677 rfl 3 rfl ?_
        refine rr_iconst (v := 1) hG dL_law_678 (by decide) ?_
        refine rr_iadd hG dL_law_679 (fun z679 => ?_)
        refine rr_sld hG ho.1 dL_law_680 (fun z680 => ?_)
        refine rr_aload_n hG dL_law_681 rfl 0 rfl ?_
        refine rr_iload_n hG dL_law_682 rfl 3 rfl ?_
        refine rr_iconst (v := 2) hG dL_law_683 (by decide) ?_
        refine rr_iadd hG dL_law_684 (fun z684 => ?_)
        refine rr_sld hG ho.1 dL_law_685 (fun z685 => ?_)
        refine rr_aload_n hG dL_law_686 rfl 0 rfl ?_
        refine rr_iload_n hG dL_law_687 rfl 3 rfl ?_
        refine rr_iconst (v := 3) hG dL_law_688 (by decide) ?_
        refine rr_iadd hG dL_law_689 (fun z689 => ?_)
        refine rr_sld hG ho.1 dL_law_690 (fun z690 => ?_)
        refine rr_aload_n hG dL_law_691 rfl 0 rfl ?_
        refine rr_iload_n hG dL_law_692 rfl 3 rfl ?_
        refine rr_iconst (v := 4) hG dL_law_693 (by decide) ?_
        refine rr_iadd hG dL_law_694 (fun z694 => ?_)
        refine rr_sld hG ho.1 dL_law_695 (fun z695 => ?_)
        refine rr_cVi hG [.int z680, .int z685, .int z690, .int z695] (c_X2_clock (g_l G) (g_E G) (hG.hE.mono (by decide)) z680 z685 z690 z695 s_) lk_L_73 im_X2_clock se_X2_clock rfl (by decide) (by decide) rfl rfl (Nat.le_of_ble_eq_true rfl) (Nat.le_of_ble_eq_true rfl) rfl rfl (Nat.le_of_ble_eq_true rfl) dL_law_696 (fun z696 s696 => ?_)
        refine rr_aload_n hG dL_law_699 rfl 2 rfl ?_
        refine rr_aload_n hG dL_law_700 rfl 0 rfl ?_
        refine rr_iload_n hG dL_law_701 rfl 3 rfl ?_
        refine rr_iconst (v := 1) hG dL_law_702 (by decide) ?_
        refine rr_iadd hG dL_law_703 (fun z703 => ?_)
        refine rr_sld hG ho.1 dL_law_704 (fun z704 => ?_)
        refine rr_aload_n hG dL_law_705 rfl 0 rfl ?_
        refine rr_iload_n hG dL_law_706 rfl 3 rfl ?_
        refine rr_iconst (v := 2) hG dL_law_707 (by decide) ?_
        refine rr_iadd hG dL_law_708 (fun z708 => ?_)
        refine rr_sld hG ho.1 dL_law_709 (fun z709 => ?_)
        refine rr_aload_n hG dL_law_710 rfl 0 rfl ?_
        refine rr_iload_n hG dL_law_711 rfl 3 rfl ?_
        refine rr_iconst (v := 3) hG dL_law_712 (by decide) ?_
        refine rr_iadd hG dL_law_713 (fun z713 => ?_)
        refine rr_sld hG ho.1 dL_law_714 (fun z714 => ?_)
        refine rr_aload_n hG dL_law_715 rfl 0 rfl ?_
        refine rr_iload_n hG dL_law_716 rfl 3 rfl ?_
        refine rr_iconst (v := 4) hG dL_law_717 (by decide) ?_
        refine rr_iadd hG dL_law_718 (fun z718 => ?_)
        refine rr_sld hG ho.1 dL_law_719 (fun z719 => ?_)
        refine rr_cVi hG [.int z704, .int z709, .int z714, .int z719] (c_X3_clock (g_l G) (g_E G) (hG.hE.mono (by decide)) z704 z709 z714 z719 s696) lk_L_77 im_X3_clock se_X3_clock rfl (by decide) (by decide) rfl rfl (Nat.le_of_ble_eq_true rfl) (Nat.le_of_ble_eq_true rfl) rfl rfl (Nat.le_of_ble_eq_true rfl) dL_law_720 (fun z720 s720 => ?_)
        refine rr_icmp_eq hG 1370 dL_law_723 (by decide) ?_ ?_
        · refine rr_iinc (v := 7) (lr := [(0, .ref b_), (1, .ref (bd_ad (g_E G) 0)), (2, .ref (bd_ad (g_E G) 55))]) hG dL_law_1370 3 rfl (by decide) (by decide) rfl (fun z1370 => ?_)
          refine rr_goto (tgt := 18) hG dL_law_1373 (by decide) ?_
          exact rr_sub [1, 2, 3, 0] rfl (ih z1370 s720)
        · refine rr_iconst (v := 0) hG dL_law_726 (by decide) ?_
          exact rr_lwret hG ho dL_law_727
      refine rr_swc hG 14 728 dL_law_33 (by decide) ?_ (fun nq14 => ?_)
      · refine rr_aload_n hG dL_law_728 rfl 1 rfl ?_
        refine rr_aload_n hG dL_law_729 rfl 0 rfl ?_
        refine rr_iload_n hG dL_law_730 rfl 3 rfl ?_
        refine rr_iconst (v := 1) hG dL_law_731 (by decide) ?_
        refine rr_iadd hG dL_law_732 (fun z732 => ?_)
        refine rr_sld hG ho.1 dL_law_733 (fun z733 => ?_)
        refine rr_aload_n hG dL_law_734 rfl 0 rfl ?_
        refine rr_iload_n hG dL_law_735 rfl 3 rfl ?_
        refine rr_iconst (v := 2) hG dL_law_736 (by decide) ?_
        refine rr_iadd hG dL_law_737 (fun z737 => ?_)
        refine rr_sld hG ho.1 dL_law_738 (fun z738 => ?_)
        refine rr_cVi hG [.int z733, .int z738] (c_X2_warm (g_l G) (g_E G) (hG.hE.mono (by decide)) z733 z738 s_) lk_L_78 im_X2_warm se_X2_warm rfl (by decide) (by decide) rfl rfl (Nat.le_of_ble_eq_true rfl) (Nat.le_of_ble_eq_true rfl) rfl rfl (Nat.le_of_ble_eq_true rfl) dL_law_739 (fun z739 s739 => ?_)
        refine rr_aload_n hG dL_law_742 rfl 2 rfl ?_
        refine rr_aload_n hG dL_law_743 rfl 0 rfl ?_
        refine rr_iload_n hG dL_law_744 rfl 3 rfl ?_
        refine rr_iconst (v := 1) hG dL_law_745 (by decide) ?_
        refine rr_iadd hG dL_law_746 (fun z746 => ?_)
        refine rr_sld hG ho.1 dL_law_747 (fun z747 => ?_)
        refine rr_aload_n hG dL_law_748 rfl 0 rfl ?_
        refine rr_iload_n hG dL_law_749 rfl 3 rfl ?_
        refine rr_iconst (v := 2) hG dL_law_750 (by decide) ?_
        refine rr_iadd hG dL_law_751 (fun z751 => ?_)
        refine rr_sld hG ho.1 dL_law_752 (fun z752 => ?_)
        refine rr_cVi hG [.int z747, .int z752] (c_X3_warm (g_l G) (g_E G) (hG.hE.mono (by decide)) z747 z752 s739) lk_L_81 im_X3_warm se_X3_warm rfl (by decide) (by decide) rfl rfl (Nat.le_of_ble_eq_true rfl) (Nat.le_of_ble_eq_true rfl) rfl rfl (Nat.le_of_ble_eq_true rfl) dL_law_753 (fun z753 s753 => ?_)
        refine rr_icmp_eq hG 1370 dL_law_756 (by decide) ?_ ?_
        · refine rr_iinc (v := 7) (lr := [(0, .ref b_), (1, .ref (bd_ad (g_E G) 0)), (2, .ref (bd_ad (g_E G) 55))]) hG dL_law_1370 3 rfl (by decide) (by decide) rfl (fun z1370 => ?_)
          refine rr_goto (tgt := 18) hG dL_law_1373 (by decide) ?_
          exact rr_sub [1, 2, 3, 0] rfl (ih z1370 s753)
        · refine rr_iconst (v := 0) hG dL_law_759 (by decide) ?_
          exact rr_lwret hG ho dL_law_760
      refine rr_swc hG 15 761 dL_law_33 (by decide) ?_ (fun nq15 => ?_)
      · refine rr_aload_n hG dL_law_761 rfl 1 rfl ?_
        refine rr_aload_n hG dL_law_762 rfl 0 rfl ?_
        refine rr_iload_n hG dL_law_763 rfl 3 rfl ?_
        refine rr_iconst (v := 1) hG dL_law_764 (by decide) ?_
        refine rr_iadd hG dL_law_765 (fun z765 => ?_)
        refine rr_sld hG ho.1 dL_law_766 (fun z766 => ?_)
        refine rr_aload_n hG dL_law_767 rfl 0 rfl ?_
        refine rr_iload_n hG dL_law_768 rfl 3 rfl ?_
        refine rr_iconst (v := 2) hG dL_law_769 (by decide) ?_
        refine rr_iadd hG dL_law_770 (fun z770 => ?_)
        refine rr_sld hG ho.1 dL_law_771 (fun z771 => ?_)
        refine rr_cVi hG [.int z766, .int z771] (c_X2_jumped (g_l G) (g_E G) (hG.hE.mono (by decide)) z766 z771 s_) lk_L_82 im_X2_jumped se_X2_jumped rfl (by decide) (by decide) rfl rfl (Nat.le_of_ble_eq_true rfl) (Nat.le_of_ble_eq_true rfl) rfl rfl (Nat.le_of_ble_eq_true rfl) dL_law_772 (fun z772 s772 => ?_)
        refine rr_aload_n hG dL_law_775 rfl 2 rfl ?_
        refine rr_aload_n hG dL_law_776 rfl 0 rfl ?_
        refine rr_iload_n hG dL_law_777 rfl 3 rfl ?_
        refine rr_iconst (v := 1) hG dL_law_778 (by decide) ?_
        refine rr_iadd hG dL_law_779 (fun z779 => ?_)
        refine rr_sld hG ho.1 dL_law_780 (fun z780 => ?_)
        refine rr_aload_n hG dL_law_781 rfl 0 rfl ?_
        refine rr_iload_n hG dL_law_782 rfl 3 rfl ?_
        refine rr_iconst (v := 2) hG dL_law_783 (by decide) ?_
        refine rr_iadd hG dL_law_784 (fun z784 => ?_)
        refine rr_sld hG ho.1 dL_law_785 (fun z785 => ?_)
        refine rr_cVi hG [.int z780, .int z785] (c_X3_jumped (g_l G) (g_E G) (hG.hE.mono (by decide)) z780 z785 s772) lk_L_85 im_X3_jumped se_X3_jumped rfl (by decide) (by decide) rfl rfl (Nat.le_of_ble_eq_true rfl) (Nat.le_of_ble_eq_true rfl) rfl rfl (Nat.le_of_ble_eq_true rfl) dL_law_786 (fun z786 s786 => ?_)
        refine rr_icmp_eq hG 1370 dL_law_789 (by decide) ?_ ?_
        · refine rr_iinc (v := 7) (lr := [(0, .ref b_), (1, .ref (bd_ad (g_E G) 0)), (2, .ref (bd_ad (g_E G) 55))]) hG dL_law_1370 3 rfl (by decide) (by decide) rfl (fun z1370 => ?_)
          refine rr_goto (tgt := 18) hG dL_law_1373 (by decide) ?_
          exact rr_sub [1, 2, 3, 0] rfl (ih z1370 s786)
        · refine rr_iconst (v := 0) hG dL_law_792 (by decide) ?_
          exact rr_lwret hG ho dL_law_793
      refine rr_swc hG 16 794 dL_law_33 (by decide) ?_ (fun nq16 => ?_)
      · refine rr_aload_n hG dL_law_794 rfl 1 rfl ?_
        refine rr_aload_n hG dL_law_795 rfl 0 rfl ?_
        refine rr_iload_n hG dL_law_796 rfl 3 rfl ?_
        refine rr_iconst (v := 1) hG dL_law_797 (by decide) ?_
        refine rr_iadd hG dL_law_798 (fun z798 => ?_)
        refine rr_sld hG ho.1 dL_law_799 (fun z799 => ?_)
        refine rr_aload_n hG dL_law_800 rfl 0 rfl ?_
        refine rr_iload_n hG dL_law_801 rfl 3 rfl ?_
        refine rr_iconst (v := 2) hG dL_law_802 (by decide) ?_
        refine rr_iadd hG dL_law_803 (fun z803 => ?_)
        refine rr_sld hG ho.1 dL_law_804 (fun z804 => ?_)
        refine rr_aload_n hG dL_law_805 rfl 0 rfl ?_
        refine rr_iload_n hG dL_law_806 rfl 3 rfl ?_
        refine rr_iconst (v := 3) hG dL_law_807 (by decide) ?_
        refine rr_iadd hG dL_law_808 (fun z808 => ?_)
        refine rr_sld hG ho.1 dL_law_809 (fun z809 => ?_)
        refine rr_aload_n hG dL_law_810 rfl 0 rfl ?_
        refine rr_iload_n hG dL_law_811 rfl 3 rfl ?_
        refine rr_iconst (v := 4) hG dL_law_812 (by decide) ?_
        refine rr_iadd hG dL_law_813 (fun z813 => ?_)
        refine rr_sld hG ho.1 dL_law_814 (fun z814 => ?_)
        refine rr_cVi hG [.int z799, .int z804, .int z809, .int z814] (c_X2_ahead (g_l G) (g_E G) (hG.hE.mono (by decide)) z799 z804 z809 z814 s_) lk_L_86 im_X2_ahead se_X2_ahead rfl (by decide) (by decide) rfl rfl (Nat.le_of_ble_eq_true rfl) (Nat.le_of_ble_eq_true rfl) rfl rfl (Nat.le_of_ble_eq_true rfl) dL_law_815 (fun z815 s815 => ?_)
        refine rr_aload_n hG dL_law_818 rfl 2 rfl ?_
        refine rr_aload_n hG dL_law_819 rfl 0 rfl ?_
        refine rr_iload_n hG dL_law_820 rfl 3 rfl ?_
        refine rr_iconst (v := 1) hG dL_law_821 (by decide) ?_
        refine rr_iadd hG dL_law_822 (fun z822 => ?_)
        refine rr_sld hG ho.1 dL_law_823 (fun z823 => ?_)
        refine rr_aload_n hG dL_law_824 rfl 0 rfl ?_
        refine rr_iload_n hG dL_law_825 rfl 3 rfl ?_
        refine rr_iconst (v := 2) hG dL_law_826 (by decide) ?_
        refine rr_iadd hG dL_law_827 (fun z827 => ?_)
        refine rr_sld hG ho.1 dL_law_828 (fun z828 => ?_)
        refine rr_aload_n hG dL_law_829 rfl 0 rfl ?_
        refine rr_iload_n hG dL_law_830 rfl 3 rfl ?_
        refine rr_iconst (v := 3) hG dL_law_831 (by decide) ?_
        refine rr_iadd hG dL_law_832 (fun z832 => ?_)
        refine rr_sld hG ho.1 dL_law_833 (fun z833 => ?_)
        refine rr_aload_n hG dL_law_834 rfl 0 rfl ?_
        refine rr_iload_n hG dL_law_835 rfl 3 rfl ?_
        refine rr_iconst (v := 4) hG dL_law_836 (by decide) ?_
        refine rr_iadd hG dL_law_837 (fun z837 => ?_)
        refine rr_sld hG ho.1 dL_law_838 (fun z838 => ?_)
        refine rr_cVi hG [.int z823, .int z828, .int z833, .int z838] (c_X3_ahead (g_l G) (g_E G) (hG.hE.mono (by decide)) z823 z828 z833 z838 s815) lk_L_89 im_X3_ahead se_X3_ahead rfl (by decide) (by decide) rfl rfl (Nat.le_of_ble_eq_true rfl) (Nat.le_of_ble_eq_true rfl) rfl rfl (Nat.le_of_ble_eq_true rfl) dL_law_839 (fun z839 s839 => ?_)
        refine rr_icmp_eq hG 1370 dL_law_842 (by decide) ?_ ?_
        · refine rr_iinc (v := 7) (lr := [(0, .ref b_), (1, .ref (bd_ad (g_E G) 0)), (2, .ref (bd_ad (g_E G) 55))]) hG dL_law_1370 3 rfl (by decide) (by decide) rfl (fun z1370 => ?_)
          refine rr_goto (tgt := 18) hG dL_law_1373 (by decide) ?_
          exact rr_sub [1, 2, 3, 0] rfl (ih z1370 s839)
        · refine rr_iconst (v := 0) hG dL_law_845 (by decide) ?_
          exact rr_lwret hG ho dL_law_846
      refine rr_swc hG 17 847 dL_law_33 (by decide) ?_ (fun nq17 => ?_)
      · refine rr_aload_n hG dL_law_847 rfl 1 rfl ?_
        refine rr_aload_n hG dL_law_848 rfl 0 rfl ?_
        refine rr_iload_n hG dL_law_849 rfl 3 rfl ?_
        refine rr_iconst (v := 1) hG dL_law_850 (by decide) ?_
        refine rr_iadd hG dL_law_851 (fun z851 => ?_)
        refine rr_sld hG ho.1 dL_law_852 (fun z852 => ?_)
        refine rr_aload_n hG dL_law_853 rfl 0 rfl ?_
        refine rr_iload_n hG dL_law_854 rfl 3 rfl ?_
        refine rr_iconst (v := 2) hG dL_law_855 (by decide) ?_
        refine rr_iadd hG dL_law_856 (fun z856 => ?_)
        refine rr_sld hG ho.1 dL_law_857 (fun z857 => ?_)
        refine rr_aload_n hG dL_law_858 rfl 0 rfl ?_
        refine rr_iload_n hG dL_law_859 rfl 3 rfl ?_
        refine rr_iconst (v := 3) hG dL_law_860 (by decide) ?_
        refine rr_iadd hG dL_law_861 (fun z861 => ?_)
        refine rr_sld hG ho.1 dL_law_862 (fun z862 => ?_)
        refine rr_cVi hG [.int z852, .int z857, .int z862] (c_X2_gains (g_l G) (g_E G) (hG.hE.mono (by decide)) z852 z857 z862 s_) lk_L_90 im_X2_gains se_X2_gains rfl (by decide) (by decide) rfl rfl (Nat.le_of_ble_eq_true rfl) (Nat.le_of_ble_eq_true rfl) rfl rfl (Nat.le_of_ble_eq_true rfl) dL_law_863 (fun z863 s863 => ?_)
        refine rr_aload_n hG dL_law_866 rfl 2 rfl ?_
        refine rr_aload_n hG dL_law_867 rfl 0 rfl ?_
        refine rr_iload_n hG dL_law_868 rfl 3 rfl ?_
        refine rr_iconst (v := 1) hG dL_law_869 (by decide) ?_
        refine rr_iadd hG dL_law_870 (fun z870 => ?_)
        refine rr_sld hG ho.1 dL_law_871 (fun z871 => ?_)
        refine rr_aload_n hG dL_law_872 rfl 0 rfl ?_
        refine rr_iload_n hG dL_law_873 rfl 3 rfl ?_
        refine rr_iconst (v := 2) hG dL_law_874 (by decide) ?_
        refine rr_iadd hG dL_law_875 (fun z875 => ?_)
        refine rr_sld hG ho.1 dL_law_876 (fun z876 => ?_)
        refine rr_aload_n hG dL_law_877 rfl 0 rfl ?_
        refine rr_iload_n hG dL_law_878 rfl 3 rfl ?_
        refine rr_iconst (v := 3) hG dL_law_879 (by decide) ?_
        refine rr_iadd hG dL_law_880 (fun z880 => ?_)
        refine rr_sld hG ho.1 dL_law_881 (fun z881 => ?_)
        refine rr_cVi hG [.int z871, .int z876, .int z881] (c_X3_gains (g_l G) (g_E G) (hG.hE.mono (by decide)) z871 z876 z881 s863) lk_L_93 im_X3_gains se_X3_gains rfl (by decide) (by decide) rfl rfl (Nat.le_of_ble_eq_true rfl) (Nat.le_of_ble_eq_true rfl) rfl rfl (Nat.le_of_ble_eq_true rfl) dL_law_882 (fun z882 s882 => ?_)
        refine rr_icmp_eq hG 1370 dL_law_885 (by decide) ?_ ?_
        · refine rr_iinc (v := 7) (lr := [(0, .ref b_), (1, .ref (bd_ad (g_E G) 0)), (2, .ref (bd_ad (g_E G) 55))]) hG dL_law_1370 3 rfl (by decide) (by decide) rfl (fun z1370 => ?_)
          refine rr_goto (tgt := 18) hG dL_law_1373 (by decide) ?_
          exact rr_sub [1, 2, 3, 0] rfl (ih z1370 s882)
        · refine rr_iconst (v := 0) hG dL_law_888 (by decide) ?_
          exact rr_lwret hG ho dL_law_889
      refine rr_swc hG 18 890 dL_law_33 (by decide) ?_ (fun nq18 => ?_)
      · refine rr_aload_n hG dL_law_890 rfl 1 rfl ?_
        refine rr_aload_n hG dL_law_891 rfl 0 rfl ?_
        refine rr_iload_n hG dL_law_892 rfl 3 rfl ?_
        refine rr_iconst (v := 1) hG dL_law_893 (by decide) ?_
        refine rr_iadd hG dL_law_894 (fun z894 => ?_)
        refine rr_sld hG ho.1 dL_law_895 (fun z895 => ?_)
        refine rr_aload_n hG dL_law_896 rfl 0 rfl ?_
        refine rr_iload_n hG dL_law_897 rfl 3 rfl ?_
        refine rr_iconst (v := 2) hG dL_law_898 (by decide) ?_
        refine rr_iadd hG dL_law_899 (fun z899 => ?_)
        refine rr_sld hG ho.1 dL_law_900 (fun z900 => ?_)
        refine rr_aload_n hG dL_law_901 rfl 0 rfl ?_
        refine rr_iload_n hG dL_law_902 rfl 3 rfl ?_
        refine rr_iconst (v := 3) hG dL_law_903 (by decide) ?_
        refine rr_iadd hG dL_law_904 (fun z904 => ?_)
        refine rr_sld hG ho.1 dL_law_905 (fun z905 => ?_)
        refine rr_aload_n hG dL_law_906 rfl 0 rfl ?_
        refine rr_iload_n hG dL_law_907 rfl 3 rfl ?_
        refine rr_iconst (v := 4) hG dL_law_908 (by decide) ?_
        refine rr_iadd hG dL_law_909 (fun z909 => ?_)
        refine rr_sld hG ho.1 dL_law_910 (fun z910 => ?_)
        refine rr_aload_n hG dL_law_911 rfl 0 rfl ?_
        refine rr_iload_n hG dL_law_912 rfl 3 rfl ?_
        refine rr_iconst (v := 5) hG dL_law_913 (by decide) ?_
        refine rr_iadd hG dL_law_914 (fun z914 => ?_)
        refine rr_sld hG ho.1 dL_law_915 (fun z915 => ?_)
        refine rr_cVi hG [.int z895, .int z900, .int z905, .int z910, .int z915] (c_X2_place (g_l G) (g_E G) (hG.hE.mono (by decide)) z895 z900 z905 z910 z915 s_) lk_L_94 im_X2_place se_X2_place rfl (by decide) (by decide) rfl rfl (Nat.le_of_ble_eq_true rfl) (Nat.le_of_ble_eq_true rfl) rfl rfl (Nat.le_of_ble_eq_true rfl) dL_law_916 (fun z916 s916 => ?_)
        refine rr_aload_n hG dL_law_919 rfl 2 rfl ?_
        refine rr_aload_n hG dL_law_920 rfl 0 rfl ?_
        refine rr_iload_n hG dL_law_921 rfl 3 rfl ?_
        refine rr_iconst (v := 1) hG dL_law_922 (by decide) ?_
        refine rr_iadd hG dL_law_923 (fun z923 => ?_)
        refine rr_sld hG ho.1 dL_law_924 (fun z924 => ?_)
        refine rr_aload_n hG dL_law_925 rfl 0 rfl ?_
        refine rr_iload_n hG dL_law_926 rfl 3 rfl ?_
        refine rr_iconst (v := 2) hG dL_law_927 (by decide) ?_
        refine rr_iadd hG dL_law_928 (fun z928 => ?_)
        refine rr_sld hG ho.1 dL_law_929 (fun z929 => ?_)
        refine rr_aload_n hG dL_law_930 rfl 0 rfl ?_
        refine rr_iload_n hG dL_law_931 rfl 3 rfl ?_
        refine rr_iconst (v := 3) hG dL_law_932 (by decide) ?_
        refine rr_iadd hG dL_law_933 (fun z933 => ?_)
        refine rr_sld hG ho.1 dL_law_934 (fun z934 => ?_)
        refine rr_aload_n hG dL_law_935 rfl 0 rfl ?_
        refine rr_iload_n hG dL_law_936 rfl 3 rfl ?_
        refine rr_iconst (v := 4) hG dL_law_937 (by decide) ?_
        refine rr_iadd hG dL_law_938 (fun z938 => ?_)
        refine rr_sld hG ho.1 dL_law_939 (fun z939 => ?_)
        refine rr_aload_n hG dL_law_940 rfl 0 rfl ?_
        refine rr_iload_n hG dL_law_941 rfl 3 rfl ?_
        refine rr_iconst (v := 5) hG dL_law_942 (by decide) ?_
        refine rr_iadd hG dL_law_943 (fun z943 => ?_)
        refine rr_sld hG ho.1 dL_law_944 (fun z944 => ?_)
        refine rr_cVi hG [.int z924, .int z929, .int z934, .int z939, .int z944] (c_X3_place (g_l G) (g_E G) (hG.hE.mono (by decide)) z924 z929 z934 z939 z944 s916) lk_L_97 im_X3_place se_X3_place rfl (by decide) (by decide) rfl rfl (Nat.le_of_ble_eq_true rfl) (Nat.le_of_ble_eq_true rfl) rfl rfl (Nat.le_of_ble_eq_true rfl) dL_law_945 (fun z945 s945 => ?_)
        refine rr_icmp_eq hG 1370 dL_law_948 (by decide) ?_ ?_
        · refine rr_iinc (v := 7) (lr := [(0, .ref b_), (1, .ref (bd_ad (g_E G) 0)), (2, .ref (bd_ad (g_E G) 55))]) hG dL_law_1370 3 rfl (by decide) (by decide) rfl (fun z1370 => ?_)
          refine rr_goto (tgt := 18) hG dL_law_1373 (by decide) ?_
          exact rr_sub [1, 2, 3, 0] rfl (ih z1370 s945)
        · refine rr_iconst (v := 0) hG dL_law_951 (by decide) ?_
          exact rr_lwret hG ho dL_law_952
      refine rr_swc hG 19 953 dL_law_33 (by decide) ?_ (fun nq19 => ?_)
      · refine rr_aload_n hG dL_law_953 rfl 1 rfl ?_
        refine rr_aload_n hG dL_law_954 rfl 0 rfl ?_
        refine rr_iload_n hG dL_law_955 rfl 3 rfl ?_
        refine rr_iconst (v := 1) hG dL_law_956 (by decide) ?_
        refine rr_iadd hG dL_law_957 (fun z957 => ?_)
        refine rr_sld hG ho.1 dL_law_958 (fun z958 => ?_)
        refine rr_aload_n hG dL_law_959 rfl 0 rfl ?_
        refine rr_iload_n hG dL_law_960 rfl 3 rfl ?_
        refine rr_iconst (v := 2) hG dL_law_961 (by decide) ?_
        refine rr_iadd hG dL_law_962 (fun z962 => ?_)
        refine rr_sld hG ho.1 dL_law_963 (fun z963 => ?_)
        refine rr_aload_n hG dL_law_964 rfl 0 rfl ?_
        refine rr_iload_n hG dL_law_965 rfl 3 rfl ?_
        refine rr_iconst (v := 3) hG dL_law_966 (by decide) ?_
        refine rr_iadd hG dL_law_967 (fun z967 => ?_)
        refine rr_sld hG ho.1 dL_law_968 (fun z968 => ?_)
        refine rr_aload_n hG dL_law_969 rfl 0 rfl ?_
        refine rr_iload_n hG dL_law_970 rfl 3 rfl ?_
        refine rr_iconst (v := 4) hG dL_law_971 (by decide) ?_
        refine rr_iadd hG dL_law_972 (fun z972 => ?_)
        refine rr_sld hG ho.1 dL_law_973 (fun z973 => ?_)
        refine rr_aload_n hG dL_law_974 rfl 0 rfl ?_
        refine rr_iload_n hG dL_law_975 rfl 3 rfl ?_
        refine rr_iconst (v := 5) hG dL_law_976 (by decide) ?_
        refine rr_iadd hG dL_law_977 (fun z977 => ?_)
        refine rr_sld hG ho.1 dL_law_978 (fun z978 => ?_)
        refine rr_cVi hG [.int z958, .int z963, .int z968, .int z973, .int z978] (c_X2_reads (g_l G) (g_E G) (hG.hE.mono (by decide)) z958 z963 z968 z973 z978 s_) lk_L_98 im_X2_reads se_X2_reads rfl (by decide) (by decide) rfl rfl (Nat.le_of_ble_eq_true rfl) (Nat.le_of_ble_eq_true rfl) rfl rfl (Nat.le_of_ble_eq_true rfl) dL_law_979 (fun z979 s979 => ?_)
        refine rr_aload_n hG dL_law_982 rfl 2 rfl ?_
        refine rr_aload_n hG dL_law_983 rfl 0 rfl ?_
        refine rr_iload_n hG dL_law_984 rfl 3 rfl ?_
        refine rr_iconst (v := 1) hG dL_law_985 (by decide) ?_
        refine rr_iadd hG dL_law_986 (fun z986 => ?_)
        refine rr_sld hG ho.1 dL_law_987 (fun z987 => ?_)
        refine rr_aload_n hG dL_law_988 rfl 0 rfl ?_
        refine rr_iload_n hG dL_law_989 rfl 3 rfl ?_
        refine rr_iconst (v := 2) hG dL_law_990 (by decide) ?_
        refine rr_iadd hG dL_law_991 (fun z991 => ?_)
        refine rr_sld hG ho.1 dL_law_992 (fun z992 => ?_)
        refine rr_aload_n hG dL_law_993 rfl 0 rfl ?_
        refine rr_iload_n hG dL_law_994 rfl 3 rfl ?_
        refine rr_iconst (v := 3) hG dL_law_995 (by decide) ?_
        refine rr_iadd hG dL_law_996 (fun z996 => ?_)
        refine rr_sld hG ho.1 dL_law_997 (fun z997 => ?_)
        refine rr_aload_n hG dL_law_998 rfl 0 rfl ?_
        refine rr_iload_n hG dL_law_999 rfl 3 rfl ?_
        refine rr_iconst (v := 4) hG dL_law_1000 (by decide) ?_
        refine rr_iadd hG dL_law_1001 (fun z1001 => ?_)
        refine rr_sld hG ho.1 dL_law_1002 (fun z1002 => ?_)
        refine rr_aload_n hG dL_law_1003 rfl 0 rfl ?_
        refine rr_iload_n hG dL_law_1004 rfl 3 rfl ?_
        refine rr_iconst (v := 5) hG dL_law_1005 (by decide) ?_
        refine rr_iadd hG dL_law_1006 (fun z1006 => ?_)
        refine rr_sld hG ho.1 dL_law_1007 (fun z1007 => ?_)
        refine rr_cVi hG [.int z987, .int z992, .int z997, .int z1002, .int z1007] (c_X3_reads (g_l G) (g_E G) (hG.hE.mono (by decide)) z987 z992 z997 z1002 z1007 s979) lk_L_101 im_X3_reads se_X3_reads rfl (by decide) (by decide) rfl rfl (Nat.le_of_ble_eq_true rfl) (Nat.le_of_ble_eq_true rfl) rfl rfl (Nat.le_of_ble_eq_true rfl) dL_law_1008 (fun z1008 s1008 => ?_)
        refine rr_icmp_eq hG 1370 dL_law_1011 (by decide) ?_ ?_
        · refine rr_iinc (v := 7) (lr := [(0, .ref b_), (1, .ref (bd_ad (g_E G) 0)), (2, .ref (bd_ad (g_E G) 55))]) hG dL_law_1370 3 rfl (by decide) (by decide) rfl (fun z1370 => ?_)
          refine rr_goto (tgt := 18) hG dL_law_1373 (by decide) ?_
          exact rr_sub [1, 2, 3, 0] rfl (ih z1370 s1008)
        · refine rr_iconst (v := 0) hG dL_law_1014 (by decide) ?_
          exact rr_lwret hG ho dL_law_1015
      refine rr_swc hG 20 1016 dL_law_33 (by decide) ?_ (fun nq20 => ?_)
      · refine rr_aload_n hG dL_law_1016 rfl 1 rfl ?_
        refine rr_aload_n hG dL_law_1017 rfl 0 rfl ?_
        refine rr_iload_n hG dL_law_1018 rfl 3 rfl ?_
        refine rr_iconst (v := 1) hG dL_law_1019 (by decide) ?_
        refine rr_iadd hG dL_law_1020 (fun z1020 => ?_)
        refine rr_sld hG ho.1 dL_law_1021 (fun z1021 => ?_)
        refine rr_aload_n hG dL_law_1022 rfl 0 rfl ?_
        refine rr_iload_n hG dL_law_1023 rfl 3 rfl ?_
        refine rr_iconst (v := 2) hG dL_law_1024 (by decide) ?_
        refine rr_iadd hG dL_law_1025 (fun z1025 => ?_)
        refine rr_sld hG ho.1 dL_law_1026 (fun z1026 => ?_)
        refine rr_cVi hG [.int z1021, .int z1026] (c_X2_weight (g_l G) (g_E G) (hG.hE.mono (by decide)) z1021 z1026 s_) lk_L_102 im_X2_weight se_X2_weight rfl (by decide) (by decide) rfl rfl (Nat.le_of_ble_eq_true rfl) (Nat.le_of_ble_eq_true rfl) rfl rfl (Nat.le_of_ble_eq_true rfl) dL_law_1027 (fun z1027 s1027 => ?_)
        refine rr_aload_n hG dL_law_1030 rfl 2 rfl ?_
        refine rr_aload_n hG dL_law_1031 rfl 0 rfl ?_
        refine rr_iload_n hG dL_law_1032 rfl 3 rfl ?_
        refine rr_iconst (v := 1) hG dL_law_1033 (by decide) ?_
        refine rr_iadd hG dL_law_1034 (fun z1034 => ?_)
        refine rr_sld hG ho.1 dL_law_1035 (fun z1035 => ?_)
        refine rr_aload_n hG dL_law_1036 rfl 0 rfl ?_
        refine rr_iload_n hG dL_law_1037 rfl 3 rfl ?_
        refine rr_iconst (v := 2) hG dL_law_1038 (by decide) ?_
        refine rr_iadd hG dL_law_1039 (fun z1039 => ?_)
        refine rr_sld hG ho.1 dL_law_1040 (fun z1040 => ?_)
        refine rr_cVi hG [.int z1035, .int z1040] (c_X3_weight (g_l G) (g_E G) (hG.hE.mono (by decide)) z1035 z1040 s1027) lk_L_105 im_X3_weight se_X3_weight rfl (by decide) (by decide) rfl rfl (Nat.le_of_ble_eq_true rfl) (Nat.le_of_ble_eq_true rfl) rfl rfl (Nat.le_of_ble_eq_true rfl) dL_law_1041 (fun z1041 s1041 => ?_)
        refine rr_icmp_eq hG 1370 dL_law_1044 (by decide) ?_ ?_
        · refine rr_iinc (v := 7) (lr := [(0, .ref b_), (1, .ref (bd_ad (g_E G) 0)), (2, .ref (bd_ad (g_E G) 55))]) hG dL_law_1370 3 rfl (by decide) (by decide) rfl (fun z1370 => ?_)
          refine rr_goto (tgt := 18) hG dL_law_1373 (by decide) ?_
          exact rr_sub [1, 2, 3, 0] rfl (ih z1370 s1041)
        · refine rr_iconst (v := 0) hG dL_law_1047 (by decide) ?_
          exact rr_lwret hG ho dL_law_1048
      refine rr_swc hG 21 1049 dL_law_33 (by decide) ?_ (fun nq21 => ?_)
      · refine rr_aload_n hG dL_law_1049 rfl 1 rfl ?_
        refine rr_aload_n hG dL_law_1050 rfl 0 rfl ?_
        refine rr_iload_n hG dL_law_1051 rfl 3 rfl ?_
        refine rr_iconst (v := 1) hG dL_law_1052 (by decide) ?_
        refine rr_iadd hG dL_law_1053 (fun z1053 => ?_)
        refine rr_sld hG ho.1 dL_law_1054 (fun z1054 => ?_)
        refine rr_aload_n hG dL_law_1055 rfl 0 rfl ?_
        refine rr_iload_n hG dL_law_1056 rfl 3 rfl ?_
        refine rr_iconst (v := 2) hG dL_law_1057 (by decide) ?_
        refine rr_iadd hG dL_law_1058 (fun z1058 => ?_)
        refine rr_sld hG ho.1 dL_law_1059 (fun z1059 => ?_)
        refine rr_aload_n hG dL_law_1060 rfl 0 rfl ?_
        refine rr_iload_n hG dL_law_1061 rfl 3 rfl ?_
        refine rr_iconst (v := 3) hG dL_law_1062 (by decide) ?_
        refine rr_iadd hG dL_law_1063 (fun z1063 => ?_)
        refine rr_sld hG ho.1 dL_law_1064 (fun z1064 => ?_)
        refine rr_cVl hG [.int z1054, .int z1059, .int z1064] (c_X2_odds (g_l G) (g_E G) (hG.hE.mono (by decide)) z1054 z1059 z1064 s_) lk_L_106 im_X2_odds se_X2_odds rfl (by decide) (by decide) rfl rfl (Nat.le_of_ble_eq_true rfl) (Nat.le_of_ble_eq_true rfl) rfl rfl (Nat.le_of_ble_eq_true rfl) dL_law_1065 (fun z1065 s1065 => ?_)
        refine rr_aload_n hG dL_law_1068 rfl 2 rfl ?_
        refine rr_aload_n hG dL_law_1069 rfl 0 rfl ?_
        refine rr_iload_n hG dL_law_1070 rfl 3 rfl ?_
        refine rr_iconst (v := 1) hG dL_law_1071 (by decide) ?_
        refine rr_iadd hG dL_law_1072 (fun z1072 => ?_)
        refine rr_sld hG ho.1 dL_law_1073 (fun z1073 => ?_)
        refine rr_aload_n hG dL_law_1074 rfl 0 rfl ?_
        refine rr_iload_n hG dL_law_1075 rfl 3 rfl ?_
        refine rr_iconst (v := 2) hG dL_law_1076 (by decide) ?_
        refine rr_iadd hG dL_law_1077 (fun z1077 => ?_)
        refine rr_sld hG ho.1 dL_law_1078 (fun z1078 => ?_)
        refine rr_aload_n hG dL_law_1079 rfl 0 rfl ?_
        refine rr_iload_n hG dL_law_1080 rfl 3 rfl ?_
        refine rr_iconst (v := 3) hG dL_law_1081 (by decide) ?_
        refine rr_iadd hG dL_law_1082 (fun z1082 => ?_)
        refine rr_sld hG ho.1 dL_law_1083 (fun z1083 => ?_)
        refine rr_cVl hG [.int z1073, .int z1078, .int z1083] (c_X3_odds (g_l G) (g_E G) (hG.hE.mono (by decide)) z1073 z1078 z1083 s1065) lk_L_110 im_X3_odds se_X3_odds rfl (by decide) (by decide) rfl rfl (Nat.le_of_ble_eq_true rfl) (Nat.le_of_ble_eq_true rfl) rfl rfl (Nat.le_of_ble_eq_true rfl) dL_law_1084 (fun z1084 s1084 => ?_)
        refine rr_lcmp hG dL_law_1087 (fun z1087 => ?_)
        refine rr_if_eq hG 1370 dL_law_1088 (by decide) ?_ ?_
        · refine rr_iinc (v := 7) (lr := [(0, .ref b_), (1, .ref (bd_ad (g_E G) 0)), (2, .ref (bd_ad (g_E G) 55))]) hG dL_law_1370 3 rfl (by decide) (by decide) rfl (fun z1370 => ?_)
          refine rr_goto (tgt := 18) hG dL_law_1373 (by decide) ?_
          exact rr_sub [1, 2, 3, 0] rfl (ih z1370 s1084)
        · refine rr_iconst (v := 0) hG dL_law_1091 (by decide) ?_
          exact rr_lwret hG ho dL_law_1092
      refine rr_swc hG 22 1093 dL_law_33 (by decide) ?_ (fun nq22 => ?_)
      · refine rr_aload_n hG dL_law_1093 rfl 1 rfl ?_
        refine rr_aload_n hG dL_law_1094 rfl 0 rfl ?_
        refine rr_iload_n hG dL_law_1095 rfl 3 rfl ?_
        refine rr_iconst (v := 1) hG dL_law_1096 (by decide) ?_
        refine rr_iadd hG dL_law_1097 (fun z1097 => ?_)
        refine rr_sld hG ho.1 dL_law_1098 (fun z1098 => ?_)
        refine rr_cVi hG [.int z1098] (c_X2_best (g_l G) (g_E G) (hG.hE.mono (by decide)) z1098 s_) lk_L_111 im_X2_best se_X2_best rfl (by decide) (by decide) rfl rfl (Nat.le_of_ble_eq_true rfl) (Nat.le_of_ble_eq_true rfl) rfl rfl (Nat.le_of_ble_eq_true rfl) dL_law_1099 (fun z1099 s1099 => ?_)
        refine rr_aload_n hG dL_law_1102 rfl 2 rfl ?_
        refine rr_aload_n hG dL_law_1103 rfl 0 rfl ?_
        refine rr_iload_n hG dL_law_1104 rfl 3 rfl ?_
        refine rr_iconst (v := 1) hG dL_law_1105 (by decide) ?_
        refine rr_iadd hG dL_law_1106 (fun z1106 => ?_)
        refine rr_sld hG ho.1 dL_law_1107 (fun z1107 => ?_)
        refine rr_cVi hG [.int z1107] (c_X3_best (g_l G) (g_E G) (hG.hE.mono (by decide)) z1107 s1099) lk_L_114 im_X3_best se_X3_best rfl (by decide) (by decide) rfl rfl (Nat.le_of_ble_eq_true rfl) (Nat.le_of_ble_eq_true rfl) rfl rfl (Nat.le_of_ble_eq_true rfl) dL_law_1108 (fun z1108 s1108 => ?_)
        refine rr_icmp_eq hG 1370 dL_law_1111 (by decide) ?_ ?_
        · refine rr_iinc (v := 7) (lr := [(0, .ref b_), (1, .ref (bd_ad (g_E G) 0)), (2, .ref (bd_ad (g_E G) 55))]) hG dL_law_1370 3 rfl (by decide) (by decide) rfl (fun z1370 => ?_)
          refine rr_goto (tgt := 18) hG dL_law_1373 (by decide) ?_
          exact rr_sub [1, 2, 3, 0] rfl (ih z1370 s1108)
        · refine rr_iconst (v := 0) hG dL_law_1114 (by decide) ?_
          exact rr_lwret hG ho dL_law_1115
      refine rr_swc hG 23 1116 dL_law_33 (by decide) ?_ (fun nq23 => ?_)
      · refine rr_aload_n hG dL_law_1116 rfl 1 rfl ?_
        refine rr_aload_n hG dL_law_1117 rfl 0 rfl ?_
        refine rr_iload_n hG dL_law_1118 rfl 3 rfl ?_
        refine rr_iconst (v := 1) hG dL_law_1119 (by decide) ?_
        refine rr_iadd hG dL_law_1120 (fun z1120 => ?_)
        refine rr_sld hG ho.1 dL_law_1121 (fun z1121 => ?_)
        refine rr_aload_n hG dL_law_1122 rfl 0 rfl ?_
        refine rr_iload_n hG dL_law_1123 rfl 3 rfl ?_
        refine rr_iconst (v := 2) hG dL_law_1124 (by decide) ?_
        refine rr_iadd hG dL_law_1125 (fun z1125 => ?_)
        refine rr_sld hG ho.1 dL_law_1126 (fun z1126 => ?_)
        refine rr_cVi hG [.int z1121, .int z1126] (c_X2_landfall (g_l G) (g_E G) (hG.hE.mono (by decide)) z1121 z1126 s_) lk_L_115 im_X2_landfall se_X2_landfall rfl (by decide) (by decide) rfl rfl (Nat.le_of_ble_eq_true rfl) (Nat.le_of_ble_eq_true rfl) rfl rfl (Nat.le_of_ble_eq_true rfl) dL_law_1127 (fun z1127 s1127 => ?_)
        refine rr_aload_n hG dL_law_1130 rfl 2 rfl ?_
        refine rr_aload_n hG dL_law_1131 rfl 0 rfl ?_
        refine rr_iload_n hG dL_law_1132 rfl 3 rfl ?_
        refine rr_iconst (v := 1) hG dL_law_1133 (by decide) ?_
        refine rr_iadd hG dL_law_1134 (fun z1134 => ?_)
        refine rr_sld hG ho.1 dL_law_1135 (fun z1135 => ?_)
        refine rr_aload_n hG dL_law_1136 rfl 0 rfl ?_
        refine rr_iload_n hG dL_law_1137 rfl 3 rfl ?_
        refine rr_iconst (v := 2) hG dL_law_1138 (by decide) ?_
        refine rr_iadd hG dL_law_1139 (fun z1139 => ?_)
        refine rr_sld hG ho.1 dL_law_1140 (fun z1140 => ?_)
        refine rr_cVi hG [.int z1135, .int z1140] (c_X3_landfall (g_l G) (g_E G) (hG.hE.mono (by decide)) z1135 z1140 s1127) lk_L_118 im_X3_landfall se_X3_landfall rfl (by decide) (by decide) rfl rfl (Nat.le_of_ble_eq_true rfl) (Nat.le_of_ble_eq_true rfl) rfl rfl (Nat.le_of_ble_eq_true rfl) dL_law_1141 (fun z1141 s1141 => ?_)
        refine rr_icmp_eq hG 1370 dL_law_1144 (by decide) ?_ ?_
        · refine rr_iinc (v := 7) (lr := [(0, .ref b_), (1, .ref (bd_ad (g_E G) 0)), (2, .ref (bd_ad (g_E G) 55))]) hG dL_law_1370 3 rfl (by decide) (by decide) rfl (fun z1370 => ?_)
          refine rr_goto (tgt := 18) hG dL_law_1373 (by decide) ?_
          exact rr_sub [1, 2, 3, 0] rfl (ih z1370 s1141)
        · refine rr_iconst (v := 0) hG dL_law_1147 (by decide) ?_
          exact rr_lwret hG ho dL_law_1148
      refine rr_swc hG 24 1149 dL_law_33 (by decide) ?_ (fun nq24 => ?_)
      · refine rr_aload_n hG dL_law_1149 rfl 1 rfl ?_
        refine rr_aload_n hG dL_law_1150 rfl 0 rfl ?_
        refine rr_iload_n hG dL_law_1151 rfl 3 rfl ?_
        refine rr_iconst (v := 1) hG dL_law_1152 (by decide) ?_
        refine rr_iadd hG dL_law_1153 (fun z1153 => ?_)
        refine rr_sld hG ho.1 dL_law_1154 (fun z1154 => ?_)
        refine rr_cVi hG [.int z1154] (c_X2_suspect (g_l G) (g_E G) (hG.hE.mono (by decide)) z1154 s_) lk_L_119 im_X2_suspect se_X2_suspect rfl (by decide) (by decide) rfl rfl (Nat.le_of_ble_eq_true rfl) (Nat.le_of_ble_eq_true rfl) rfl rfl (Nat.le_of_ble_eq_true rfl) dL_law_1155 (fun z1155 s1155 => ?_)
        refine rr_aload_n hG dL_law_1158 rfl 2 rfl ?_
        refine rr_aload_n hG dL_law_1159 rfl 0 rfl ?_
        refine rr_iload_n hG dL_law_1160 rfl 3 rfl ?_
        refine rr_iconst (v := 1) hG dL_law_1161 (by decide) ?_
        refine rr_iadd hG dL_law_1162 (fun z1162 => ?_)
        refine rr_sld hG ho.1 dL_law_1163 (fun z1163 => ?_)
        refine rr_cVi hG [.int z1163] (c_X3_suspect (g_l G) (g_E G) (hG.hE.mono (by decide)) z1163 s1155) lk_L_122 im_X3_suspect se_X3_suspect rfl (by decide) (by decide) rfl rfl (Nat.le_of_ble_eq_true rfl) (Nat.le_of_ble_eq_true rfl) rfl rfl (Nat.le_of_ble_eq_true rfl) dL_law_1164 (fun z1164 s1164 => ?_)
        refine rr_icmp_eq hG 1370 dL_law_1167 (by decide) ?_ ?_
        · refine rr_iinc (v := 7) (lr := [(0, .ref b_), (1, .ref (bd_ad (g_E G) 0)), (2, .ref (bd_ad (g_E G) 55))]) hG dL_law_1370 3 rfl (by decide) (by decide) rfl (fun z1370 => ?_)
          refine rr_goto (tgt := 18) hG dL_law_1373 (by decide) ?_
          exact rr_sub [1, 2, 3, 0] rfl (ih z1370 s1164)
        · refine rr_iconst (v := 0) hG dL_law_1170 (by decide) ?_
          exact rr_lwret hG ho dL_law_1171
      refine rr_swc hG 25 1172 dL_law_33 (by decide) ?_ (fun nq25 => ?_)
      · refine rr_aload_n hG dL_law_1172 rfl 1 rfl ?_
        refine rr_aload_n hG dL_law_1173 rfl 0 rfl ?_
        refine rr_iload_n hG dL_law_1174 rfl 3 rfl ?_
        refine rr_iconst (v := 1) hG dL_law_1175 (by decide) ?_
        refine rr_iadd hG dL_law_1176 (fun z1176 => ?_)
        refine rr_sld hG ho.1 dL_law_1177 (fun z1177 => ?_)
        refine rr_cVi hG [.int z1177] (c_X2_worst (g_l G) (g_E G) (hG.hE.mono (by decide)) z1177 s_) lk_L_123 im_X2_worst se_X2_worst rfl (by decide) (by decide) rfl rfl (Nat.le_of_ble_eq_true rfl) (Nat.le_of_ble_eq_true rfl) rfl rfl (Nat.le_of_ble_eq_true rfl) dL_law_1178 (fun z1178 s1178 => ?_)
        refine rr_aload_n hG dL_law_1181 rfl 2 rfl ?_
        refine rr_aload_n hG dL_law_1182 rfl 0 rfl ?_
        refine rr_iload_n hG dL_law_1183 rfl 3 rfl ?_
        refine rr_iconst (v := 1) hG dL_law_1184 (by decide) ?_
        refine rr_iadd hG dL_law_1185 (fun z1185 => ?_)
        refine rr_sld hG ho.1 dL_law_1186 (fun z1186 => ?_)
        refine rr_cVi hG [.int z1186] (c_X3_worst (g_l G) (g_E G) (hG.hE.mono (by decide)) z1186 s1178) lk_L_126 im_X3_worst se_X3_worst rfl (by decide) (by decide) rfl rfl (Nat.le_of_ble_eq_true rfl) (Nat.le_of_ble_eq_true rfl) rfl rfl (Nat.le_of_ble_eq_true rfl) dL_law_1187 (fun z1187 s1187 => ?_)
        refine rr_icmp_eq hG 1370 dL_law_1190 (by decide) ?_ ?_
        · refine rr_iinc (v := 7) (lr := [(0, .ref b_), (1, .ref (bd_ad (g_E G) 0)), (2, .ref (bd_ad (g_E G) 55))]) hG dL_law_1370 3 rfl (by decide) (by decide) rfl (fun z1370 => ?_)
          refine rr_goto (tgt := 18) hG dL_law_1373 (by decide) ?_
          exact rr_sub [1, 2, 3, 0] rfl (ih z1370 s1187)
        · refine rr_iconst (v := 0) hG dL_law_1193 (by decide) ?_
          exact rr_lwret hG ho dL_law_1194
      refine rr_swc hG 26 1195 dL_law_33 (by decide) ?_ (fun nq26 => ?_)
      · refine rr_aload_n hG dL_law_1195 rfl 1 rfl ?_
        refine rr_aload_n hG dL_law_1196 rfl 0 rfl ?_
        refine rr_iload_n hG dL_law_1197 rfl 3 rfl ?_
        refine rr_iconst (v := 1) hG dL_law_1198 (by decide) ?_
        refine rr_iadd hG dL_law_1199 (fun z1199 => ?_)
        refine rr_sld hG ho.1 dL_law_1200 (fun z1200 => ?_)
        refine rr_aload_n hG dL_law_1201 rfl 0 rfl ?_
        refine rr_iload_n hG dL_law_1202 rfl 3 rfl ?_
        refine rr_iconst (v := 2) hG dL_law_1203 (by decide) ?_
        refine rr_iadd hG dL_law_1204 (fun z1204 => ?_)
        refine rr_sld hG ho.1 dL_law_1205 (fun z1205 => ?_)
        refine rr_cVi hG [.int z1200, .int z1205] (c_X2_slipped (g_l G) (g_E G) (hG.hE.mono (by decide)) z1200 z1205 s_) lk_L_127 im_X2_slipped se_X2_slipped rfl (by decide) (by decide) rfl rfl (Nat.le_of_ble_eq_true rfl) (Nat.le_of_ble_eq_true rfl) rfl rfl (Nat.le_of_ble_eq_true rfl) dL_law_1206 (fun z1206 s1206 => ?_)
        refine rr_aload_n hG dL_law_1209 rfl 2 rfl ?_
        refine rr_aload_n hG dL_law_1210 rfl 0 rfl ?_
        refine rr_iload_n hG dL_law_1211 rfl 3 rfl ?_
        refine rr_iconst (v := 1) hG dL_law_1212 (by decide) ?_
        refine rr_iadd hG dL_law_1213 (fun z1213 => ?_)
        refine rr_sld hG ho.1 dL_law_1214 (fun z1214 => ?_)
        refine rr_aload_n hG dL_law_1215 rfl 0 rfl ?_
        refine rr_iload_n hG dL_law_1216 rfl 3 rfl ?_
        refine rr_iconst (v := 2) hG dL_law_1217 (by decide) ?_
        refine rr_iadd hG dL_law_1218 (fun z1218 => ?_)
        refine rr_sld hG ho.1 dL_law_1219 (fun z1219 => ?_)
        refine rr_cVi hG [.int z1214, .int z1219] (c_X3_slipped (g_l G) (g_E G) (hG.hE.mono (by decide)) z1214 z1219 s1206) lk_L_130 im_X3_slipped se_X3_slipped rfl (by decide) (by decide) rfl rfl (Nat.le_of_ble_eq_true rfl) (Nat.le_of_ble_eq_true rfl) rfl rfl (Nat.le_of_ble_eq_true rfl) dL_law_1220 (fun z1220 s1220 => ?_)
        refine rr_icmp_eq hG 1370 dL_law_1223 (by decide) ?_ ?_
        · refine rr_iinc (v := 7) (lr := [(0, .ref b_), (1, .ref (bd_ad (g_E G) 0)), (2, .ref (bd_ad (g_E G) 55))]) hG dL_law_1370 3 rfl (by decide) (by decide) rfl (fun z1370 => ?_)
          refine rr_goto (tgt := 18) hG dL_law_1373 (by decide) ?_
          exact rr_sub [1, 2, 3, 0] rfl (ih z1370 s1220)
        · refine rr_iconst (v := 0) hG dL_law_1226 (by decide) ?_
          exact rr_lwret hG ho dL_law_1227
      refine rr_swc hG 27 1228 dL_law_33 (by decide) ?_ (fun nq27 => ?_)
      · refine rr_aload_n hG dL_law_1228 rfl 1 rfl ?_
        refine rr_aload_n hG dL_law_1229 rfl 0 rfl ?_
        refine rr_iload_n hG dL_law_1230 rfl 3 rfl ?_
        refine rr_iconst (v := 1) hG dL_law_1231 (by decide) ?_
        refine rr_iadd hG dL_law_1232 (fun z1232 => ?_)
        refine rr_sld hG ho.1 dL_law_1233 (fun z1233 => ?_)
        refine rr_cVi hG [.int z1233] (c_X2_ask (g_l G) (g_E G) (hG.hE.mono (by decide)) z1233 s_) lk_L_131 im_X2_ask se_X2_ask rfl (by decide) (by decide) rfl rfl (Nat.le_of_ble_eq_true rfl) (Nat.le_of_ble_eq_true rfl) rfl rfl (Nat.le_of_ble_eq_true rfl) dL_law_1234 (fun z1234 s1234 => ?_)
        refine rr_aload_n hG dL_law_1237 rfl 2 rfl ?_
        refine rr_aload_n hG dL_law_1238 rfl 0 rfl ?_
        refine rr_iload_n hG dL_law_1239 rfl 3 rfl ?_
        refine rr_iconst (v := 1) hG dL_law_1240 (by decide) ?_
        refine rr_iadd hG dL_law_1241 (fun z1241 => ?_)
        refine rr_sld hG ho.1 dL_law_1242 (fun z1242 => ?_)
        refine rr_cVi hG [.int z1242] (c_X3_ask (g_l G) (g_E G) (hG.hE.mono (by decide)) z1242 s1234) lk_L_134 im_X3_ask se_X3_ask rfl (by decide) (by decide) rfl rfl (Nat.le_of_ble_eq_true rfl) (Nat.le_of_ble_eq_true rfl) rfl rfl (Nat.le_of_ble_eq_true rfl) dL_law_1243 (fun z1243 s1243 => ?_)
        refine rr_icmp_eq hG 1370 dL_law_1246 (by decide) ?_ ?_
        · refine rr_iinc (v := 7) (lr := [(0, .ref b_), (1, .ref (bd_ad (g_E G) 0)), (2, .ref (bd_ad (g_E G) 55))]) hG dL_law_1370 3 rfl (by decide) (by decide) rfl (fun z1370 => ?_)
          refine rr_goto (tgt := 18) hG dL_law_1373 (by decide) ?_
          exact rr_sub [1, 2, 3, 0] rfl (ih z1370 s1243)
        · refine rr_iconst (v := 0) hG dL_law_1249 (by decide) ?_
          exact rr_lwret hG ho dL_law_1250
      refine rr_swc hG 28 1251 dL_law_33 (by decide) ?_ (fun nq28 => ?_)
      · refine rr_aload_n hG dL_law_1251 rfl 1 rfl ?_
        refine rr_aload_n hG dL_law_1252 rfl 0 rfl ?_
        refine rr_iload_n hG dL_law_1253 rfl 3 rfl ?_
        refine rr_iconst (v := 1) hG dL_law_1254 (by decide) ?_
        refine rr_iadd hG dL_law_1255 (fun z1255 => ?_)
        refine rr_sld hG ho.1 dL_law_1256 (fun z1256 => ?_)
        refine rr_aload_n hG dL_law_1257 rfl 0 rfl ?_
        refine rr_iload_n hG dL_law_1258 rfl 3 rfl ?_
        refine rr_iconst (v := 2) hG dL_law_1259 (by decide) ?_
        refine rr_iadd hG dL_law_1260 (fun z1260 => ?_)
        refine rr_sld hG ho.1 dL_law_1261 (fun z1261 => ?_)
        refine rr_aload_n hG dL_law_1262 rfl 0 rfl ?_
        refine rr_iload_n hG dL_law_1263 rfl 3 rfl ?_
        refine rr_iconst (v := 3) hG dL_law_1264 (by decide) ?_
        refine rr_iadd hG dL_law_1265 (fun z1265 => ?_)
        refine rr_sld hG ho.1 dL_law_1266 (fun z1266 => ?_)
        refine rr_aload_n hG dL_law_1267 rfl 0 rfl ?_
        refine rr_iload_n hG dL_law_1268 rfl 3 rfl ?_
        refine rr_iconst (v := 4) hG dL_law_1269 (by decide) ?_
        refine rr_iadd hG dL_law_1270 (fun z1270 => ?_)
        refine rr_sld hG ho.1 dL_law_1271 (fun z1271 => ?_)
        refine rr_aload_n hG dL_law_1272 rfl 0 rfl ?_
        refine rr_iload_n hG dL_law_1273 rfl 3 rfl ?_
        refine rr_iconst (v := 5) hG dL_law_1274 (by decide) ?_
        refine rr_iadd hG dL_law_1275 (fun z1275 => ?_)
        refine rr_sld hG ho.1 dL_law_1276 (fun z1276 => ?_)
        refine rr_cVi hG [.int z1256, .int z1261, .int z1266, .int z1271, .int z1276] (c_X2_carry (g_l G) (g_E G) (hG.hE.mono (by decide)) z1256 z1261 z1266 z1271 z1276 s_) lk_L_135 im_X2_carry se_X2_carry rfl (by decide) (by decide) rfl rfl (Nat.le_of_ble_eq_true rfl) (Nat.le_of_ble_eq_true rfl) rfl rfl (Nat.le_of_ble_eq_true rfl) dL_law_1277 (fun z1277 s1277 => ?_)
        refine rr_aload_n hG dL_law_1280 rfl 2 rfl ?_
        refine rr_aload_n hG dL_law_1281 rfl 0 rfl ?_
        refine rr_iload_n hG dL_law_1282 rfl 3 rfl ?_
        refine rr_iconst (v := 1) hG dL_law_1283 (by decide) ?_
        refine rr_iadd hG dL_law_1284 (fun z1284 => ?_)
        refine rr_sld hG ho.1 dL_law_1285 (fun z1285 => ?_)
        refine rr_aload_n hG dL_law_1286 rfl 0 rfl ?_
        refine rr_iload_n hG dL_law_1287 rfl 3 rfl ?_
        refine rr_iconst (v := 2) hG dL_law_1288 (by decide) ?_
        refine rr_iadd hG dL_law_1289 (fun z1289 => ?_)
        refine rr_sld hG ho.1 dL_law_1290 (fun z1290 => ?_)
        refine rr_aload_n hG dL_law_1291 rfl 0 rfl ?_
        refine rr_iload_n hG dL_law_1292 rfl 3 rfl ?_
        refine rr_iconst (v := 3) hG dL_law_1293 (by decide) ?_
        refine rr_iadd hG dL_law_1294 (fun z1294 => ?_)
        refine rr_sld hG ho.1 dL_law_1295 (fun z1295 => ?_)
        refine rr_aload_n hG dL_law_1296 rfl 0 rfl ?_
        refine rr_iload_n hG dL_law_1297 rfl 3 rfl ?_
        refine rr_iconst (v := 4) hG dL_law_1298 (by decide) ?_
        refine rr_iadd hG dL_law_1299 (fun z1299 => ?_)
        refine rr_sld hG ho.1 dL_law_1300 (fun z1300 => ?_)
        refine rr_aload_n hG dL_law_1301 rfl 0 rfl ?_
        refine rr_iload_n hG dL_law_1302 rfl 3 rfl ?_
        refine rr_iconst (v := 5) hG dL_law_1303 (by decide) ?_
        refine rr_iadd hG dL_law_1304 (fun z1304 => ?_)
        refine rr_sld hG ho.1 dL_law_1305 (fun z1305 => ?_)
        refine rr_cVi hG [.int z1285, .int z1290, .int z1295, .int z1300, .int z1305] (c_X3_carry (g_l G) (g_E G) (hG.hE.mono (by decide)) z1285 z1290 z1295 z1300 z1305 s1277) lk_L_138 im_X3_carry se_X3_carry rfl (by decide) (by decide) rfl rfl (Nat.le_of_ble_eq_true rfl) (Nat.le_of_ble_eq_true rfl) rfl rfl (Nat.le_of_ble_eq_true rfl) dL_law_1306 (fun z1306 s1306 => ?_)
        refine rr_icmp_eq hG 1370 dL_law_1309 (by decide) ?_ ?_
        · refine rr_iinc (v := 7) (lr := [(0, .ref b_), (1, .ref (bd_ad (g_E G) 0)), (2, .ref (bd_ad (g_E G) 55))]) hG dL_law_1370 3 rfl (by decide) (by decide) rfl (fun z1370 => ?_)
          refine rr_goto (tgt := 18) hG dL_law_1373 (by decide) ?_
          exact rr_sub [1, 2, 3, 0] rfl (ih z1370 s1306)
        · refine rr_iconst (v := 0) hG dL_law_1312 (by decide) ?_
          exact rr_lwret hG ho dL_law_1313
      refine rr_swc hG 29 1314 dL_law_33 (by decide) ?_ (fun nq29 => ?_)
      · refine rr_aload_n hG dL_law_1314 rfl 1 rfl ?_
        refine rr_aload_n hG dL_law_1315 rfl 0 rfl ?_
        refine rr_iload_n hG dL_law_1316 rfl 3 rfl ?_
        refine rr_iconst (v := 1) hG dL_law_1317 (by decide) ?_
        refine rr_iadd hG dL_law_1318 (fun z1318 => ?_)
        refine rr_sld hG ho.1 dL_law_1319 (fun z1319 => ?_)
        refine rr_aload_n hG dL_law_1320 rfl 0 rfl ?_
        refine rr_iload_n hG dL_law_1321 rfl 3 rfl ?_
        refine rr_iconst (v := 2) hG dL_law_1322 (by decide) ?_
        refine rr_iadd hG dL_law_1323 (fun z1323 => ?_)
        refine rr_sld hG ho.1 dL_law_1324 (fun z1324 => ?_)
        refine rr_cVi hG [.int z1319, .int z1324] (c_X2_port (g_l G) (g_E G) (hG.hE.mono (by decide)) z1319 z1324 s_) lk_L_139 im_X2_port se_X2_port rfl (by decide) (by decide) rfl rfl (Nat.le_of_ble_eq_true rfl) (Nat.le_of_ble_eq_true rfl) rfl rfl (Nat.le_of_ble_eq_true rfl) dL_law_1325 (fun z1325 s1325 => ?_)
        refine rr_aload_n hG dL_law_1328 rfl 2 rfl ?_
        refine rr_aload_n hG dL_law_1329 rfl 0 rfl ?_
        refine rr_iload_n hG dL_law_1330 rfl 3 rfl ?_
        refine rr_iconst (v := 1) hG dL_law_1331 (by decide) ?_
        refine rr_iadd hG dL_law_1332 (fun z1332 => ?_)
        refine rr_sld hG ho.1 dL_law_1333 (fun z1333 => ?_)
        refine rr_aload_n hG dL_law_1334 rfl 0 rfl ?_
        refine rr_iload_n hG dL_law_1335 rfl 3 rfl ?_
        refine rr_iconst (v := 2) hG dL_law_1336 (by decide) ?_
        refine rr_iadd hG dL_law_1337 (fun z1337 => ?_)
        refine rr_sld hG ho.1 dL_law_1338 (fun z1338 => ?_)
        refine rr_cVi hG [.int z1333, .int z1338] (c_X3_port (g_l G) (g_E G) (hG.hE.mono (by decide)) z1333 z1338 s1325) lk_L_142 im_X3_port se_X3_port rfl (by decide) (by decide) rfl rfl (Nat.le_of_ble_eq_true rfl) (Nat.le_of_ble_eq_true rfl) rfl rfl (Nat.le_of_ble_eq_true rfl) dL_law_1339 (fun z1339 s1339 => ?_)
        refine rr_icmp_eq hG 1370 dL_law_1342 (by decide) ?_ ?_
        · refine rr_iinc (v := 7) (lr := [(0, .ref b_), (1, .ref (bd_ad (g_E G) 0)), (2, .ref (bd_ad (g_E G) 55))]) hG dL_law_1370 3 rfl (by decide) (by decide) rfl (fun z1370 => ?_)
          refine rr_goto (tgt := 18) hG dL_law_1373 (by decide) ?_
          exact rr_sub [1, 2, 3, 0] rfl (ih z1370 s1339)
        · refine rr_iconst (v := 0) hG dL_law_1345 (by decide) ?_
          exact rr_lwret hG ho dL_law_1346
      refine rr_swc hG 30 1347 dL_law_33 (by decide) ?_ (fun nq30 => ?_)
      · refine rr_aload_n hG dL_law_1347 rfl 1 rfl ?_
        refine rr_aload_n hG dL_law_1348 rfl 0 rfl ?_
        refine rr_iload_n hG dL_law_1349 rfl 3 rfl ?_
        refine rr_iconst (v := 1) hG dL_law_1350 (by decide) ?_
        refine rr_iadd hG dL_law_1351 (fun z1351 => ?_)
        refine rr_sld hG ho.1 dL_law_1352 (fun z1352 => ?_)
        refine rr_cVi hG [.int z1352] (c_X2_told (g_l G) (g_E G) (hG.hE.mono (by decide)) z1352 s_) lk_L_143 im_X2_told se_X2_told rfl (by decide) (by decide) rfl rfl (Nat.le_of_ble_eq_true rfl) (Nat.le_of_ble_eq_true rfl) rfl rfl (Nat.le_of_ble_eq_true rfl) dL_law_1353 (fun z1353 s1353 => ?_)
        refine rr_aload_n hG dL_law_1356 rfl 2 rfl ?_
        refine rr_aload_n hG dL_law_1357 rfl 0 rfl ?_
        refine rr_iload_n hG dL_law_1358 rfl 3 rfl ?_
        refine rr_iconst (v := 1) hG dL_law_1359 (by decide) ?_
        refine rr_iadd hG dL_law_1360 (fun z1360 => ?_)
        refine rr_sld hG ho.1 dL_law_1361 (fun z1361 => ?_)
        refine rr_cVi hG [.int z1361] (c_X3_told (g_l G) (g_E G) (hG.hE.mono (by decide)) z1361 s1353) lk_L_146 im_X3_told se_X3_told rfl (by decide) (by decide) rfl rfl (Nat.le_of_ble_eq_true rfl) (Nat.le_of_ble_eq_true rfl) rfl rfl (Nat.le_of_ble_eq_true rfl) dL_law_1362 (fun z1362 s1362 => ?_)
        refine rr_icmp_eq hG 1370 dL_law_1365 (by decide) ?_ ?_
        · refine rr_iinc (v := 7) (lr := [(0, .ref b_), (1, .ref (bd_ad (g_E G) 0)), (2, .ref (bd_ad (g_E G) 55))]) hG dL_law_1370 3 rfl (by decide) (by decide) rfl (fun z1370 => ?_)
          refine rr_goto (tgt := 18) hG dL_law_1373 (by decide) ?_
          exact rr_sub [1, 2, 3, 0] rfl (ih z1370 s1362)
        · refine rr_iconst (v := 0) hG dL_law_1368 (by decide) ?_
          exact rr_lwret hG ho dL_law_1369
      refine rr_swd hG 1370 dL_law_33 (bd_swd31 nq0 nq1 nq2 nq3 nq4 nq5 nq6 nq7 nq8 nq9 nq10 nq11 nq12 nq13 nq14 nq15 nq16 nq17 nq18 nq19 nq20 nq21 nq22 nq23 nq24 nq25 nq26 nq27 nq28 nq29 nq30) (by decide) ?_
      refine rr_iinc (v := 7) (lr := [(0, .ref b_), (1, .ref (bd_ad (g_E G) 0)), (2, .ref (bd_ad (g_E G) 55))]) hG dL_law_1370 3 rfl (by decide) (by decide) rfl (fun z1370 => ?_)
      refine rr_goto (tgt := 18) hG dL_law_1373 (by decide) ?_
      exact rr_sub [1, 2, 3, 0] rfl (ih z1370 s_)
