/-! the law's start: the two objects, then the loop -/
theorem lw_tys {U : State} (hT : bd_T U) (hN : bd_Nw U) : ∃ cI cZ cO : ClassId, ∀ (k : Nat) (q : ClassId × FieldType), ([(cI, .int), (cZ, .boolean), (cO, .object "BallDrops$Ship")] : List (ClassId × FieldType))[k]? = some q → ArrOfT U q.1 q.2 ∧ va_RA U q.1 q.2 := by
  obtain ⟨cI, kI, compI, fI, eI, hI⟩ := Cond.arrayClass_spec (hT.at ac9_int #[])
  obtain ⟨cZ, kZ, compZ, fZ, eZ, hZ⟩ := Cond.arrayClass_spec (hT.at ac9_boolean #[])
  obtain ⟨compO, cO, kO, gO, -, eO, hO, fO⟩ := Cond.arrayOver_spec (hN _ ac9_over rfl)
  refine ⟨cI, cZ, cO, fun k q hq => ?_⟩
  match k, hq with
  | 0, hq => cases hq; exact ⟨fun n z => ⟨fun k h => (by cases h), kI, eI, compI, hI⟩, fI⟩
  | 1, hq => cases hq; exact ⟨fun n z => ⟨fun k h => (by cases h), kZ, eZ, compZ, hZ⟩, fZ⟩
  | 2, hq => cases hq; exact ⟨fun n z => ⟨fun k h => (by cases h), kO, eO, compO, hO⟩, kO, compO, eO, hO, gO, fO⟩
  | k + 3, hq => simp at hq
theorem sx_reW {G : bd_G} {E1 : bd_E} {σ : bd_S} {P : Prop} {n1 k n pc : Nat} {lv : List (Nat × Value)} {st : List Value} (hD : bd_D E1 = bd_D (g_E G)) (hA : bd_A E1 = bd_A (g_E G)) (h : bd_ok E1 n1 → P → sx_W G (bd_w E1 σ) [] k n pc lv st) : sx_X G (fun H => va_P (bd_D E1) vwCl (bd_w E1 σ) H ∧ bd_ok E1 n1 ∧ P) k n pc lv st := by
  intro H locs ls hB hS hl
  obtain ⟨hP, hE, hp⟩ := hB
  refine h hE hp H locs ls ?_ ?_ hS hl
  · rw [List.append_nil, ← hD]; exact hP
  · rw [List.append_nil, ← hA]; exact hE.dis σ
set_option maxRecDepth 100000 in
set_option maxHeartbeats 4000000 in
theorem whole_start {p : Program} {e : Env} {s : State} {m : MethodId} {below : List Frame} {meth : Method} {c : Code} (l : Launch) (hflags : l.flags = flags0) {b L : Nat} {xs : Nat → Int32} (hL : L ≤ 3584) (C0 : lw_At p s m meth c b L xs) : W p l e room_1 s m #[Value.ref b] below meth c s.heap [] 0 0 (lw_Z below #[Value.ref b] s) (entryFrame m ([Value.ref b] : List Value).toArray 4) := by
  obtain ⟨hx, hb, hr, hml, hown, hts, hX, hbl, hlocks, hgv⟩ := C0
  obtain ⟨σ1, σ2, σ3, σ4, hF1, hF2, hk1, hk2, hF3, hF4⟩ := bd_pure xs L hL
  have hT : bd_T s := fun w hm hg a => word_at (State.WarmedH.refl s) (good_of_word hg) (hts w hm)
  have hN : bd_Nw s := by
    intro w hm hg
    have hz := hts w hm
    cases w <;> first | exact va_Nw.of rfl hz | (rename_i ty; cases ty <;> first | exact va_AO.of hz | cases hg) | cases hg
  obtain ⟨cI, cZ, cO, hK2⟩ := lw_tys hT hN
  obtain ⟨c0, iS0, hKn0⟩ := u_known (C := RX0) (T := TX0) (N := 4) (n := 4) hts inX0a (hts _ is_X0.1)
  obtain ⟨c1, iS1, hKn1⟩ := u_known (C := RX1) (T := TX1) (N := 11) (n := 11) hts inX1a (hts _ is_X1.1)
  obtain ⟨c2, iS2, hKn2⟩ := u_known (C := RX2) (T := TX2) (N := 16) (n := 16) hts inX2a (hts _ is_X2.1)
  obtain ⟨c3, iS3, hKn3⟩ := u_known (C := RX3) (T := TX3) (N := 36) (n := 36) hts inX3a (hts _ is_X3.1)
  obtain ⟨dC, dI, hKc⟩ : ∃ (dC : Nat → ClassId) (dI : Nat → Nat → Nat), ∀ (k : Nat) (q : vw_C), vwCl[k]? = some q → u_Kn s q.1 q.2.1 q.2.2 (dC k) (dI k) := by
    refine ⟨fun k => if k = 0 then c0 else if k = 1 then c1 else if k = 2 then c2 else c3, fun k => if k = 0 then iS0 else if k = 1 then iS1 else if k = 2 then iS2 else iS3, ?_⟩
    intro k q hq
    match k, hq with
    | 0, hq => cases hq; exact hKn0
    | 1, hq => cases hq; exact hKn1
    | 2, hq => cases hq; exact hKn2
    | 3, hq => cases hq; exact hKn3
    | k + 4, hq => simp [vwCl] at hq
  obtain ⟨E, hE⟩ : ∃ E : bd_E, E = ((dC, dI), (cI, cZ, cO), (fun _ => 0), (fun q => s.heap.size ≤ q), 0, 0) := ⟨_, rfl⟩
  have hEA : bd_A E = fun q => s.heap.size ≤ q := by rw [hE]
  have hK : va_K (bd_D E) vwCl (bd_tys E) s := by rw [hE]; exact ⟨hKc, hK2⟩
  obtain ⟨G0, hG0⟩ : ∃ G : bd_G, G = (p, l, e, room_1, s, m, #[Value.ref b], below, meth, c, lw_Z below #[Value.ref b] s, E, 0, 0) := ⟨_, rfl⟩
  have hG : sx_OK (bd_wE G0 (sx_E0 E) 0 0) cL_law 4 RL 10 388 600000 7302250 ret := by
    rw [hG0]
    exact ⟨⟨hx, hb, hml, hown, hK, hT, hN, hlocks, sx_E0_ok E, Nat.le_refl _, Nat.le_refl _, hr, Nat.zero_le _, Nat.zero_le _⟩, fun q hq => by rw [hEA]; exact hq, Nat.le_refl _, Nat.le_refl _⟩
  have hl := lv_entry ([.ref b]) (n := 4) (Nat.le_of_ble_eq_true rfl)
  rw [lg_entry_eq]
  generalize (lg_sl ([.ref b]) ++ List.replicate (4 - (lg_sl ([.ref b])).length) Slot.unset).toArray = ls at hl ⊢
  have hl : lv_has ls 4 [(0, .ref b)] := hl
  have key : sx_W (bd_wE G0 (sx_E0 E) 0 0) ([] : va_W) [] 0 0 0 [(0, .ref b)] [] := by
    refine sx_new (fs := [.null, .null, .null, .null, .null, .null, .null, .null, .null, .null, .null, .null, .int 0, .int 0, .int 0, .int 0]) (ci := 2) hG tyX2 tyX2_ok inX2 cl_L_7 is_X2 ii_X2 rfl (fun j hj => by
      have h16 : j < 16 := hj
      revert j
      decide) (by decide) (by decide) dL_law_0 (fun q0 => ?_)
    refine sx_dup hG dL_law_3 rfl ?_
    refine sx_initI (E := E) hG ⟨rfl, rfl, rfl⟩ (c_X2_init (g_l G0) E q0 σ1 σ2 hF1 hF2 hk1) lkl_X2 rfl imi_X2 rfl (by decide) (by decide) (Nat.le_of_ble_eq_true rfl) (by decide) (by decide) dL_law_4 (fun u => ?_)
    refine sx_reW (G := bd_wE G0 (sx_E0 E) 0 0) (E1 := sx_mk E u 55 4) (σ := σ2) (P := u 0 = q0) rfl rfl (fun hE1 hu => ?_)
    subst hu
    refine sx_astore_n (lr := [(0, .ref b)]) hG dL_law_7 rfl (by decide) rfl ?_
    refine sx_new (fs := [.int 0, .null, .null, .null, .int 0, .null, .null, .null, .null, .null, .null, .null, .int 0, .null, .null, .null, .null, .null, .null, .null, .null, .null, .null, .null, .null, .null, .null, .null, .null, .int 0, .int 0, .null, .null, .null, .int 0, .int 0]) (ci := 3) hG tyX3 tyX3_ok inX3 cl_L_10 is_X3 ii_X3 rfl (fun j hj => by
      have h36 : j < 36 := hj
      revert j
      decide) (by decide) (by decide) dL_law_8 (fun q1 => ?_)
    refine sx_dup hG dL_law_11 rfl ?_
    refine sx_initI (E := E) hG ⟨rfl, rfl, rfl⟩ (c_X3_init (g_l G0) E u q1 σ2 σ3 hF3 hk2) lkl_X3 rfl imi_X3 rfl (by decide) (by decide) (Nat.le_of_ble_eq_true rfl) (by decide) (by decide) dL_law_12 (fun v => ?_)
    refine sx_reW (G := bd_wE G0 (sx_E0 E) 0 0) (E1 := sx_mk E v 85 4) (σ := σ3) (P := v 55 = q1 ∧ ∀ i, i < 55 → v i = u i) rfl rfl (fun hE2 hv => ?_)
    obtain ⟨hv1, hv2⟩ := hv
    subst hv1
    refine sx_astore_n (lr := [(1, .ref (u 0)), (0, .ref b)]) hG dL_law_15 rfl (by decide) rfl ?_
    refine sx_iconst (v := 0) hG dL_law_16 (by decide) ?_
    refine sx_istore_n (lr := [(2, .ref (v 55)), (1, .ref (u 0)), (0, .ref b)]) hG dL_law_17 rfl (by decide) rfl ?_
    refine sx_widen (k2 := 600000) (n2 := 7302250) (by decide) (by decide) ?_
    rw [← hv2 0 (by decide)]
    refine sx_toWL (n1 := 85) (ad := v) (N := 85) (S := 4) (σ := σ3) (List.append_nil _) (by decide) (fun _ => rfl) (fun hE3 => ?_)
    have hG3 := sx_OKs hG hE3 (k := 600000) (n := 7302250) (fr1 := 8) (lo1 := 192) (by decide) (by decide) (Nat.le_refl _) (Nat.le_refl _)
    have hS3 : lw_H (bd_wE G0 (sx_mk E v 85 4) 600000 7302250) b L xs (1, σ4) := by
      rw [hG0]
      refine ⟨⟨hX, hbl, ?_⟩, rfl, rfl, rfl, rfl, rfl, rfl, fun q hq => ?_⟩
      · show ¬ bd_A E b
        rw [hEA]
        exact Nat.not_le.mpr hbl
      · have hq : bd_A E q := hq
        rw [hEA] at hq
        exact hq
    exact rr_sub [3, 2, 1, 0] rfl (b_L_law_18 hG3 hS3 FU_ 0 σ3) hF4
  rw [hG0] at key
  exact key s.heap [] ls (fun k q h => by simp at h) ⟨fun i j p q h => by simp at h, fun k q h => by simp at h⟩ va_S.rf (by show lv_has ls c.maxLocals _; rw [hml]; exact hl)
