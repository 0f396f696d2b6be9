theorem k_sl : ∀ n, n < 32 → ((nI n &&& 31).toBitVec.smod 32).toNat = n := by decide +kernel
theorem k_i1 : ∀ i, i < 32 → bt 1 i = decide (i = 0) := by decide +kernel
theorem k_m1 : ∀ i, i < 32 → bt (-1) i = true := by decide +kernel
theorem k_shr0 {d : Nat} (hd : d < 32) (x : Int32) : bt (x >>> (nI d &&& 31)) 0 = bt x d := by
  unfold bt
  rw [Int32.toBitVec_shiftRight]
  show (x.toBitVec.sshiftRight ((nI d &&& 31).toBitVec.smod 32).toNat).getLsbD 0 = _
  rw [k_sl d hd, BitVec.getLsbD_sshiftRight]
  simp [hd]
theorem k_bit {d : Nat} (hd : d < 32) (x : Int32) : (x >>> (nI d &&& 31)) &&& 1 = if bt x d = true then 1 else 0 := by
  refine k_ext (fun i hi => ?_)
  rw [k_and, k_i1 i hi]
  by_cases e : i = 0
  · subst e
    rw [k_shr0 hd]
    by_cases h : bt x d = true
    · rw [if_pos h, h]; rfl
    · rw [if_neg h]
      have : bt x d = false := by simpa using h
      rw [this]; rfl
  · by_cases h : bt x d = true
    · rw [if_pos h, k_i1 i hi]; simp [e]
    · rw [if_neg h, k_zero]; simp [e]
theorem s_bitOf {σ : bd_S} {x : Int32} {d : Nat} (hd : d < 32) : f_X2_bitOf x (nI d) σ = some (if bt x d = true then 1 else 0, σ) := by
  unfold f_X2_bitOf bd_lt
  dsimp only
  rw [k_bit hd]
theorem s_withBit {σ : bd_S} {x v : Int32} {d : Nat} (hd : d < 32) : wp (f_X2_withBit x (nI d) v σ) (fun r σ' => σ' = σ ∧ ∀ i, i < 32 → bt r i = if i = d then decide (v ≠ 0) else bt x i) := by
  unfold f_X2_withBit
  refine wp_if (fun h => wp_lt (wp_lt (wp_lt (wp_some ⟨rfl, fun i hi => ?_⟩)))) (fun h => wp_lt (wp_lt (wp_some ⟨rfl, fun i hi => ?_⟩)))
  · rw [k_and, k_xor, k_one d hd i hi, k_m1 i hi]
    by_cases e : i = d
    · simp [e, h]
    · simp [e]
  · rw [k_or, k_one d hd i hi]
    by_cases e : i = d
    · simp [e, h]
    · simp [e]
theorem nar_v {v : Int32} (h : v = 0 ∨ v = 1) : vp_nar .boolean v = v := by
  rcases h with rfl | rfl
  · exact nar_0
  · exact nar_1
theorem p_back {σ : bd_S} (hI : Inv σ) (x v : Int32) (hv : v = 0 ∨ v = 1) : Pr (f_X2_back x v) (f_X3_back x v) σ := by
  unfold Pr f_X2_back f_X3_back
  by_cases h : okD x
  · obtain ⟨d, hd, rfl⟩ := h.n
    obtain ⟨b1, b2⟩ := hI.2.1
    refine wp_e (noDay_t h) (wp_ift rfl (wp_lt (wp_e (s_bitOf (by omega)) (wp_lt (wp_c (s_withBit (by omega)) (fun r σ' q => ?_))))))
    obtain ⟨rfl, q⟩ := q
    refine wp_lt (wp_some (wp_e (isDay_t h) (wp_iff (by decide) (wp_rd d rfl hd (by decide) ?_))))
    rw [st_ne (by decide), b1 d (by omega), nar_v hv]
    have K : Inv (bd_st (bd_st σ' 0 14 r) 64 d v) := by
      obtain ⟨h1, h2, h3, h4, h5⟩ := hI
      refine ⟨h1.cg (fun r k q => st_2 (by omega) (by omega)), ⟨fun i hi => ?_, fun i hi => ?_⟩, h3.cg (fun r k q => st_2 (by omega) (by omega)), h4.cg (fun r k q => st_2 (by omega) (by omega)), fun s hs => ?_⟩
      · rw [st_ne (show (0 : Nat) ≠ 64 by decide), st_same, q i hi]
        by_cases e : i = d
        · subst e; rw [if_pos rfl, st_same]; simp [hd]
        · rw [if_neg e, st_off e, st_ne (show (64 : Nat) ≠ 0 by decide)]; exact b1 i hi
      · by_cases e : i = d
        · subst e; rw [st_same]; exact hv
        · rw [st_off e, st_ne (show (64 : Nat) ≠ 0 by decide)]; exact b2 i hi
      · obtain ⟨e1, e2, e3, e4⟩ := h5 s hs
        exact ⟨e1.cg (fun r k q => st_2 (by omega) (by omega)), e2.cg (fun r k q => st_2 (by omega) (by omega)), e3.cg (fun r k q => st_2 (by omega) (by omega)), e4.cg (fun r k q => st_2 (by omega) (by omega))⟩
    refine wp_if (fun z => ?_) (fun z => ?_)
    · exact wp_wr d rfl hd (by decide) (wp_some ⟨by simp [z], K⟩)
    · exact wp_wr d rfl hd (by decide) (wp_some ⟨by simp [z, hd], K⟩)
  · exact wp_e (noDay_f h) (wp_iff (by decide) (wp_some (wp_e (isDay_f h) (wp_ift rfl (wp_some ⟨rfl, hI⟩)))))
theorem p_saw {σ : bd_S} (hI : Inv σ) (x y v : Int32) (hv : v = 0 ∨ v = 1) : Pr (f_X2_saw x y v) (f_X3_saw x y v) σ := by
  obtain ⟨nk, hn⟩ := hI.hS
  unfold Pr f_X2_saw f_X3_saw
  by_cases g : okS nk x
  · refine wp_e (noShip_t hn g) (wp_ift rfl ?_)
    by_cases h : okD y
    · obtain ⟨s, hs, rfl⟩ := g.n hn.1
      obtain ⟨d, hd, rfl⟩ := h.n
      have hs4 : s < 4 := by have := hn.1; omega
      obtain ⟨e1, ⟨b1, b2⟩, e3, e4⟩ := hI.2.2.2.2 s hs4
      refine wp_e (noDay_t h) (wp_ift rfl (wp_rs s rfl hs4 (wp_lt (wp_e (s_bitOf (by omega)) (wp_lt (wp_c (s_withBit (by omega)) (fun r σ' q => ?_)))))))
      obtain ⟨rfl, q⟩ := q
      refine wp_lt (wp_some (wp_e (isShip_t ⟨hn.1, by rw [st_ne (by omega)]; exact hn.2.1, by rw [st_ne (by omega)]; exact hn.2.2⟩ g) (wp_iff (by decide) (wp_e (isDay_t h) (wp_iff (by decide) (wp_lt (wp_lt (wp_rd (20 * s + d) ix20 (by omega) (by decide) ?_))))))))
      rw [st_ne (by omega), b1 d (by omega)]
      have K : Inv (bd_st (bd_st σ' (19 + 9 * s) 9 r) 72 (20 * s + d) v) := by
        refine hI.s hs4 (fun r k q => ?_) (e1.cg (fun r k q => st_2 (by omega) (by omega))) ⟨fun i hi => ?_, fun i hi => ?_⟩ (e3.cg (fun r k q => st_2 (by omega) (by omega))) (e4.cg (fun r k q => st_2 (by omega) (by omega)))
        · unfold sD at q
          exact st_2 (by omega) (by omega)
        · rw [st_ne (show 19 + 9 * s ≠ 72 by omega), st_same, q i hi]
          by_cases e : i = d
          · subst e; rw [if_pos rfl, st_same]; simp [hd]
          · rw [if_neg e, st_off (by omega), st_ne (show 72 ≠ 19 + 9 * s by omega)]; exact b1 i hi
        · by_cases e : i = d
          · subst e; rw [st_same]; exact hv
          · rw [st_off (by omega), st_ne (show 72 ≠ 19 + 9 * s by omega)]; exact b2 i hi
      refine wp_if (fun z => ?_) (fun z => ?_)
      · unfold f_X3_saw_36
        rw [nar_v hv]
        exact wp_lt (wp_lt (wp_wr (20 * s + d) ix20 (by omega) (by decide) (wp_some ⟨by simp [z], K⟩)))
      · unfold f_X3_saw_36
        rw [nar_v hv]
        exact wp_lt (wp_lt (wp_wr (20 * s + d) ix20 (by omega) (by decide) (wp_some ⟨by simp [z, hd], K⟩)))
    · exact wp_e (noDay_f h) (wp_iff (by decide) (wp_some (wp_e (isShip_t hn g) (wp_iff (by decide) (wp_e (isDay_f h) (wp_ift rfl (wp_some ⟨rfl, hI⟩)))))))
  · exact wp_e (noShip_f hn g) (wp_iff (by decide) (wp_some (wp_e (isShip_f hn g) (wp_ift rfl (wp_some ⟨rfl, hI⟩)))))
