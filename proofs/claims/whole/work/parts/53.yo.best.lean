/-! BEST, WEIGHT, LANDFALL -/
def pcn (t : Nat) : Nat := bi t 0 + bi t 1 + bi t 2
theorem pcn_le (t : Nat) : pcn t ≤ 3 := by
  have h0 : bi t 0 < 2 := Nat.mod_lt _ (by decide)
  have h1 : bi t 1 < 2 := Nat.mod_lt _ (by decide)
  have h2 : bi t 2 < 2 := Nat.mod_lt _ (by decide)
  unfold pcn
  omega
theorem bc_r (x : Int32) : ∃ r, ∀ σ : bd_S, f_J6_bitCount_0f7a4 x σ = some (r, σ) := ⟨_, fun _ => rfl⟩
theorem bc_v : ∀ t, t < 8 → (f_J6_bitCount_0f7a4 (nI t) (fun _ _ => 0)).map (fun p => p.1) = some (nI (pcn t)) := by decide +kernel
theorem s_bc {σ : bd_S} {t : Nat} (ht : t < 8) : f_J6_bitCount_0f7a4 (nI t) σ = some (nI (pcn t), σ) := by
  obtain ⟨r, h⟩ := bc_r (nI t)
  have z := bc_v t ht
  rw [h] at z
  have z : some r = some (nI (pcn t)) := z
  rw [h σ, Option.some.inj z]
theorem bt_r (x : Int32) : ∃ r, ∀ σ : bd_S, f_X3_bits x σ = some (r, σ) := ⟨_, fun _ => rfl⟩
theorem bt_v : ∀ t, t < 8 → (f_X3_bits (nI t) (fun _ _ => 0)).map (fun p => p.1) = some (nI (pcn t)) := by decide +kernel
theorem s_bits {σ : bd_S} {t : Nat} (ht : t < 8) : f_X3_bits (nI t) σ = some (nI (pcn t), σ) := by
  obtain ⟨r, h⟩ := bt_r (nI t)
  have z := bt_v t ht
  rw [h] at z
  have z : some r = some (nI (pcn t)) := z
  rw [h σ, Option.some.inj z]
/-- the best of the sets up to one -/
noncomputable def BS (σ : bd_S) (s : Nat) : Nat → Nat
  | 0 => 0
  | j + 1 => if Wt σ s (BS σ s j) < Wt σ s (j + 1) ∨ (Wt σ s (j + 1) = Wt σ s (BS σ s j) ∧ pcn (BS σ s j) < pcn (j + 1)) then j + 1 else BS σ s j
theorem BS_y {σ : bd_S} {s j : Nat} (h : Wt σ s (BS σ s j) < Wt σ s (j + 1) ∨ (Wt σ s (j + 1) = Wt σ s (BS σ s j) ∧ pcn (BS σ s j) < pcn (j + 1))) : BS σ s (j + 1) = j + 1 := if_pos h
theorem BS_n {σ : bd_S} {s j : Nat} (h : ¬ (Wt σ s (BS σ s j) < Wt σ s (j + 1) ∨ (Wt σ s (j + 1) = Wt σ s (BS σ s j) ∧ pcn (BS σ s j) < pcn (j + 1)))) : BS σ s (j + 1) = BS σ s j := if_neg h
theorem BS_le {σ : bd_S} {s : Nat} : ∀ j, BS σ s j ≤ j := by
  intro j
  induction j with
  | zero => exact Nat.le_refl 0
  | succ j ih =>
    by_cases h : Wt σ s (BS σ s j) < Wt σ s (j + 1) ∨ (Wt σ s (j + 1) = Wt σ s (BS σ s j) ∧ pcn (BS σ s j) < pcn (j + 1))
    · rw [BS_y h]; exact Nat.le_refl _
    · rw [BS_n h]; omega
theorem BS_w {σ : bd_S} {s : Nat} : ∀ j, Wt σ s 0 ≤ Wt σ s (BS σ s j) := by
  intro j
  induction j with
  | zero => exact Nat.le_refl _
  | succ j ih =>
    by_cases h : Wt σ s (BS σ s j) < Wt σ s (j + 1) ∨ (Wt σ s (j + 1) = Wt σ s (BS σ s j) ∧ pcn (BS σ s j) < pcn (j + 1))
    · rw [BS_y h]; omega
    · rw [BS_n h]; exact ih
theorem BS_a {σ : bd_S} (hI : Inv σ) {s : Nat} (hs : s < 4) (j : Nat) : agr σ s (BS σ s j) := by
  have h1 := Wt_0 hI hs
  have h2 := BS_w (σ := σ) (s := s) j
  by_cases h : agr σ s (BS σ s j)
  · exact h
  · rw [Wt_n h] at h2; omega
theorem s_heaviest {σ0 σ : bd_S} (hI : Inv σ0) {s : Nat} (hs : s < 4) (hU : qU σ0 σ) (hR : RC σ0 s 3 σ) : wp (f_X2_heaviest (19 + 9 * s) σ) (fun r σ' => σ' = σ ∧ r = nI (BS σ0 s 7)) := by
  have key : ∀ (m j n : Nat), j + m = 7 → m < n → wp (f_X2_heaviest_12 n (nI (j + 1)) (nI (Wt σ0 s (BS σ0 s j))) (nI (BS σ0 s j)) (19 + 9 * s) σ) (fun r σ' => σ' = σ ∧ r = nI (BS σ0 s 7)) := by
    intro m
    induction m with
    | zero =>
      intro j n hj hn
      obtain ⟨n, rfl⟩ : ∃ z, n = z + 1 := ⟨n - 1, by omega⟩
      have : j = 7 := by omega
      subst this
      unfold f_X2_heaviest_12
      exact wp_ift ((nle (by decide) (by decide)).mpr (Nat.le_refl 8)) (wp_some ⟨rfl, rfl⟩)
    | succ m ih =>
      intro j n hj hn
      obtain ⟨n, rfl⟩ : ∃ z, n = z + 1 := ⟨n - 1, by omega⟩
      have hb := BS_le (σ := σ0) (s := s) j
      have hw1 := Wt_le hI (t := BS σ0 s j) hs
      have hw2 := Wt_le hI (t := j + 1) hs
      have hp1 := pcn_le (BS σ0 s j)
      have hp2 := pcn_le (j + 1)
      have yes : (Wt σ0 s (BS σ0 s j) < Wt σ0 s (j + 1) ∨ (Wt σ0 s (j + 1) = Wt σ0 s (BS σ0 s j) ∧ pcn (BS σ0 s j) < pcn (j + 1))) → wp (f_X2_heaviest_12 n (nI (j + 1 + 1)) (nI (Wt σ0 s (j + 1))) (nI (j + 1)) (19 + 9 * s) σ) (fun r σ' => σ' = σ ∧ r = nI (BS σ0 s 7)) := fun z => by
        have y := ih (j + 1) n (by omega) (by omega)
        rw [BS_y z] at y
        exact y
      have no : ¬ (Wt σ0 s (BS σ0 s j) < Wt σ0 s (j + 1) ∨ (Wt σ0 s (j + 1) = Wt σ0 s (BS σ0 s j) ∧ pcn (BS σ0 s j) < pcn (j + 1))) → wp (f_X2_heaviest_12 n (nI (j + 1 + 1)) (nI (Wt σ0 s (BS σ0 s j))) (nI (BS σ0 s j)) (19 + 9 * s) σ) (fun r σ' => σ' = σ ∧ r = nI (BS σ0 s 7)) := fun z => by
        have y := ih (j + 1) n (by omega) (by omega)
        rw [BS_n z] at y
        exact y
      unfold f_X2_heaviest_12
      refine wp_iff (fun q => ?_) (wp_c (s_weigh hI hs (show j + 1 < 8 by omega) hU hR) (fun r σ1 h => ?_))
      · have := (nle (a := 8) (by decide) (by omega)).mp q
        omega
      obtain ⟨rfl, rfl⟩ := h
      refine wp_if (fun q => wp_lt ?_) (fun q => wp_if (fun q' => ?_) (fun q' => wp_lt ?_))
      · rw [nI_1]
        exact yes (Or.inl ((nlt (by omega) (by omega)).mp q))
      · have q : ¬ Wt σ0 s (BS σ0 s j) < Wt σ0 s (j + 1) := fun z => q ((nlt (by omega) (by omega)).mpr z)
        have q' := (neq (by omega) (by omega)).mp q'
        refine wp_e (s_bc (by omega)) (wp_e (s_bc (by omega)) (wp_if (fun p => wp_lt ?_) (fun p => wp_lt ?_)))
        · have p := (nle (by omega) (by omega)).mp p
          rw [nI_1]
          exact no (by omega)
        · have p : ¬ pcn (j + 1) ≤ pcn (BS σ0 s j) := fun z => p ((nle (by omega) (by omega)).mpr z)
          rw [nI_1]
          exact yes (by omega)
      · have q : ¬ Wt σ0 s (BS σ0 s j) < Wt σ0 s (j + 1) := fun z => q ((nlt (by omega) (by omega)).mpr z)
        have q' : ¬ Wt σ0 s (j + 1) = Wt σ0 s (BS σ0 s j) := fun z => q' ((neq (by omega) (by omega)).mpr z)
        rw [nI_1]
        exact no (by omega)
  unfold f_X2_heaviest
  refine wp_c (s_weigh (t := 0) hI hs (by decide) hU hR) (fun r σ1 h => ?_)
  obtain ⟨rfl, rfl⟩ := h
  exact key 7 0 FU_ (by decide) (by rw [FU_v]; omega)
theorem sub_n {a b : Nat} (ha : a < 2000) (hb : b < 2000) : (nI a - nI b).toInt = (a : Int) - b := by
  rw [fb_subI, ti_nI ha, ti_nI hb] <;> rw [ti_nI ha, ti_nI hb] <;> omega
theorem s_bestOf {σ0 σ : bd_S} (hI : Inv σ0) {s : Nat} (hs : s < 4) (hU : qU σ0 σ) : wp (f_X3_bestOf (nI s) σ) (fun r σ' => (qU σ0 σ' ∧ RR σ0 s 3 σ') ∧ r = nI (BS σ0 s 7)) := by
  have key : ∀ (m j n : Nat) (σ : bd_S), j + m = 7 → m < n → qU σ0 σ → RR σ0 s 3 σ → wp (f_X3_bestOf_9 n (nI (j + 1)) (nI (BS σ0 s j)) (nI s) σ) (fun r σ' => (qU σ0 σ' ∧ RR σ0 s 3 σ') ∧ r = nI (BS σ0 s 7)) := by
    intro m
    induction m with
    | zero =>
      intro j n σ hj hn hU hR
      obtain ⟨n, rfl⟩ : ∃ z, n = z + 1 := ⟨n - 1, by omega⟩
      have : j = 7 := by omega
      subst this
      unfold f_X3_bestOf_9
      exact wp_ift ((nle (by decide) (by decide)).mpr (Nat.le_refl 8)) (wp_some ⟨⟨hU, hR⟩, rfl⟩)
    | succ m ih =>
      intro j n σ hj hn hU hR
      obtain ⟨n, rfl⟩ : ∃ z, n = z + 1 := ⟨n - 1, by omega⟩
      have hb := BS_le (σ := σ0) (s := s) j
      have hw1 := Wt_le hI (t := BS σ0 s j) hs
      have hw2 := Wt_le hI (t := j + 1) hs
      have hp1 := pcn_le (BS σ0 s j)
      have hp2 := pcn_le (j + 1)
      unfold f_X3_bestOf_9
      refine wp_iff (fun q => ?_) (wp_c (s_weightOf hI hs (show j + 1 < 8 by omega) hU hR) (fun r σ1 h => ?_))
      · have := (nle (a := 8) (by decide) (by omega)).mp q
        omega
      obtain ⟨h5, rfl⟩ := h
      have hU1 := q5.u hU h5
      have hR1 := q5.R hR h5
      refine wp_c (s_weightOf hI hs (show BS σ0 s j < 8 by omega) hU1 hR1) (fun r σ2 h => ?_)
      obtain ⟨h5', rfl⟩ := h
      have hU2 := q5.u hU1 h5'
      have hR2 := q5.R hR1 h5'
      have yes : (Wt σ0 s (BS σ0 s j) < Wt σ0 s (j + 1) ∨ (Wt σ0 s (j + 1) = Wt σ0 s (BS σ0 s j) ∧ pcn (BS σ0 s j) < pcn (j + 1))) → wp (f_X3_bestOf_9 n (nI (j + 1 + 1)) (nI (j + 1)) (nI s) σ2) (fun r σ' => (qU σ0 σ' ∧ RR σ0 s 3 σ') ∧ r = nI (BS σ0 s 7)) := fun z => by
        have y := ih (j + 1) n σ2 (by omega) (by omega) hU2 hR2
        rw [BS_y z] at y
        exact y
      have no : ¬ (Wt σ0 s (BS σ0 s j) < Wt σ0 s (j + 1) ∨ (Wt σ0 s (j + 1) = Wt σ0 s (BS σ0 s j) ∧ pcn (BS σ0 s j) < pcn (j + 1))) → wp (f_X3_bestOf_9 n (nI (j + 1 + 1)) (nI (BS σ0 s j)) (nI s) σ2) (fun r σ' => (qU σ0 σ' ∧ RR σ0 s 3 σ') ∧ r = nI (BS σ0 s 7)) := fun z => by
        have y := ih (j + 1) n σ2 (by omega) (by omega) hU2 hR2
        rw [BS_n z] at y
        exact y
      have ed := sub_n (a := Wt σ0 s (j + 1)) (b := Wt σ0 s (BS σ0 s j)) (by omega) (by omega)
      have e0 : (0 : Int32).toInt = 0 := rfl
      refine wp_lt (wp_if (fun q => wp_lt ?_) (fun q => wp_if (fun q' => ?_) (fun q' => wp_lt ?_)))
      · rw [ti_lt, ed, e0] at q
        rw [nI_1]
        exact yes (by omega)
      · rw [ti_lt, ed, e0] at q
        rw [ti_eq, ed, e0] at q'
        refine wp_e (s_bits (by omega)) (wp_e (s_bits (by omega)) (wp_if (fun p => wp_lt ?_) (fun p => wp_lt ?_)))
        · have p := (nle (by omega) (by omega)).mp p
          rw [nI_1]
          exact no (by omega)
        · have p : ¬ pcn (j + 1) ≤ pcn (BS σ0 s j) := fun z => p ((nle (by omega) (by omega)).mpr z)
          rw [nI_1]
          exact yes (by omega)
      · rw [ti_lt, ed, e0] at q
        rw [ti_eq, ed, e0] at q'
        rw [nI_1]
        exact no (by omega)
  unfold f_X3_bestOf
  exact wp_c (s_layPlaces hI hs hU) (fun _ σ1 h => key 7 0 FU_ σ1 (by decide) (by rw [FU_v]; omega) h.1 h.2)
theorem p_weight {σ : bd_S} (hI : Inv σ) (x y : Int32) : Pr (f_X2_weight x y) (f_X3_weight x y) σ := by
  obtain ⟨nk, hn⟩ := hI.hS
  unfold Pr f_X2_weight f_X3_weight
  by_cases h : okS nk x
  · refine wp_e (noShip_t hn h) (wp_ift rfl ?_)
    by_cases g : (0 : Int32).toInt ≤ y.toInt ∧ y.toInt ≤ (7 : Int32).toInt
    · obtain ⟨s, hs, rfl⟩ := h.n hn.1
      obtain ⟨t, ht, rfl⟩ := i_nI (m := 7) g (by decide)
      have hs4 : s < 4 := by have := hn.1; omega
      refine wp_e (out_t g) (wp_ift rfl (wp_rs s rfl hs4 (wp_c (s_findPlaces hI hs4 qU.rf) (fun _ σ1 q => ?_))))
      obtain ⟨u, hR⟩ := q
      refine wp_rs s rfl hs4 (wp_c (s_weigh hI hs4 (by omega) u hR) (fun r σ2 q => wp_some ?_))
      obtain ⟨rfl, rfl⟩ := q
      refine wp_e (isShip_t (hn.u u) h) (wp_iff (by decide) (wp_e (in_t g) (wp_iff (by decide) (wp_c (s_layPlaces hI hs4 u) (fun _ σ3 q => ?_)))))
      obtain ⟨u3, hR3⟩ := q
      refine wp_c (s_weightOf hI hs4 (by omega) u3 hR3) (fun r σ4 q => wp_some ⟨q.2, hI.u (q5.u u3 q.1)⟩)
    · exact wp_e (out_f g) (wp_iff (by decide) (wp_some (wp_e (isShip_t hn h) (wp_iff (by decide) (wp_e (in_f g) (wp_ift rfl (wp_some ⟨rfl, hI⟩)))))))
  · exact wp_e (noShip_f hn h) (wp_iff (by decide) (wp_some (wp_e (isShip_f hn h) (wp_ift rfl (wp_some ⟨rfl, hI⟩)))))
theorem p_best {σ : bd_S} (hI : Inv σ) (x : Int32) : Pr (f_X2_best x) (f_X3_best x) σ := by
  obtain ⟨nk, hn⟩ := hI.hS
  unfold Pr f_X2_best f_X3_best
  by_cases h : okS nk x
  · obtain ⟨s, hs, rfl⟩ := h.n hn.1
    have hs4 : s < 4 := by have := hn.1; omega
    refine wp_e (noShip_t hn h) (wp_ift rfl (wp_rs s rfl hs4 (wp_c (s_findPlaces hI hs4 qU.rf) (fun _ σ1 q => ?_))))
    obtain ⟨u, hR⟩ := q
    refine wp_rs s rfl hs4 (wp_c (s_heaviest hI hs4 u hR) (fun r σ2 q => wp_some ?_))
    obtain ⟨rfl, rfl⟩ := q
    exact wp_e (isShip_t (hn.u u) h) (wp_iff (by decide) (wp_c (s_bestOf hI hs4 u) (fun r σ3 q => wp_some ⟨q.2, hI.u q.1.1⟩)))
  · exact wp_e (noShip_f hn h) (wp_iff (by decide) (wp_some (wp_e (isShip_f hn h) (wp_ift rfl (wp_some ⟨rfl, hI⟩)))))
theorem p_landfall {σ : bd_S} (hI : Inv σ) (x y : Int32) : Pr (f_X2_landfall x y) (f_X3_landfall x y) σ := by
  obtain ⟨nk, hn⟩ := hI.hS
  unfold Pr f_X2_landfall f_X3_landfall
  by_cases h : okS nk x
  · refine wp_e (noShip_t hn h) (wp_ift rfl ?_)
    by_cases g : okE y
    · obtain ⟨s, hs, rfl⟩ := h.n hn.1
      have hs4 : s < 4 := by have := hn.1; omega
      have hb := BS_le (σ := σ) (s := s) 7
      have hA := BS_a hI hs4 7
      refine wp_e (noEnd_t g) (wp_ift rfl (wp_rs s rfl hs4 (wp_c (s_findPlaces hI hs4 qU.rf) (fun _ σ1 q => ?_))))
      obtain ⟨u, hR⟩ := q
      refine wp_rs s rfl hs4 (wp_c (s_heaviest hI hs4 u hR) (fun r σ2 q => ?_))
      obtain ⟨rfl, rfl⟩ := q
      have ref : ∀ {P : Int32 → bd_S → Prop}, (∀ σ3, qU σ σ3 → RR σ s 3 σ3 → wp (if nI (BS σ s 7) = 0 then some (-100000003, σ3) else bd_b (f_X3_agrees (nI (BS σ s 7)) σ3) (fun z36 s36 => (if y = 0 then bd_lt (s36 55 34) (fun z45 => some (z45, s36)) else bd_lt (s36 55 35) (fun z52 => some (z52, s36))))) P) →
          wp (bd_b (f_X3_isShip (nI s) σ2) (fun z2 s2 => (if z2 = 0 then some ((-100000001), s2) else bd_b (f_X3_isEnd y s2) (fun z12 s12 => (if z12 = 0 then some ((-100000002), s12) else bd_b (f_X3_bestOf (nI s) s12) (fun z23 s23 => (if z23 = 0 then some ((-100000003), s23) else bd_b (f_X3_agrees z23 s23) (fun z36 s36 => (if y = 0 then bd_lt (s36 55 34) (fun z45 => some (z45, s36)) else bd_lt (s36 55 35) (fun z52 => some (z52, s36))))))))))) P := fun hP => by
        refine wp_e (isShip_t (hn.u u) h) (wp_iff (by decide) (wp_e (isEnd_t g) (wp_iff (by decide) (wp_c (s_bestOf hI hs4 u) (fun r σ3 q => ?_)))))
        obtain ⟨⟨u3, hR3⟩, rfl⟩ := q
        exact hP σ3 u3 hR3
      have e1 : fM (-1000000) (fun c => (σ2 17 c).toInt) (BS σ s 7) 3 = fM (-1000000) (plc σ s) (BS σ s 7) 3 := fM_cg 3 (fun c hc => (hR c hc).1)
      have e2 : fm 1000000 (fun c => (σ2 18 c).toInt) (BS σ s 7) 3 = fm 1000000 (pgc σ s) (BS σ s 7) 3 := fm_cg 3 (fun c hc => (hR c hc).2)
      refine wp_if (fun q => wp_some (ref (fun σ3 u3 hR3 => wp_ift q (wp_some ⟨rfl, hI.u u3⟩)))) (fun q => ?_)
      have h0 : ¬ BS σ s 7 = 0 := fun z => q (by rw [z]; rfl)
      refine wp_if (fun y0 => wp_c (s_leastShared (by omega)) (fun r σ3 z => wp_some ?_)) (fun y0 => wp_c (s_greatestShared (by omega)) (fun r σ3 z => wp_some ?_))
      · obtain ⟨rfl, z⟩ := z
        refine ref (fun σ4 u4 hR4 => wp_iff q (wp_c (s_agrees (by omega)) (fun r' σ5 w => wp_ift y0 (wp_lt (wp_some ⟨?_, hI.u (q5.u u4 w.1)⟩)))))
        exact ti_eq.mpr (w.2.1.trans ((shr_R (by omega) h0 hR4 hA).1.trans (z.trans e1).symm))
      · obtain ⟨rfl, z⟩ := z
        refine ref (fun σ4 u4 hR4 => wp_iff q (wp_c (s_agrees (by omega)) (fun r' σ5 w => wp_iff y0 (wp_lt (wp_some ⟨?_, hI.u (q5.u u4 w.1)⟩)))))
        exact ti_eq.mpr (w.2.2.1.trans ((shr_R (by omega) h0 hR4 hA).2.trans (z.trans e2).symm))
    · exact wp_e (noEnd_f g) (wp_iff (by decide) (wp_some (wp_e (isShip_t hn h) (wp_iff (by decide) (wp_e (isEnd_f g) (wp_ift rfl (wp_some ⟨rfl, hI⟩)))))))
  · exact wp_e (noShip_f hn h) (wp_iff (by decide) (wp_some (wp_e (isShip_f hn h) (wp_ift rfl (wp_some ⟨rfl, hI⟩)))))
