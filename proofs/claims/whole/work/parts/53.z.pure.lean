/-! THE LAW'S LOOP -/
theorem wp_sx {α : Type} {xs : Nat → Int32} {L i : Nat} {x : Int32} {k : Int32 → Option (α × bd_S)} {P : α → bd_S → Prop} (hi : x = nI i) (h : i < L) (hL : L ≤ 3584) (hh : wp (k (xs i)) P) : wp (bd_sx xs L x k) P := by
  subst hi
  unfold bd_sx
  rw [if_neg (nI_in h (by omega)), nI_clamp (by omega)]
  exact hh
theorem wp_x {α : Type} {xs : Nat → Int32} {L i : Nat} {k : Int32 → Option (α × bd_S)} {P : α → bd_S → Prop} (j : Nat) (h : i + 7 ≤ L) (hL : L ≤ 3584) (hj : j < 7) (hh : wp (k (xs (i + j))) P) : wp (bd_lt (nI i + nI j) (fun z => bd_sx xs L z k)) P := wp_lt (wp_sx (nI_add i j) (by omega) hL hh)
theorem law_loop (xs : Nat → Int32) (L : Nat) (hL : L ≤ 3584) : ∀ (M i n : Nat) (σ : bd_S), L + 1 ≤ i + M → M < n → i ≤ L + 7 → Inv σ → wp (f_L_law_18 xs L n (nI i) σ) (fun r _ => r = 1) := by
  intro M
  induction M with
  | zero =>
    intro i n σ h1 h2 h3 hI
    obtain ⟨n, rfl⟩ : ∃ z, n = z + 1 := ⟨n - 1, by omega⟩
    unfold f_L_law_18
    refine wp_lt (wp_lt (wp_ift ?_ (wp_some rfl)))
    have e : (nI L - nI 7).toInt = (L : Int) - 7 := pk_sub_toInt (by omega) (by decide)
    have e : (Int32.ofNat L - 7).toInt = (L : Int) - 7 := e
    rw [ti_lt, e, nI_toInt (by omega)]
    omega
  | succ M ih =>
    intro i n σ h1 h2 h3 hI
    obtain ⟨n, rfl⟩ : ∃ z, n = z + 1 := ⟨n - 1, by omega⟩
    have e : (nI L - nI 7).toInt = (L : Int) - 7 := pk_sub_toInt (by omega) (by decide)
    have e : (Int32.ofNat L - 7).toInt = (L : Int) - 7 := e
    unfold f_L_law_18
    refine wp_lt (wp_lt (wp_if (fun _ => wp_some rfl) (fun q => ?_)))
    rw [ti_lt, e, nI_toInt (by omega)] at q
    have h : i + 7 ≤ L := by omega
    have fin : ∀ σ2 : bd_S, Inv σ2 → wp (f_L_law_18 xs L n (nI i + 7) σ2) (fun r _ => r = 1) := fun σ2 hI2 => by
      rw [show nI i + 7 = nI (i + 7) from nI_add i 7]
      exact ih (i + 7) n σ2 (by omega) (by omega) (by omega) hI2
    refine wp_sx rfl (by omega) hL (wp_lt ?_)
    refine wp_if (fun _ => ?_) (fun _ => ?_)
    · exact wp_x 1 h hL (by decide) (wp_x 2 h hL (by decide) (wp_c (p_star hI _ _) (fun r σ1 q => wp_x 1 h hL (by decide) (wp_x 2 h hL (by decide) (wp_c q (fun r' σ2 q2 => wp_ift q2.1.symm (wp_lt (fin σ2 q2.2))))))))
    refine wp_if (fun _ => ?_) (fun _ => ?_)
    · exact wp_x 1 h hL (by decide) (wp_c (p_care hI _) (fun r σ1 q => wp_x 1 h hL (by decide) (wp_c q (fun r' σ2 q2 => wp_ift q2.1.symm (wp_lt (fin σ2 q2.2))))))
    refine wp_if (fun _ => ?_) (fun _ => ?_)
    · exact wp_x 1 h hL (by decide) (wp_x 2 h hL (by decide) (wp_c (p_off hI _ _) (fun r σ1 q => wp_x 1 h hL (by decide) (wp_x 2 h hL (by decide) (wp_c q (fun r' σ2 q2 => wp_ift q2.1.symm (wp_lt (fin σ2 q2.2))))))))
    refine wp_if (fun _ => ?_) (fun _ => ?_)
    · exact wp_x 1 h hL (by decide) (wp_c (p_rate hI _) (fun r σ1 q => wp_x 1 h hL (by decide) (wp_c q (fun r' σ2 q2 => wp_ift q2.1.symm (wp_lt (fin σ2 q2.2))))))
    refine wp_if (fun _ => ?_) (fun _ => ?_)
    · exact wp_x 1 h hL (by decide) (wp_x 2 h hL (by decide) (wp_x 3 h hL (by decide) (wp_c (p_slow hI _ _ _) (fun r σ1 q => wp_x 1 h hL (by decide) (wp_x 2 h hL (by decide) (wp_x 3 h hL (by decide) (wp_c q (fun r' σ2 q2 => wp_ift q2.1.symm (wp_lt (fin σ2 q2.2))))))))))
    refine wp_if (fun _ => ?_) (fun _ => ?_)
    · exact wp_x 1 h hL (by decide) (wp_x 2 h hL (by decide) (wp_c (p_slip hI _ _) (fun r σ1 q => wp_x 1 h hL (by decide) (wp_x 2 h hL (by decide) (wp_c q (fun r' σ2 q2 => wp_ift q2.1.symm (wp_lt (fin σ2 q2.2))))))))
    refine wp_if (fun _ => ?_) (fun _ => ?_)
    · refine wp_x 1 h hL (by decide) (wp_x 2 h hL (by decide) (wp_if (fun h0 => ?_) (fun h0 => ?_)))
      · unfold f_L_law_379
        exact wp_c (p_back hI _ 0 (Or.inl rfl)) (fun r σ1 q => wp_x 1 h hL (by decide) (wp_x 2 h hL (by decide) (wp_ift h0 (wp_c q (fun r' σ2 q2 => wp_ift q2.1.symm (wp_lt (fin σ2 q2.2)))))))
      · unfold f_L_law_379
        exact wp_c (p_back hI _ 1 (Or.inr rfl)) (fun r σ1 q => wp_x 1 h hL (by decide) (wp_x 2 h hL (by decide) (wp_iff h0 (wp_c q (fun r' σ2 q2 => wp_ift q2.1.symm (wp_lt (fin σ2 q2.2)))))))
    refine wp_if (fun _ => ?_) (fun _ => ?_)
    · exact wp_x 1 h hL (by decide) (wp_x 2 h hL (by decide) (wp_c (p_late hI _ _) (fun r σ1 q => wp_x 1 h hL (by decide) (wp_x 2 h hL (by decide) (wp_c q (fun r' σ2 q2 => wp_ift q2.1.symm (wp_lt (fin σ2 q2.2))))))))
    refine wp_if (fun _ => ?_) (fun _ => ?_)
    · exact wp_c (p_ship hI) (fun r σ1 q => wp_c q (fun r' σ2 q2 => wp_ift q2.1.symm (wp_lt (fin σ2 q2.2))))
    refine wp_if (fun _ => ?_) (fun _ => ?_)
    · exact wp_x 1 h hL (by decide) (wp_x 2 h hL (by decide) (wp_x 3 h hL (by decide) (wp_x 4 h hL (by decide) (wp_x 5 h hL (by decide) (wp_x 6 h hL (by decide) (wp_c (p_set hI _ _ _ _ _ _) (fun r σ1 q => wp_x 1 h hL (by decide) (wp_x 2 h hL (by decide) (wp_x 3 h hL (by decide) (wp_x 4 h hL (by decide) (wp_x 5 h hL (by decide) (wp_x 6 h hL (by decide) (wp_c q (fun r' σ2 q2 => wp_ift q2.1.symm (wp_lt (fin σ2 q2.2))))))))))))))))
    refine wp_if (fun _ => ?_) (fun _ => ?_)
    · exact wp_x 1 h hL (by decide) (wp_x 2 h hL (by decide) (wp_x 3 h hL (by decide) (wp_x 4 h hL (by decide) (wp_x 5 h hL (by decide) (wp_c (p_meet hI _ _ _ _ _) (fun r σ1 q => wp_x 1 h hL (by decide) (wp_x 2 h hL (by decide) (wp_x 3 h hL (by decide) (wp_x 4 h hL (by decide) (wp_x 5 h hL (by decide) (wp_c q (fun r' σ2 q2 => wp_ift q2.1.symm (wp_lt (fin σ2 q2.2))))))))))))))
    refine wp_if (fun _ => ?_) (fun _ => ?_)
    · exact wp_x 1 h hL (by decide) (wp_c (p_strike hI _) (fun r σ1 q => wp_x 1 h hL (by decide) (wp_c q (fun r' σ2 q2 => wp_ift q2.1.symm (wp_lt (fin σ2 q2.2))))))
    refine wp_if (fun _ => ?_) (fun _ => ?_)
    · refine wp_x 1 h hL (by decide) (wp_x 2 h hL (by decide) (wp_x 3 h hL (by decide) (wp_if (fun h0 => ?_) (fun h0 => ?_))))
      · unfold f_L_law_640
        exact wp_c (p_saw hI _ _ 0 (Or.inl rfl)) (fun r σ1 q => wp_x 1 h hL (by decide) (wp_x 2 h hL (by decide) (wp_x 3 h hL (by decide) (wp_ift h0 (wp_c q (fun r' σ2 q2 => wp_ift q2.1.symm (wp_lt (fin σ2 q2.2))))))))
      · unfold f_L_law_640
        exact wp_c (p_saw hI _ _ 1 (Or.inr rfl)) (fun r σ1 q => wp_x 1 h hL (by decide) (wp_x 2 h hL (by decide) (wp_x 3 h hL (by decide) (wp_iff h0 (wp_c q (fun r' σ2 q2 => wp_ift q2.1.symm (wp_lt (fin σ2 q2.2))))))))
    refine wp_if (fun _ => ?_) (fun _ => ?_)
    · exact wp_x 1 h hL (by decide) (wp_x 2 h hL (by decide) (wp_x 3 h hL (by decide) (wp_x 4 h hL (by decide) (wp_c (p_clock hI _ _ _ _) (fun r σ1 q => wp_x 1 h hL (by decide) (wp_x 2 h hL (by decide) (wp_x 3 h hL (by decide) (wp_x 4 h hL (by decide) (wp_c q (fun r' σ2 q2 => wp_ift q2.1.symm (wp_lt (fin σ2 q2.2))))))))))))
    refine wp_if (fun _ => ?_) (fun _ => ?_)
    · exact wp_x 1 h hL (by decide) (wp_x 2 h hL (by decide) (wp_c (p_warm hI _ _) (fun r σ1 q => wp_x 1 h hL (by decide) (wp_x 2 h hL (by decide) (wp_c q (fun r' σ2 q2 => wp_ift q2.1.symm (wp_lt (fin σ2 q2.2))))))))
    refine wp_if (fun _ => ?_) (fun _ => ?_)
    · exact wp_x 1 h hL (by decide) (wp_x 2 h hL (by decide) (wp_c (p_jumped hI _ _) (fun r σ1 q => wp_x 1 h hL (by decide) (wp_x 2 h hL (by decide) (wp_c q (fun r' σ2 q2 => wp_ift q2.1.symm (wp_lt (fin σ2 q2.2))))))))
    refine wp_if (fun _ => ?_) (fun _ => ?_)
    · exact wp_x 1 h hL (by decide) (wp_x 2 h hL (by decide) (wp_x 3 h hL (by decide) (wp_x 4 h hL (by decide) (wp_c (p_ahead hI _ _ _ _) (fun r σ1 q => wp_x 1 h hL (by decide) (wp_x 2 h hL (by decide) (wp_x 3 h hL (by decide) (wp_x 4 h hL (by decide) (wp_c q (fun r' σ2 q2 => wp_ift q2.1.symm (wp_lt (fin σ2 q2.2))))))))))))
    refine wp_if (fun _ => ?_) (fun _ => ?_)
    · exact wp_x 1 h hL (by decide) (wp_x 2 h hL (by decide) (wp_x 3 h hL (by decide) (wp_c (p_gains hI _ _ _) (fun r σ1 q => wp_x 1 h hL (by decide) (wp_x 2 h hL (by decide) (wp_x 3 h hL (by decide) (wp_c q (fun r' σ2 q2 => wp_ift q2.1.symm (wp_lt (fin σ2 q2.2))))))))))
    refine wp_if (fun _ => ?_) (fun _ => ?_)
    · exact wp_x 1 h hL (by decide) (wp_x 2 h hL (by decide) (wp_x 3 h hL (by decide) (wp_x 4 h hL (by decide) (wp_x 5 h hL (by decide) (wp_c (p_place hI _ _ _ _ _) (fun r σ1 q => wp_x 1 h hL (by decide) (wp_x 2 h hL (by decide) (wp_x 3 h hL (by decide) (wp_x 4 h hL (by decide) (wp_x 5 h hL (by decide) (wp_c q (fun r' σ2 q2 => wp_ift q2.1.symm (wp_lt (fin σ2 q2.2))))))))))))))
    refine wp_if (fun _ => ?_) (fun _ => ?_)
    · exact wp_x 1 h hL (by decide) (wp_x 2 h hL (by decide) (wp_x 3 h hL (by decide) (wp_x 4 h hL (by decide) (wp_x 5 h hL (by decide) (wp_c (p_reads hI _ _ _ _ _) (fun r σ1 q => wp_x 1 h hL (by decide) (wp_x 2 h hL (by decide) (wp_x 3 h hL (by decide) (wp_x 4 h hL (by decide) (wp_x 5 h hL (by decide) (wp_c q (fun r' σ2 q2 => wp_ift q2.1.symm (wp_lt (fin σ2 q2.2))))))))))))))
    refine wp_if (fun _ => ?_) (fun _ => ?_)
    · exact wp_x 1 h hL (by decide) (wp_x 2 h hL (by decide) (wp_c (p_weight hI _ _) (fun r σ1 q => wp_x 1 h hL (by decide) (wp_x 2 h hL (by decide) (wp_c q (fun r' σ2 q2 => wp_ift q2.1.symm (wp_lt (fin σ2 q2.2))))))))
    refine wp_if (fun _ => ?_) (fun _ => ?_)
    · exact wp_x 1 h hL (by decide) (wp_x 2 h hL (by decide) (wp_x 3 h hL (by decide) (wp_c (p_odds hI _ _ _) (fun r σ1 q => wp_x 1 h hL (by decide) (wp_x 2 h hL (by decide) (wp_x 3 h hL (by decide) (wp_c q (fun r' σ2 q2 => wp_lt (wp_ift ((lg_cmp_eq _ _).mpr q2.1.symm) (wp_lt (fin σ2 q2.2)))))))))))
    refine wp_if (fun _ => ?_) (fun _ => ?_)
    · exact wp_x 1 h hL (by decide) (wp_c (p_best hI _) (fun r σ1 q => wp_x 1 h hL (by decide) (wp_c q (fun r' σ2 q2 => wp_ift q2.1.symm (wp_lt (fin σ2 q2.2))))))
    refine wp_if (fun _ => ?_) (fun _ => ?_)
    · exact wp_x 1 h hL (by decide) (wp_x 2 h hL (by decide) (wp_c (p_landfall hI _ _) (fun r σ1 q => wp_x 1 h hL (by decide) (wp_x 2 h hL (by decide) (wp_c q (fun r' σ2 q2 => wp_ift q2.1.symm (wp_lt (fin σ2 q2.2))))))))
    refine wp_if (fun _ => ?_) (fun _ => ?_)
    · exact wp_x 1 h hL (by decide) (wp_c (p_suspect hI _) (fun r σ1 q => wp_x 1 h hL (by decide) (wp_c q (fun r' σ2 q2 => wp_ift q2.1.symm (wp_lt (fin σ2 q2.2))))))
    refine wp_if (fun _ => ?_) (fun _ => ?_)
    · exact wp_x 1 h hL (by decide) (wp_c (p_worst hI _) (fun r σ1 q => wp_x 1 h hL (by decide) (wp_c q (fun r' σ2 q2 => wp_ift q2.1.symm (wp_lt (fin σ2 q2.2))))))
    refine wp_if (fun _ => ?_) (fun _ => ?_)
    · exact wp_x 1 h hL (by decide) (wp_x 2 h hL (by decide) (wp_c (p_slipped hI _ _) (fun r σ1 q => wp_x 1 h hL (by decide) (wp_x 2 h hL (by decide) (wp_c q (fun r' σ2 q2 => wp_ift q2.1.symm (wp_lt (fin σ2 q2.2))))))))
    refine wp_if (fun _ => ?_) (fun _ => ?_)
    · exact wp_x 1 h hL (by decide) (wp_c (p_ask hI _) (fun r σ1 q => wp_x 1 h hL (by decide) (wp_c q (fun r' σ2 q2 => wp_ift q2.1.symm (wp_lt (fin σ2 q2.2))))))
    refine wp_if (fun _ => ?_) (fun _ => ?_)
    · exact wp_x 1 h hL (by decide) (wp_x 2 h hL (by decide) (wp_x 3 h hL (by decide) (wp_x 4 h hL (by decide) (wp_x 5 h hL (by decide) (wp_c (p_carry hI _ _ _ _ _) (fun r σ1 q => wp_x 1 h hL (by decide) (wp_x 2 h hL (by decide) (wp_x 3 h hL (by decide) (wp_x 4 h hL (by decide) (wp_x 5 h hL (by decide) (wp_c q (fun r' σ2 q2 => wp_ift q2.1.symm (wp_lt (fin σ2 q2.2))))))))))))))
    refine wp_if (fun _ => ?_) (fun _ => ?_)
    · exact wp_x 1 h hL (by decide) (wp_x 2 h hL (by decide) (wp_c (p_port hI _ _) (fun r σ1 q => wp_x 1 h hL (by decide) (wp_x 2 h hL (by decide) (wp_c q (fun r' σ2 q2 => wp_ift q2.1.symm (wp_lt (fin σ2 q2.2))))))))
    refine wp_if (fun _ => ?_) (fun _ => ?_)
    · exact wp_x 1 h hL (by decide) (wp_c (p_told hI _) (fun r σ1 q => wp_x 1 h hL (by decide) (wp_c q (fun r' σ2 q2 => wp_ift q2.1.symm (wp_lt (fin σ2 q2.2))))))
    exact wp_lt (fin σ hI)
theorem bd_pure (xs : Nat → Int32) (L : Nat) (hL : L ≤ 3584) : ∃ σ1 σ2 σ3 σ4 : bd_S, f_X2_init_108 (fun s => some ((), s)) sx_s0 = some ((), σ1) ∧ f_X2_init_167 (fun s => some ((), s)) σ1 = some ((), σ2) ∧ (∀ r, 19 ≤ r → σ1 r = sx_s0 r) ∧ (∀ r, 19 ≤ r → σ2 r = sx_s0 r) ∧ f_X3_init_238 (fun s => some ((), s)) σ2 = some ((), σ3) ∧ f_L_law_18 xs L FU_ 0 σ3 = some (1, σ4) := by
  obtain ⟨⟨⟩, σ1, h1, d1⟩ := s_begin1
  obtain ⟨⟨⟩, σ2, h2, d2, d2'⟩ := s_begin2 (σ1 := σ1)
  obtain ⟨⟨⟩, σ3, h3, hI⟩ := s_begin3 d1 d2 d2'
  obtain ⟨r, σ4, h4, rfl⟩ := law_loop xs L hL (L + 1) 0 FU_ σ3 (by omega) (by rw [FU_v]; omega) (by omega) hI
  refine ⟨σ1, σ2, σ3, σ4, h1, h2, fun r hr => d1.2.2.2 r (by omega) (by omega) (by omega) (by omega), fun r hr => ?_, h3, h4⟩
  rw [d2 r (by omega) (by omega)]
  exact d1.2.2.2 r (by omega) (by omega) (by omega) (by omega)
