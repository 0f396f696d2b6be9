theorem ak_C17 {σ0 : bd_S} (hI : Inv σ0) {d nk : Nat} (hd : d < 20) (hn : hS σ0 nk) : ∀ (m s n : Nat) (σ : bd_S) (x3 x2 : Int32), s + m = nk → m < n → qU σ0 σ → x2 = (akO σ0 d s).1 → x3.toInt = (akO σ0 d s).2 → wp (f_X2_ask_17 n (nI s) x3 x2 (nI d) σ) (fun r σ' => qU σ0 σ' ∧ r = (akO σ0 d nk).1) := by
  intro m
  induction m with
  | zero =>
    intro s n σ x3 x2 hs hn' hU h2 h3
    obtain ⟨n, rfl⟩ : ∃ z, n = z + 1 := ⟨n - 1, by omega⟩
    have h4 := hn.1
    have : s = nk := by omega
    subst this
    unfold f_X2_ask_17
    refine wp_lt ?_
    rw [(hn.u hU).2.1]
    exact wp_ift ((nle (by omega) (by omega)).mpr (Nat.le_refl _)) (wp_some ⟨hU, h2⟩)
  | succ m ih =>
    intro s n σ x3 x2 hs hn' hU h2 h3
    obtain ⟨n, rfl⟩ : ∃ z, n = z + 1 := ⟨n - 1, by omega⟩
    have h4 := hn.1
    unfold f_X2_ask_17
    refine wp_lt ?_
    rw [(hn.u hU).2.1]
    refine wp_iff (fun q => ?_) (ak_C hI hd (by omega) (p := akO σ0 d s) (fun y3 y2 σ' u e2 e3 => wp_lt ?_) 3 0 FU_ σ x3 x2 (by decide) (by rw [FU_v]; omega) hU h2 h3)
    · have := (nle (by omega) (by omega)).mp q
      omega
    · rw [nI_1]
      exact ih (s + 1) n σ' y3 y2 (by omega) (by omega) u e2 e3
theorem ak_R17 {σ0 : bd_S} (hI : Inv σ0) {d nk : Nat} (hd : d < 20) (hn : hS σ0 nk) : ∀ (m s n : Nat) (σ : bd_S) (x3 x2 : Int32), s + m = nk → m < n → qU σ0 σ → x2 = (akO σ0 d s).1 → x3.toInt = (akO σ0 d s).2 → wp (f_X3_ask_17 n (nI s) x3 x2 (nI d) σ) (fun r σ' => qU σ0 σ' ∧ r = (akO σ0 d nk).1) := by
  intro m
  induction m with
  | zero =>
    intro s n σ x3 x2 hs hn' hU h2 h3
    obtain ⟨n, rfl⟩ : ∃ z, n = z + 1 := ⟨n - 1, by omega⟩
    have h4 := hn.1
    have : s = nk := by omega
    subst this
    unfold f_X3_ask_17
    refine wp_lt ?_
    rw [(hn.u hU).2.2]
    exact wp_ift ((nle (by omega) (by omega)).mpr (Nat.le_refl _)) (wp_some ⟨hU, h2⟩)
  | succ m ih =>
    intro s n σ x3 x2 hs hn' hU h2 h3
    obtain ⟨n, rfl⟩ : ∃ z, n = z + 1 := ⟨n - 1, by omega⟩
    have h4 := hn.1
    unfold f_X3_ask_17
    refine wp_lt ?_
    rw [(hn.u hU).2.2]
    refine wp_iff (fun q => ?_) (ak_R hI hd (by omega) (p := akO σ0 d s) (akO_0 s (by omega)) (fun y3 y2 σ' u e2 e3 => wp_lt ?_) 3 0 FU_ σ x3 x2 (by decide) (by rw [FU_v]; omega) hU h2 h3)
    · have := (nle (by omega) (by omega)).mp q
      omega
    · rw [nI_1]
      exact ih (s + 1) n σ' y3 y2 (by omega) (by omega) u e2 e3
theorem p_ask {σ : bd_S} (hI : Inv σ) (x : Int32) : Pr (f_X2_ask x) (f_X3_ask x) σ := by
  obtain ⟨nk, hn⟩ := hI.hS
  unfold Pr f_X2_ask f_X3_ask
  by_cases h : okD x
  · obtain ⟨d, hd, rfl⟩ := h.n
    have h4 := hn.1
    refine wp_e (noDay_t h) (wp_ift rfl (wp_mono (ak_C17 hI hd hn nk 0 FU_ σ 0 (-6) (by omega) (by rw [FU_v]; omega) qU.rf rfl rfl) (fun r σ1 q => ?_)))
    refine wp_e (isDay_t h) (wp_iff (by decide) (wp_mono (ak_R17 hI hd hn nk 0 FU_ σ1 0 (-6) (by omega) (by rw [FU_v]; omega) q.1 rfl rfl) (fun r' σ2 q' => ⟨q'.2.trans q.2.symm, hI.u q'.1⟩)))
  · exact wp_e (noDay_f h) (wp_iff (by decide) (wp_some (wp_e (isDay_f h) (wp_ift rfl (wp_some ⟨rfl, hI⟩)))))
