theorem cs_C4 {σ0 : bd_S} (hI : Inv σ0) {d nk : Nat} (hd : d < 20) (hn : hS σ0 nk) : ∀ (m s n : Nat) (σ : bd_S), s + m = nk → m < n → qU σ0 σ → wp (f_X2_countSuspects_4 n (nI s) (nI (csO σ0 d s)) (nI d) σ) (fun r σ' => qU σ0 σ' ∧ r = nI (csO σ0 d nk)) := by
  intro m
  induction m with
  | zero =>
    intro s n σ hs hn' hU
    obtain ⟨n, rfl⟩ : ∃ z, n = z + 1 := ⟨n - 1, by omega⟩
    have h4 := hn.1
    have : s = nk := by omega
    subst this
    unfold f_X2_countSuspects_4
    refine wp_lt ?_
    rw [(hn.u hU).2.1]
    exact wp_ift ((nle (by omega) (by omega)).mpr (Nat.le_refl _)) (wp_some ⟨hU, rfl⟩)
  | succ m ih =>
    intro s n σ hs hn' hU
    obtain ⟨n, rfl⟩ : ∃ z, n = z + 1 := ⟨n - 1, by omega⟩
    have h4 := hn.1
    unfold f_X2_countSuspects_4
    refine wp_lt ?_
    rw [(hn.u hU).2.1]
    refine wp_iff (fun q => ?_) (cs_C hI hd (by omega) (n0 := csO σ0 d s) (fun σ' u => wp_lt ?_) 3 0 FU_ σ (by decide) (by rw [FU_v]; omega) hU)
    · have := (nle (by omega) (by omega)).mp q
      omega
    · rw [nI_1]
      exact ih (s + 1) n σ' (by omega) (by omega) u
theorem cs_R4 {σ0 : bd_S} (hI : Inv σ0) {d nk : Nat} (hd : d < 20) (hn : hS σ0 nk) : ∀ (m s n : Nat) (σ : bd_S), s + m = nk → m < n → qU σ0 σ → wp (f_X3_suspects_4 n (nI s) (nI (csO σ0 d s)) (nI d) σ) (fun r σ' => qU σ0 σ' ∧ r = nI (csO σ0 d nk)) := by
  intro m
  induction m with
  | zero =>
    intro s n σ hs hn' hU
    obtain ⟨n, rfl⟩ : ∃ z, n = z + 1 := ⟨n - 1, by omega⟩
    have h4 := hn.1
    have : s = nk := by omega
    subst this
    unfold f_X3_suspects_4
    refine wp_lt ?_
    rw [(hn.u hU).2.2]
    exact wp_ift ((nle (by omega) (by omega)).mpr (Nat.le_refl _)) (wp_some ⟨hU, rfl⟩)
  | succ m ih =>
    intro s n σ hs hn' hU
    obtain ⟨n, rfl⟩ : ∃ z, n = z + 1 := ⟨n - 1, by omega⟩
    have h4 := hn.1
    unfold f_X3_suspects_4
    refine wp_lt ?_
    rw [(hn.u hU).2.2]
    refine wp_iff (fun q => ?_) (cs_R hI hd (by omega) (n0 := csO σ0 d s) (fun σ' u => wp_lt ?_) 3 0 FU_ σ (by decide) (by rw [FU_v]; omega) hU)
    · have := (nle (by omega) (by omega)).mp q
      omega
    · rw [nI_1]
      exact ih (s + 1) n σ' (by omega) (by omega) u
theorem s_countSuspects {σ0 σ : bd_S} (hI : Inv σ0) {d nk : Nat} (hd : d < 20) (hn : hS σ0 nk) (hU : qU σ0 σ) : wp (f_X2_countSuspects (nI d) σ) (fun r σ' => qU σ0 σ' ∧ r = nI (csO σ0 d nk)) := cs_C4 hI hd hn nk 0 FU_ σ (by omega) (by rw [FU_v]; have := hn.1; omega) hU
theorem s_suspects {σ0 σ : bd_S} (hI : Inv σ0) {d nk : Nat} (hd : d < 20) (hn : hS σ0 nk) (hU : qU σ0 σ) : wp (f_X3_suspects (nI d) σ) (fun r σ' => qU σ0 σ' ∧ r = nI (csO σ0 d nk)) := cs_R4 hI hd hn nk 0 FU_ σ (by omega) (by rw [FU_v]; have := hn.1; omega) hU
theorem p_suspect {σ : bd_S} (hI : Inv σ) (x : Int32) : Pr (f_X2_suspect x) (f_X3_suspect x) σ := by
  obtain ⟨nk, hn⟩ := hI.hS
  unfold Pr f_X2_suspect f_X3_suspect
  by_cases h : okD x
  · obtain ⟨d, hd, rfl⟩ := h.n
    refine wp_e (noDay_t h) (wp_ift rfl (wp_c (s_countSuspects hI hd hn qU.rf) (fun r σ1 q => wp_some ?_)))
    refine wp_e (isDay_t h) (wp_iff (by decide) (wp_c (s_suspects hI hd hn q.1) (fun r' σ2 q' => wp_some ⟨q'.2.trans q.2.symm, hI.u q'.1⟩)))
  · exact wp_e (noDay_f h) (wp_iff (by decide) (wp_some (wp_e (isDay_f h) (wp_ift rfl (wp_some ⟨rfl, hI⟩)))))
