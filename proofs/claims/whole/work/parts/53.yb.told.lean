theorem s_isTold {σ0 σ : bd_S} {s c : Nat} (hI : Inv σ0) (hU : qV σ0 σ) (hs : s < 4) (hc : c < 3) : wp (f_X2_isTold (19 + 9 * s) (nI c) σ) (fun r σ' => σ' = σ ∧ ((r = 1 ∧ isTld σ0 s c) ∨ (r = 0 ∧ ¬ isTld σ0 s c))) := by
  obtain ⟨⟨⟨hn1, hn2⟩, hn3, hN⟩, hF, -, -⟩ := hI.2.2.2.2 s hs
  have key : ∀ (m k n : Nat), k + m = nts σ0 s → m < n → (∀ j, j < k → ¬ tlA σ0 s c j) → wp (f_X2_isTold_2 n (nI k) (19 + 9 * s) (nI c) σ) (fun r σ' => σ' = σ ∧ ((r = 1 ∧ isTld σ0 s c) ∨ (r = 0 ∧ ¬ isTld σ0 s c))) := by
    intro m
    induction m with
    | zero =>
      intro k n hk hn hno
      obtain ⟨n, rfl⟩ : ∃ z, n = z + 1 := ⟨n - 1, by omega⟩
      unfold f_X2_isTold_2
      refine wp_lt ?_
      rw [hU.at (r := 19 + 9 * s) (by omega), hn3, hn2]
      refine wp_ift ((nle (by omega) (by omega)).mpr (by omega)) (wp_zr (Or.inl rfl) ⟨rfl, Or.inr ⟨rfl, ?_⟩⟩)
      rintro ⟨j, hj, q⟩
      exact hno j (by omega) q
    | succ m ih =>
      intro k n hk hn hno
      obtain ⟨n, rfl⟩ : ∃ z, n = z + 1 := ⟨n - 1, by omega⟩
      have hR := hN k (by omega)
      obtain ⟨r1, -⟩ := hR
      have skip : ¬ tlA σ0 s c k → wp (f_X2_isTold_2 n (nI (k + 1)) (19 + 9 * s) (nI c) σ) (fun r σ' => σ' = σ ∧ ((r = 1 ∧ isTld σ0 s c) ∨ (r = 0 ∧ ¬ isTld σ0 s c))) := fun z => ih (k + 1) n (by omega) (by omega) (fun j hj => by
        by_cases e : j = k
        · subst e; exact z
        · exact hno j (by omega))
      unfold f_X2_isTold_2
      refine wp_lt ?_
      rw [hU.at (r := 19 + 9 * s) (by omega), hn3, hn2]
      refine wp_iff (fun q => ?_) (wp_rd k rfl (by omega) (by decide) ?_)
      · have := (nle (by omega) (by omega)).mp q
        omega
      rw [hU.at (r := 19 + 9 * s + 1) (by omega), r1]
      refine wp_if (fun g1 => wp_c (s_counts hs (by omega) (hN k (by omega)) hI.2.1 hF hU) (fun r σ' h => ?_)) (fun g1 => wp_lt (by rw [nI_1]; exact skip (fun z => g1 z.1)))
      obtain ⟨rfl, h⟩ := h
      rcases h with ⟨rfl, h⟩ | ⟨rfl, h⟩
      · exact wp_iff (by decide) (wp_zr (Or.inr rfl) ⟨rfl, Or.inl ⟨rfl, k, by omega, g1, h⟩⟩)
      · exact wp_ift rfl (wp_lt (by rw [nI_1]; exact skip (fun z => h z.2)))
  unfold f_X2_isTold
  exact key (nts σ0 s) 0 FU_ (by omega) (by rw [FU_v]; omega) (fun j hj => absurd hj (Nat.not_lt_zero j))
theorem s_isMarked {σ0 σ : bd_S} {s c : Nat} (hI : Inv σ0) (hU : qR σ0 σ) (h30 : σ 55 30 = -6) (hs : s < 4) (hc : c < 3) : wp (f_X3_isMarked (nI s) (nI c) σ) (fun r σ' => σ' = σ ∧ ((r = 1 ∧ isTld σ0 s c) ∨ (r = 0 ∧ ¬ isTld σ0 s c))) := by
  obtain ⟨⟨⟨hn1, hn2⟩, hn3, hN⟩, hF, -, -⟩ := hI.2.2.2.2 s hs
  have key : ∀ (m k n : Nat) (x : Int32), k + m = nts σ0 s → m < n → ((x = 0 ∧ ∀ j, j < k → ¬ tlA σ0 s c j) ∨ (x = 1 ∧ isTld σ0 s c)) → wp (f_X3_isMarked_5 n (nI k) x (nI s) (nI c) σ) (fun r σ' => σ' = σ ∧ ((r = 1 ∧ isTld σ0 s c) ∨ (r = 0 ∧ ¬ isTld σ0 s c))) := by
    intro m
    induction m with
    | zero =>
      intro k n x hk hn hx
      obtain ⟨n, rfl⟩ : ∃ z, n = z + 1 := ⟨n - 1, by omega⟩
      unfold f_X3_isMarked_5
      refine wp_rd s rfl hs (by decide) ?_
      rw [hU.at (r := 66) (by decide), hn2]
      refine wp_ift ((nle (by omega) (by omega)).mpr (by omega)) ?_
      rcases hx with ⟨rfl, hno⟩ | ⟨rfl, hx⟩
      · refine wp_zr (Or.inl rfl) ⟨rfl, Or.inr ⟨rfl, ?_⟩⟩
        rintro ⟨j, hj, q⟩
        exact hno j (by omega) q
      · exact wp_zr (Or.inr rfl) ⟨rfl, Or.inl ⟨rfl, hx⟩⟩
    | succ m ih =>
      intro k n x hk hn hx
      obtain ⟨n, rfl⟩ : ∃ z, n = z + 1 := ⟨n - 1, by omega⟩
      have hRn := (hN k (by omega)).n
      unfold f_X3_isMarked_5
      refine wp_rd s rfl hs (by decide) ?_
      rw [hU.at (r := 66) (by decide), hn2]
      refine wp_iff (fun q => ?_) (wp_lt (wp_lt ?_))
      · have := (nle (by omega) (by omega)).mp q
        omega
      rw [ix12]
      rcases hx with ⟨rfl, hno⟩ | ⟨rfl, hx⟩
      · have skip : ¬ tlA σ0 s c k → wp (f_X3_isMarked_5 n (nI (k + 1)) 0 (nI s) (nI c) σ) (fun r σ' => σ' = σ ∧ ((r = 1 ∧ isTld σ0 s c) ∨ (r = 0 ∧ ¬ isTld σ0 s c))) := fun z => ih (k + 1) n 0 (by omega) (by omega) (Or.inl ⟨rfl, fun j hj => by
          by_cases e : j = k
          · subst e; exact z
          · exact hno j (by omega)⟩)
        refine wp_ift rfl (wp_rd (12 * s + k) rfl (by omega) (by decide) ?_)
        rw [hU.at (r := 67) (by decide)]
        refine wp_if (fun g1 => wp_c (s_doesCount (w := 99) hs (by omega) hRn hU (fun k hk => by rw [h30]; exact m6_nI hk)) (fun r σ' h => ?_)) (fun g1 => wp_lt (by rw [nI_1]; exact skip (fun z => g1 z.1)))
        obtain ⟨rfl, h⟩ := h
        rw [cnt99 hRn.1.1] at h
        rcases h with ⟨rfl, h⟩ | ⟨rfl, h⟩
        · refine wp_iff (by decide) (wp_lt ?_)
          rw [nI_1]
          exact ih (k + 1) n 1 (by omega) (by omega) (Or.inr ⟨rfl, k, by omega, g1, h⟩)
        · exact wp_ift rfl (wp_lt (by rw [nI_1]; exact skip (fun z => h z.2)))
      · refine wp_iff (by decide) (wp_lt ?_)
        rw [nI_1]
        exact ih (k + 1) n 1 (by omega) (by omega) (Or.inr ⟨rfl, hx⟩)
  unfold f_X3_isMarked
  exact key (nts σ0 s) 0 FU_ 0 (by omega) (by rw [FU_v]; omega) (Or.inl ⟨rfl, fun j hj => absurd hj (Nat.not_lt_zero j)⟩)
