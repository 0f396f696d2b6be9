theorem cnt99 {σ : bd_S} {s q : Nat} (h : dy σ q < 20) : cnt σ s q 99 ↔ cn0 σ s q := by
  unfold cnt cn0
  constructor
  · rintro (z | z)
    · exact Or.inl z
    · exact Or.inr z.2
  · rintro (z | z)
    · exact Or.inl z
    · exact Or.inr ⟨by omega, z⟩
theorem s_isSetBy {σ0 σ : bd_S} {s c d : Nat} (hI : Inv σ0) (hU : qR σ0 σ) (h30 : σ 55 30 = -6) (hs : s < 4) (hc : c < 3) (hd : d < 20) : wp (f_X3_isSetBy (nI s) (nI c) (nI d) σ) (fun r σ' => σ' = σ ∧ ((r = 1 ∧ isSet σ0 s c d) ∨ (r = 0 ∧ ¬ isSet σ0 s c d))) := by
  obtain ⟨⟨⟨hn1, hn2⟩, hn3, hN⟩, hF, -, -⟩ := hI.2.2.2.2 s hs
  have key : ∀ (m k n : Nat) (x : Int32), k + m = nts σ0 s → m < n → ((x = 0 ∧ ∀ j, j < k → ¬ stA σ0 s c d j) ∨ (x = 1 ∧ isSet σ0 s c d)) → wp (f_X3_isSetBy_6 n (nI k) x (nI s) (nI c) (nI d) σ) (fun r σ' => σ' = σ ∧ ((r = 1 ∧ isSet σ0 s c d) ∨ (r = 0 ∧ ¬ isSet σ0 s c d))) := by
    intro m
    induction m with
    | zero =>
      intro k n x hk hn hx
      obtain ⟨n, rfl⟩ : ∃ z, n = z + 1 := ⟨n - 1, by omega⟩
      unfold f_X3_isSetBy_6
      refine wp_rd s rfl hs (by decide) ?_
      rw [hU.at (r := 66) (by decide), hn2]
      refine wp_ift ((nle (by omega) (by omega)).mpr (by omega)) ?_
      rcases hx with ⟨rfl, hno⟩ | ⟨rfl, hx⟩
      · refine wp_zr (Or.inl rfl) ⟨rfl, Or.inr ⟨rfl, ?_⟩⟩
        rintro ⟨j, hj, q⟩
        exact hno j (by omega) q
      · exact wp_zr (Or.inr rfl) ⟨rfl, Or.inl ⟨rfl, hx⟩⟩
    | succ m ih =>
      intro k n x hk hn hx
      obtain ⟨n, rfl⟩ : ∃ z, n = z + 1 := ⟨n - 1, by omega⟩
      have hR := hN k (by omega)
      have hRn := hR.n
      obtain ⟨r1, ⟨r2, r2'⟩, r3, r4, r5, -⟩ := hR
      unfold f_X3_isSetBy_6
      refine wp_rd s rfl hs (by decide) ?_
      rw [hU.at (r := 66) (by decide), hn2]
      refine wp_iff (fun q => ?_) (wp_lt (wp_lt ?_))
      · have := (nle (by omega) (by omega)).mp q
        omega
      rw [ix12]
      rcases hx with ⟨rfl, hno⟩ | ⟨rfl, hx⟩
      · have skip : ¬ stA σ0 s c d k → wp (f_X3_isSetBy_6 n (nI (k + 1)) 0 (nI s) (nI c) (nI d) σ) (fun r σ' => σ' = σ ∧ ((r = 1 ∧ isSet σ0 s c d) ∨ (r = 0 ∧ ¬ isSet σ0 s c d))) := fun z => ih (k + 1) n 0 (by omega) (by omega) (Or.inl ⟨rfl, fun j hj => by
          by_cases e : j = k
          · subst e; exact z
          · exact hno j (by omega)⟩)
        refine wp_ift rfl (wp_rd (12 * s + k) rfl (by omega) (by decide) ?_)
        rw [hU.at (r := 67) (by decide)]
        refine wp_if (fun g1 => wp_rd (12 * s + k) rfl (by omega) (by decide) ?_) (fun g1 => wp_lt (by rw [nI_1]; exact skip (fun z => g1 z.1)))
        rw [hU.at (r := 69) (by decide)]
        refine wp_if (fun g2 => wp_lt ?_) (fun g2 => wp_rd (12 * s + k) rfl (by omega) (by decide) ?_)
        · rw [nI_1]
          refine skip (fun z => ?_)
          rcases r5 with q | q | q | q
          · rw [q] at g2; exact absurd g2 (by decide)
          · rw [q] at g2; exact absurd g2 (by decide)
          · rw [q] at g2; exact absurd g2 (by decide)
          · exact z.2.1 q
        have h3 : σ0 69 (12 * s + k) ≠ 3 := fun z => g2 (by rw [z]; decide)
        rw [hU.at (r := 68) (by decide), r2']
        refine wp_if (fun g3 => wp_c (s_doesCount (w := 99) hs (by omega) hRn hU (fun k hk => by rw [h30]; exact m6_nI hk)) (fun r σ' h => ?_)) (fun g3 => wp_lt (by rw [nI_1]; exact skip (fun z => g3 (by rw [z.2.2.1]))))
        obtain ⟨rfl, h⟩ := h
        rw [cnt99 r2] at h
        rcases h with ⟨rfl, h⟩ | ⟨rfl, h⟩
        · refine wp_iff (by decide) (wp_lt ?_)
          rw [nI_1]
          exact ih (k + 1) n 1 (by omega) (by omega) (Or.inr ⟨rfl, k, by omega, g1, h3, (neq (by omega) (by omega)).mp g3, h⟩)
        · exact wp_ift rfl (wp_lt (by rw [nI_1]; exact skip (fun z => h z.2.2.2)))
      · refine wp_iff (by decide) (wp_lt ?_)
        rw [nI_1]
        exact ih (k + 1) n 1 (by omega) (by omega) (Or.inr ⟨rfl, hx⟩)
  unfold f_X3_isSetBy
  exact key (nts σ0 s) 0 FU_ 0 (by omega) (by rw [FU_v]; omega) (Or.inl ⟨rfl, fun j hj => absurd hj (Nat.not_lt_zero j)⟩)
