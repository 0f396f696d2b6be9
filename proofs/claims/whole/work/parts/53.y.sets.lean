/-! SET ON A DAY, TOLD -/
def stA (σ : bd_S) (s c d k : Nat) : Prop := σ 67 (12 * s + k) = nI c ∧ σ 69 (12 * s + k) ≠ 3 ∧ dy σ (12 * s + k) = d ∧ cn0 σ s (12 * s + k)
def isSet (σ : bd_S) (s c d : Nat) : Prop := ∃ k, k < nts σ s ∧ stA σ s c d k
def tlA (σ : bd_S) (s c k : Nat) : Prop := σ 67 (12 * s + k) = nI c ∧ cn0 σ s (12 * s + k)
def isTld (σ : bd_S) (s c : Nat) : Prop := ∃ k, k < nts σ s ∧ tlA σ s c k
theorem s_isSetOn {σ0 σ : bd_S} {s c d : Nat} (hI : Inv σ0) (hU : qV σ0 σ) (hs : s < 4) (hc : c < 3) (hd : d < 20) : wp (f_X2_isSetOn (19 + 9 * s) (nI c) (nI d) σ) (fun r σ' => σ' = σ ∧ ((r = 1 ∧ isSet σ0 s c d) ∨ (r = 0 ∧ ¬ isSet σ0 s c d))) := by
  obtain ⟨⟨⟨hn1, hn2⟩, hn3, hN⟩, hF, -, -⟩ := hI.2.2.2.2 s hs
  have key : ∀ (m k n : Nat), k + m = nts σ0 s → m < n → (∀ j, j < k → ¬ stA σ0 s c d j) → wp (f_X2_isSetOn_3 n (nI k) (19 + 9 * s) (nI c) (nI d) σ) (fun r σ' => σ' = σ ∧ ((r = 1 ∧ isSet σ0 s c d) ∨ (r = 0 ∧ ¬ isSet σ0 s c d))) := by
    intro m
    induction m with
    | zero =>
      intro k n hk hn hno
      obtain ⟨n, rfl⟩ : ∃ z, n = z + 1 := ⟨n - 1, by omega⟩
      unfold f_X2_isSetOn_3
      refine wp_lt ?_
      rw [hU.at (r := 19 + 9 * s) (by omega), hn3, hn2]
      refine wp_ift ((nle (by omega) (by omega)).mpr (by omega)) (wp_zr (Or.inl rfl) ⟨rfl, Or.inr ⟨rfl, ?_⟩⟩)
      rintro ⟨j, hj, q⟩
      exact hno j (by omega) q
    | succ m ih =>
      intro k n hk hn hno
      obtain ⟨n, rfl⟩ : ∃ z, n = z + 1 := ⟨n - 1, by omega⟩
      have hR := hN k (by omega)
      obtain ⟨r1, ⟨r2, r2'⟩, r3, r4, -⟩ := hR
      have skip : ¬ stA σ0 s c d k → wp (f_X2_isSetOn_3 n (nI (k + 1)) (19 + 9 * s) (nI c) (nI d) σ) (fun r σ' => σ' = σ ∧ ((r = 1 ∧ isSet σ0 s c d) ∨ (r = 0 ∧ ¬ isSet σ0 s c d))) := fun z => ih (k + 1) n (by omega) (by omega) (fun j hj => by
        by_cases e : j = k
        · subst e; exact z
        · exact hno j (by omega))
      unfold f_X2_isSetOn_3
      refine wp_lt ?_
      rw [hU.at (r := 19 + 9 * s) (by omega), hn3, hn2]
      refine wp_iff (fun q => ?_) (wp_rd k rfl (by omega) (by decide) ?_)
      · have := (nle (by omega) (by omega)).mp q
        omega
      rw [hU.at (r := 19 + 9 * s + 1) (by omega), r1]
      refine wp_if (fun g1 => wp_rd k rfl (by omega) (by decide) ?_) (fun g1 => wp_lt (by rw [nI_1]; exact skip (fun z => g1 z.1)))
      rw [hU.at (r := 19 + 9 * s + 3) (by omega)]
      refine wp_if (fun g2 => wp_lt (by rw [nI_1]; exact skip (fun z => z.2.1 (r4.mp g2)))) (fun g2 => wp_rd k rfl (by omega) (by decide) ?_)
      rw [hU.at (r := 19 + 9 * s + 2) (by omega), r3, r2']
      refine wp_if (fun g3 => wp_c (s_counts hs (by omega) (hN k (by omega)) hI.2.1 hF hU) (fun r σ' h => ?_)) (fun g3 => wp_lt (by rw [nI_1]; exact skip (fun z => g3 (by rw [z.2.2.1]))))
      obtain ⟨rfl, h⟩ := h
      rcases h with ⟨rfl, h⟩ | ⟨rfl, h⟩
      · exact wp_iff (by decide) (wp_zr (Or.inr rfl) ⟨rfl, Or.inl ⟨rfl, k, by omega, g1, fun z => g2 (r4.mpr z), (neq (by omega) (by omega)).mp g3, h⟩⟩)
      · exact wp_ift rfl (wp_lt (by rw [nI_1]; exact skip (fun z => h z.2.2.2)))
  unfold f_X2_isSetOn
  exact key (nts σ0 s) 0 FU_ (by omega) (by rw [FU_v]; omega) (fun j hj => absurd hj (Nat.not_lt_zero j))
