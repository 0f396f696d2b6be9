theorem cs_R {σ0 : bd_S} (hI : Inv σ0) {d s : Nat} (hd : d < 20) (hs : s < 4) {n0 : Nat} {K : Int32 → Int32 → Int32 → bd_S → Option (Int32 × bd_S)} {P : Int32 → bd_S → Prop}
    (hk : ∀ σ', qU σ0 σ' → wp (K (nI s) (nI (csI σ0 d s n0 3)) (nI d) σ') P) : ∀ (m c n : Nat) (σ : bd_S), c + m = 3 → m < n → qU σ0 σ → wp (f_X3_suspects_15 K n (nI c) (nI s) (nI (csI σ0 d s n0 c)) (nI d) σ) P := by
  intro m
  induction m with
  | zero =>
    intro c n σ hc hn hU
    obtain ⟨n, rfl⟩ : ∃ z, n = z + 1 := ⟨n - 1, by omega⟩
    have : c = 3 := by omega
    subst this
    unfold f_X3_suspects_15
    exact wp_ift ((nle (by decide) (by decide)).mpr (Nat.le_refl 3)) (hk σ hU)
  | succ m ih =>
    intro c n σ hc hn hU
    obtain ⟨n, rfl⟩ : ∃ z, n = z + 1 := ⟨n - 1, by omega⟩
    have skip : ∀ σ', qU σ0 σ' → ¬ csA σ0 d s c → wp (f_X3_suspects_15 K n (nI (c + 1)) (nI s) (nI (csI σ0 d s n0 c)) (nI d) σ') P := fun σ' hU' z => by
      have e : csI σ0 d s n0 (c + 1) = csI σ0 d s n0 c := by show csT σ0 d s c _ = _; rw [csT_n z]
      rw [← e]
      exact ih (c + 1) n σ' (by omega) (by omega) hU'
    unfold f_X3_suspects_15
    refine wp_iff (fun q => ?_) (l_R hI hs (by omega) (fun g σ1 u => ?_) (fun g σ1 u L => ?_) hU)
    · have := (nle (a := 3) (by decide) (by omega)).mp q
      omega
    · refine wp_ift rfl (wp_lt ?_)
      have hV : qR σ0 (bd_st σ1 55 30 (nI d)) := fun r k q => by rw [st_ne (by omega)]; exact u.r r k q
      refine wp_c (s_lay (w := d) (sl := s63 σ0) (hI.qI hs (by omega)) hV (fun k hk => by rw [st_same]; exact neq (by omega) (by omega)) (fun k hk => by rw [st_ne (by decide), u 63 k (by unfold qS; omega)]; rfl) (fun k hk => by have := s63_bd hI k; omega)) (fun r σ2 q => ?_)
      obtain ⟨u2, q⟩ := q
      have u3 : qU σ0 (bd_st σ2 55 30 (-6)) := fun r k z => by
        rw [st_all]
        by_cases e : r = 55 ∧ k = 30
        · obtain ⟨rfl, rfl⟩ := e
          rw [if_pos ⟨rfl, rfl⟩]
          exact hI.1.2.2.2.2.2.2.1.symm
        · rw [if_neg e, u2 r k z, st_all, if_neg e]
          exact u r k z
      rcases q.a with ⟨rfl, q', -⟩ | ⟨rfl, q'⟩
      · refine wp_iff (by decide) (wp_lt (wp_lt (wp_lt ?_)))
        rw [nI_1, nI_1]
        have e : csI σ0 d s n0 (c + 1) = csI σ0 d s n0 c + 1 := by show csT σ0 d s c _ = _; rw [csT_y ⟨g, q'⟩]
        rw [← e]
        exact ih (c + 1) n _ (by omega) (by omega) u3
      · refine wp_ift rfl (wp_lt (wp_lt (wp_lt ?_)))
        rw [nI_1, show nI (csI σ0 d s n0 c) + 0 = nI (csI σ0 d s n0 c) from by rw [show (0 : Int32) = nI 0 from rfl, nI_add]; rfl]
        exact skip _ u3 (fun z => z.2 q')
    · exact wp_iff (by decide) (wp_lt (by rw [nI_1]; exact skip σ1 u (fun z => g z.1)))
