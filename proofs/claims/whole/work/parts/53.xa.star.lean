theorem p_star {σ : bd_S} (hI : Inv σ) (x y : Int32) : Pr (f_X2_star x y) (f_X3_star x y) σ := by
  have m6 : (-600 : Int32).toInt = -600 := rfl
  have p6 : (600 : Int32).toInt = 600 := rfl
  obtain ⟨i1, ⟨n, hn, h0⟩, i3, ⟨v, hv9, hv⟩, i5⟩ := hI.1
  unfold Pr f_X2_star f_X3_star
  by_cases h : okD x
  · refine wp_e (noDay_t h) (wp_ift rfl ?_)
    by_cases g : (-600 : Int32).toInt ≤ y.toInt ∧ y.toInt ≤ (600 : Int32).toInt
    · refine wp_e (bey_t rfl g) (wp_ift rfl (wp_lt ?_))
      rw [i1, h0]
      refine wp_if (fun hlt => ?_) (fun hlt => ?_)
      · have hn20 : n < 20 := (nlt (b := 20) (by omega) (by decide)).mp hlt
        obtain ⟨d, hd, rfl⟩ := h.n
        have g' := g
        rw [m6, p6] at g'
        have hvi : (nI v).toInt = (v : Int) := ti_nI (by omega)
        have hD := hI.2.2.2.1
        have hcl := hD.2.2.2.1
        have hst := hD.2.2.2.2
        rw [h0, nv_nI (by omega)] at hcl hst
        refine s_try hI (v := nI v) hn h0 hd g' (i3.trans hv) (by rw [hvi]; omega) (fun r σ3 F3 C => ?_)
        -- the reference, from any state whose own rows are as before
        have R : ∀ (σa : bd_S) (P : Int32 → bd_S → Prop), (∀ r k, 55 ≤ r → ¬ qS r k → σa r k = σ r k) → (∀ σ7, (∀ r k, ¬ qS r k → ¬ (56 ≤ r ∧ r ≤ 60) → ¬ (r = 55 ∧ k = 0) → σ7 r k = σa r k) → (∀ k, k < n → σ7 56 k = σ 56 k ∧ σ7 57 k = σ 57 k ∧ σ7 58 k = σ 58 k) →
              ((σ7 55 0 = nI (n + 1) ∧ σ7 56 n = nI d ∧ σ7 57 n = y ∧ σ7 58 n = nI v ∧ sp_cl (fun _ => 0) (AdX σ n d y.toInt (nI v).toInt) (oO σ7) (oP σ7) → P (nI (n + 1)) σ7) ∧ (sp_no (fun _ => 0) (AdX σ n d y.toInt (nI v).toInt) ∧ σ7 55 0 = nI n ∧ sp_cl (fun _ => 0) (AdO σ n) (oO σ7) (oP σ7) → P (-5) σ7))) →
            wp (f_X3_star (nI d) y σa) P := by
          intro σa P hR K
          have a55 : ∀ k, k ≠ 29 → k ≠ 34 → k ≠ 35 → σa 55 k = σ 55 k := fun k q1 q2 q3 => hR 55 k (by decide) (by unfold qS; omega)
          unfold f_X3_star
          refine wp_e (isDay_t h) (wp_iff (by decide) (wp_e (in_t g) (wp_iff (by decide) (wp_lt ?_))))
          rw [a55 0 (by decide) (by decide) (by decide), h0]
          refine wp_iff (fun q => ?_) (wp_lt ?_)
          · have := (neq (b := 20) (by omega) (by decide)).mp q
            omega
          refine wp_wr n rfl (by omega) (by decide) (wp_lt ?_)
          rw [st_ne (show (55 : Nat) ≠ 56 by decide), a55 0 (by decide) (by decide) (by decide), h0]
          refine wp_wr n rfl (by omega) (by decide) (wp_lt (wp_lt ?_))
          rw [st_2 (q := 55) (by omega) (by omega), st_2 (q := 55) (by omega) (by omega), a55 0 (by decide) (by decide) (by decide), a55 4 (by decide) (by decide) (by decide), h0, hv]
          refine wp_wr n rfl (by omega) (by decide) (wp_lt (wp_lt (wp_lt ?_)))
          rw [st_ne (show (55 : Nat) ≠ 58 by decide), st_2 (q := 55) (by omega) (by omega), a55 0 (by decide) (by decide) (by decide), h0, nI_1]
          generalize hσ6 : bd_st (bd_st (bd_st (bd_st σa 56 n (nI d)) 57 n y) 58 n (nI v)) 55 0 (nI (n + 1)) = σ6
          have b0 : σ6 55 0 = nI (n + 1) := by rw [← hσ6, st_same]
          have b1 : σ6 56 n = nI d := by rw [← hσ6, st_ne (by decide), st_ne (by decide), st_ne (by decide), st_same]
          have b2 : σ6 57 n = y := by rw [← hσ6, st_ne (by decide), st_ne (by decide), st_same]
          have b3 : σ6 58 n = nI v := by rw [← hσ6, st_ne (by decide), st_same]
          have b4 : ∀ r k, ¬ ((r = 56 ∨ r = 57 ∨ r = 58) ∧ k = n) → ¬ (r = 55 ∧ k = 0) → σ6 r k = σa r k := fun r k q1 q2 => by rw [← hσ6, st_4 (by omega) (by omega) (by omega) (by omega)]
          have b5 : ∀ k, k < n → σ6 56 k = σ 56 k ∧ σ6 57 k = σ 57 k ∧ σ6 58 k = σ 58 k := fun k hk => by
            rw [b4 56 k (by omega) (by omega), b4 57 k (by omega) (by omega), b4 58 k (by omega) (by omega), hR 56 k (by decide) (by unfold qS; omega), hR 57 k (by decide) (by unfold qS; omega), hR 58 k (by decide) (by unfold qS; omega)]
            exact ⟨rfl, rfl, rfl⟩
          have T6 : qT σ6 (n + 1) := ⟨by omega, fun k hk => by
            by_cases ek : k = n
            · subst ek; rw [b1, b2, b3, hvi]; exact ⟨⟨d, hd, rfl⟩, g'.1, g'.2, by omega, by omega⟩
            · rw [(b5 k (by omega)).1, (b5 k (by omega)).2.1, (b5 k (by omega)).2.2]; exact hst k (by omega)⟩
          have b81 : σ6 81 0 = 0 := by rw [b4 81 0 (by omega) (by omega), hR 81 0 (by decide) (by unfold qS; omega)]; exact hI.1.2.2.2.2.2.2.2
          have X := AdX.r (σ := σ) (σ' := σ6) (x := y.toInt) (v := (nI v).toInt) hd b5 b1 (by rw [b2]) (by rw [b3])
          refine wp_c (s_layOffs T6 b0 b81) (fun r σ7 L => ?_)
          obtain ⟨L1, L2⟩ := L
          have F7 : ∀ r k, ¬ qS r k → ¬ (56 ≤ r ∧ r ≤ 60) → ¬ (r = 55 ∧ k = 0) → σ7 r k = σa r k := fun r k q1 q2 q3 => by rw [L1 r k q1 (by omega) (by omega), b4 r k (by omega) q3]
          have c0 : σ7 55 0 = nI (n + 1) := by rw [L1 55 0 (by unfold qS; omega) (by decide) (by decide)]; exact b0
          have c1 : ∀ r k, 56 ≤ r → r ≤ 58 → σ7 r k = σ6 r k := fun r k q1 q2 => L1 r k (by unfold qS; omega) (by omega) (by omega)
          have c5 : ∀ k, k < n → σ7 56 k = σ 56 k ∧ σ7 57 k = σ 57 k ∧ σ7 58 k = σ 58 k := fun k hk => by
            rw [c1 56 k (by decide) (by decide), c1 57 k (by decide) (by decide), c1 58 k (by decide) (by decide)]; exact b5 k hk
          rcases L2 with ⟨rfl, L2⟩ | ⟨rfl, L2, L3, L4⟩
          · refine wp_iff (by decide) (wp_lt ?_)
            rw [c0]
            exact wp_some ((K σ7 F7 c5).1 ⟨c0, by rw [c1 56 n (by decide) (by decide)]; exact b1, by rw [c1 57 n (by decide) (by decide)]; exact b2, by rw [c1 58 n (by decide) (by decide)]; exact b3, sp_cl_congr (fun lo hi _ _ => (X lo hi).symm) L2⟩)
          · refine wp_ift rfl (wp_lt (wp_lt (wp_lt ?_)))
            rw [c0, nI_pred]
            have T8 : qT (bd_st σ7 55 0 (nI n)) n := ⟨by omega, fun k hk => by
              rw [st_ne (by decide), st_ne (by decide), st_ne (by decide), (c5 k hk).1, (c5 k hk).2.1, (c5 k hk).2.2]; exact hst k hk⟩
            refine wp_c (s_layOffs T8 st_same (by rw [st_ne (by decide), L1 81 0 (by unfold qS; omega) (by decide) (by decide)]; exact b81)) (fun r σ9 M => wp_some ?_)
            obtain ⟨M1, M2⟩ := M
            have d5 : ∀ k, k < n → (bd_st σ7 55 0 (nI n)) 56 k = σ 56 k ∧ (bd_st σ7 55 0 (nI n)) 57 k = σ 57 k ∧ (bd_st σ7 55 0 (nI n)) 58 k = σ 58 k := fun k hk => by
              rw [st_ne (by decide), st_ne (by decide), st_ne (by decide)]; exact c5 k hk
            have F9 : ∀ r k, ¬ qS r k → ¬ (56 ≤ r ∧ r ≤ 60) → ¬ (r = 55 ∧ k = 0) → σ9 r k = σa r k := fun r k q1 q2 q3 => by
              rw [M1 r k q1 (by omega) (by omega), st_all, if_neg (by omega)]; exact F7 r k q1 q2 q3
            have N := sp_no_congr (fun lo hi _ _ => (X lo hi).symm) L2
            have e5 : ∀ k, k < n → σ9 56 k = σ 56 k ∧ σ9 57 k = σ 57 k ∧ σ9 58 k = σ 58 k := fun k hk => by
              rw [M1 56 k (by unfold qS; omega) (by decide) (by decide), M1 57 k (by unfold qS; omega) (by decide) (by decide), M1 58 k (by unfold qS; omega) (by decide) (by decide)]; exact d5 k hk
            refine (K σ9 F9 e5).2 ⟨N, by rw [M1 55 0 (by unfold qS; omega) (by decide) (by decide), st_same], ?_⟩
            rcases M2 with ⟨-, M2⟩ | ⟨-, M2, -⟩
            · exact sp_cl_congr (fun lo hi _ _ => (AdO.e d5 lo hi).symm) M2
            · exact absurd (sp_no_congr (fun lo hi _ _ => (AdO.e d5 lo hi).symm) M2) (fun z => sp_cl_no hcl z)
        rcases C with ⟨rfl, C⟩ | ⟨rfl, C⟩
        · refine wp_iff (by decide) (wp_c (s_copy (by omega)) (fun _ σ4 hc => ?_))
          obtain ⟨u1, u2, u3, u4, -⟩ := hc
          have e12 : σ4 0 12 = nI n := by rw [u1 0 (by decide) (by decide) (by decide), F3 0 (by decide) (by decide) (by decide), i1, h0]
          refine wp_lt (wp_lt (wp_lt (wp_lt (wp_some ?_))))
          rw [st_same, e12, nI_1]
          refine R _ _ (fun r k q1 q2 => ?_) (fun σ7 F7 c5 => ⟨fun z => ⟨rfl, ?_⟩, fun z => absurd z.1 (fun w => sp_cl_no C w)⟩)
          · rw [st_ne (by omega), u1 r (by omega) (by omega) (by omega), F3 r (by omega) (by omega) (by omega)]
          · obtain ⟨z1, z2, z3, z4, z5⟩ := z
            have U := sp_cl_uniq z5 C
            have E : ∀ r k, ¬ qS r k → ¬ (56 ≤ r ∧ r ≤ 60) → ¬ (r = 55 ∧ k = 0) → ¬ (r = 0 ∧ k = 12) → ¬ (1 ≤ r ∧ r ≤ 3) → σ7 r k = σ r k := fun r k q1 q2 q3 q4 q5 => by
              unfold qS at q1
              rw [F7 r k (by unfold qS; omega) q2 q3, st_all, if_neg q4, u1 r (by omega) (by omega) (by omega), F3 r (by omega) (by omega) (by omega)]
            have f12 : σ7 0 12 = nI (n + 1) := by rw [F7 0 12 (by unfold qS; omega) (by omega) (by omega), st_same]
            obtain ⟨h1, h2, h3, h4, h5⟩ := hI
            refine ⟨?_, h2.cg (fun r k q => E r k (by unfold qS; omega) (by omega) (by omega) (by omega) (by omega)), h3.cg (fun r k q => E r k (by unfold qS; omega) (by omega) (by omega) (by omega) (by omega)), ⟨fun k hk => ?_, ?_, ?_, ?_, fun k hk => ?_⟩, fun s hs => ?_⟩
            · unfold IA
              rw [f12, z1, E 0 13 (by unfold qS; omega) (by omega) (by omega) (by omega) (by omega), E 0 15 (by unfold qS; omega) (by omega) (by omega) (by omega) (by omega), E 55 4 (by unfold qS; omega) (by omega) (by omega) (by omega) (by omega), E 55 12 (by unfold qS; omega) (by omega) (by omega) (by omega) (by omega), E 55 30 (by unfold qS; omega) (by omega) (by omega) (by omega) (by omega), E 81 0 (by unfold qS; omega) (by omega) (by omega) (by omega) (by omega)]
              exact ⟨rfl, ⟨n + 1, by omega, rfl⟩, h1.2.2⟩
            · have q := U k (by omega)
              rw [spl_d hk, sph_d hk] at q
              rw [F7 2 k (by unfold qS; omega) (by omega) (by omega), F7 3 k (by unfold qS; omega) (by omega) (by omega), st_ne (by decide), st_ne (by decide)]
              exact ⟨(u2 k hk).1.trans (ti_eq.mpr q.1.symm), (u2 k hk).2.trans (ti_eq.mpr q.2.symm)⟩
            · have q := U 20 (by omega)
              rw [spl_r, sph_r] at q
              rw [F7 1 2 (by unfold qS; omega) (by omega) (by omega), st_ne (by decide)]
              exact u3.trans (ti_eq.mpr q.1.symm)
            · have q := U 20 (by omega)
              rw [spl_r, sph_r] at q
              rw [F7 1 3 (by unfold qS; omega) (by omega) (by omega), st_ne (by decide)]
              exact u4.trans (ti_eq.mpr q.2.symm)
            · rw [z1, nv_nI (by omega)]
              exact sp_cl_congr (fun lo hi _ _ => AdX.r (σ := σ) (σ' := σ7) hd c5 z2 (by rw [z3]) (by rw [z4]) lo hi) z5
            · rw [z1, nv_nI (by omega)] at hk
              by_cases ek : k = n
              · subst ek; rw [z2, z3, z4, hvi]; exact ⟨⟨d, hd, rfl⟩, g'.1, g'.2, by omega, by omega⟩
              · rw [(c5 k (by omega)).1, (c5 k (by omega)).2.1, (c5 k (by omega)).2.2]; exact hst k (by omega)
            · obtain ⟨e1, e2, e3, e4⟩ := h5 s hs
              exact ⟨e1.cg (fun r k q => E r k (by unfold qS; omega) (by omega) (by omega) (by omega) (by omega)), e2.cg (fun r k q => E r k (by unfold qS; omega) (by omega) (by omega) (by omega) (by omega)), e3.cg (fun r k q => E r k (by unfold qS; omega) (by omega) (by omega) (by omega) (by omega)), e4.cg (fun r k q => E r k (by unfold qS; omega) (by omega) (by omega) (by omega) (by omega))⟩
        · refine wp_ift rfl (wp_some (R _ _ (fun r k q1 q2 => by rw [F3 r (by omega) (by omega) (by omega)]) (fun σ7 F7 c5 => ⟨fun z => absurd C (fun w => sp_cl_no z.2.2.2.2 w), fun z => ⟨rfl, ?_⟩⟩)))
          obtain ⟨-, z1, z5⟩ := z
          have U := sp_cl_uniq z5 hcl
          have E : ∀ r k, ¬ qS r k → ¬ (56 ≤ r ∧ r ≤ 60) → ¬ (r = 55 ∧ k = 0) → σ7 r k = σ r k := fun r k q1 q2 q3 => by
            unfold qS at q1
            rw [F7 r k (by unfold qS; omega) q2 q3, F3 r (by omega) (by omega) (by omega)]
          have E0 : σ7 55 0 = σ 55 0 := z1.trans h0.symm
          have e59 : ∀ k, k ≤ 20 → σ7 59 k = σ 59 k ∧ σ7 60 k = σ 60 k := fun k hk => ⟨ti_eq.mpr (U k hk).1, ti_eq.mpr (U k hk).2⟩
          obtain ⟨h1, h2, h3, h4, h5⟩ := hI
          refine ⟨h1.cg (fun r k q => ?_), h2.cg (fun r k q => E r k (by unfold qS; omega) (by omega) (by omega)), h3.cg (fun r k q => E r k (by unfold qS; omega) (by omega) (by omega)), ⟨fun k hk => ?_, ?_, ?_, ?_, fun k hk => ?_⟩, fun s hs => ?_⟩
          · by_cases q' : r = 55 ∧ k = 0
            · obtain ⟨rfl, rfl⟩ := q'; exact E0
            · exact E r k (by unfold qS; omega) (by omega) q'
          · rw [E 2 k (by unfold qS; omega) (by omega) (by omega), E 3 k (by unfold qS; omega) (by omega) (by omega), (e59 k (by omega)).1, (e59 k (by omega)).2]; exact h4.1 k hk
          · rw [E 1 2 (by unfold qS; omega) (by omega) (by omega), (e59 20 (by omega)).1]; exact h4.2.1
          · rw [E 1 3 (by unfold qS; omega) (by omega) (by omega), (e59 20 (by omega)).2]; exact h4.2.2.1
          · rw [z1, nv_nI (by omega)]
            exact sp_cl_congr (fun lo hi _ _ => AdO.e c5 lo hi) z5
          · rw [z1, nv_nI (by omega)] at hk
            rw [(c5 k hk).1, (c5 k hk).2.1, (c5 k hk).2.2]; exact hst k hk
          · obtain ⟨e1, e2, e3, e4⟩ := h5 s hs
            exact ⟨e1.cg (fun r k q => E r k (by unfold qS; omega) (by omega) (by omega)), e2.cg (fun r k q => E r k (by unfold qS; omega) (by omega) (by omega)), e3.cg (fun r k q => E r k (by unfold qS; omega) (by omega) (by omega)), e4.cg (fun r k q => E r k (by unfold qS; omega) (by omega) (by omega))⟩
      · have hn20 : n = 20 := by
          have : ¬ n < 20 := fun z => hlt ((nlt (b := 20) (by omega) (by decide)).mpr z)
          omega
        subst hn20
        refine wp_some (wp_e (isDay_t h) (wp_iff (by decide) (wp_e (in_t g) (wp_iff (by decide) (wp_lt (wp_ift h0 (wp_some ⟨rfl, hI⟩)))))))
    · exact wp_e (bey_f rfl g) (wp_iff (by decide) (wp_some (wp_e (isDay_t h) (wp_iff (by decide) (wp_e (in_f g) (wp_ift rfl (wp_some ⟨rfl, hI⟩)))))))
  · exact wp_e (noDay_f h) (wp_iff (by decide) (wp_some (wp_e (isDay_f h) (wp_ift rfl (wp_some ⟨rfl, hI⟩)))))
