/-- the part of one ship -/
def sD (s r k : Nat) : Prop := (19 + 9 * s ≤ r ∧ r ≤ 27 + 9 * s) ∨ (r = 66 ∧ k = s) ∨ (67 ≤ r ∧ r ≤ 71 ∧ 12 * s ≤ k ∧ k < 12 * s + 12) ∨ (r = 72 ∧ 20 * s ≤ k ∧ k < 20 * s + 20) ∨ ((r = 73 ∨ r = 74 ∨ r = 76) ∧ 3 * s ≤ k ∧ k < 3 * s + 3) ∨ (r = 75 ∧ k = s)
theorem Inv.s {σ σ' : bd_S} (hI : Inv σ) {s : Nat} (hs : s < 4) (e : ∀ r k, ¬ sD s r k → σ' r k = σ r k) (hE : IE σ' s) (hF : IF σ' s) (hG : IG σ' s) (hH : IH σ' s) : Inv σ' := by
  obtain ⟨h1, h2, h3, h4, h5⟩ := hI
  refine ⟨h1.cg (fun r k q => e r k (by unfold sD; omega)), h2.cg (fun r k q => e r k (by unfold sD; omega)), h3.cg (fun r k q => e r k (by unfold sD; omega)), h4.cg (fun r k q => e r k (by unfold sD; omega)), fun s' hs' => ?_⟩
  by_cases es : s' = s
  · subst es; exact ⟨hE, hF, hG, hH⟩
  · obtain ⟨e1, e2, e3, e4⟩ := h5 s' hs'
    exact ⟨e1.cg (fun r k q => e r k (by unfold sD; omega)), e2.cg (fun r k q => e r k (by unfold sD; omega)), e3.cg (fun r k q => e r k (by unfold sD; omega)), e4.cg (fun r k q => e r k (by unfold sD; omega))⟩
theorem ix3' {s : Nat} : 3 * nI s = nI (3 * s) := by rw [show (3 : Int32) = nI 3 from rfl, pk_mul]
theorem ix2 {q : Nat} : nI q + 2 = nI (q + 2) := by rw [show (2 : Int32) = nI 2 from rfl, nI_add]
theorem p_reads {σ : bd_S} (hI : Inv σ) (x y a b c : Int32) : Pr (f_X2_reads x y a b c) (f_X3_reads x y a b c) σ := by
  obtain ⟨nk, hn⟩ := hI.hS
  have m9 : (-99999 : Int32).toInt = -99999 := rfl
  have p9 : (99999 : Int32).toInt = 99999 := rfl
  unfold Pr f_X2_reads f_X3_reads
  by_cases h : okS nk x
  · refine wp_e (noShip_t hn h) (wp_ift rfl ?_)
    by_cases g : okD y
    · refine wp_e (noDay_t g) (wp_ift rfl ?_)
      by_cases ha : (-99999 : Int32).toInt ≤ a.toInt ∧ a.toInt ≤ (99999 : Int32).toInt
      · refine wp_e (bey_t rfl ha) (wp_ift rfl ?_)
        by_cases hb : (-99999 : Int32).toInt ≤ b.toInt ∧ b.toInt ≤ (99999 : Int32).toInt
        · refine wp_e (bey_t rfl hb) (wp_ift rfl ?_)
          by_cases hc : (-99999 : Int32).toInt ≤ c.toInt ∧ c.toInt ≤ (99999 : Int32).toInt
          · refine wp_e (bey_t rfl hc) (wp_ift rfl ?_)
            obtain ⟨s, hs, rfl⟩ := h.n hn.1
            obtain ⟨d, hd, rfl⟩ := g.n
            have hs4 : s < 4 := by have := hn.1; omega
            refine wp_rs s rfl hs4 (wp_lt (wp_wr 0 rfl (by decide) (by decide) (wp_wr 1 rfl (by decide) (by decide) (wp_wr 2 rfl (by decide) (by decide) (wp_some ?_)))))
            have hn' : hS (bd_st (bd_st (bd_st (bd_st σ (19 + 9 * s) 10 (nI d)) (19 + 9 * s + 8) 0 a) (19 + 9 * s + 8) 1 b) (19 + 9 * s + 8) 2 c) nk := by
              refine ⟨hn.1, ?_, ?_⟩
              · rw [st_4 (by omega) (by omega) (by omega) (by omega)]; exact hn.2.1
              · rw [st_4 (by omega) (by omega) (by omega) (by omega)]; exact hn.2.2
            refine wp_e (isShip_t hn' h) (wp_iff (by decide) (wp_e (isDay_t g) (wp_iff (by decide) (wp_e (in_t ha) (wp_iff (by decide) (wp_e (in_t hb) (wp_iff (by decide) (wp_e (in_t hc) (wp_iff (by decide) ?_)))))))))
            refine wp_wr s rfl hs4 (by decide) (wp_lt (wp_wr (3 * s) ix3' (by omega) (by decide) (wp_lt (wp_lt ?_))))
            rw [ix3', nI_1]
            refine wp_wr (3 * s + 1) rfl (by omega) (by decide) (wp_lt (wp_lt ?_))
            rw [ix2]
            refine wp_wr (3 * s + 2) rfl (by omega) (by decide) (wp_some ⟨rfl, ?_⟩)
            obtain ⟨e1, e2, e3, e4⟩ := hI.2.2.2.2 s hs4
            refine hI.s hs4 (fun r k q => ?_) (e1.cg (fun r k q => ?_)) (e2.cg (fun r k q => ?_)) (e3.cg (fun r k q => ?_)) ⟨⟨?_, ⟨d, hd, ?_⟩, fun c' hc' => ?_⟩, fun z => ?_⟩
            · unfold sD at q
              rw [st_4 (by omega) (by omega) (by omega) (by omega), st_4 (by omega) (by omega) (by omega) (by omega)]
            · rw [st_4 (by omega) (by omega) (by omega) (by omega), st_4 (by omega) (by omega) (by omega) (by omega)]
            · rw [st_4 (by omega) (by omega) (by omega) (by omega), st_4 (by omega) (by omega) (by omega) (by omega)]
            · rw [st_4 (by omega) (by omega) (by omega) (by omega), st_4 (by omega) (by omega) (by omega) (by omega)]
            · repeat rw [st_all]
              repeat (first | rw [if_neg (by omega)] | rw [if_pos (by omega)])
            · repeat rw [st_all]
              repeat (first | rw [if_neg (by omega)] | rw [if_pos (by omega)])
            · rw [m9, p9] at ha hb hc
              rcases (show c' = 0 ∨ c' = 1 ∨ c' = 2 by omega) with rfl | rfl | rfl
              · repeat rw [st_all]
                repeat (first | rw [if_neg (by omega)] | rw [if_pos (by omega)])
                exact ⟨rfl, ha⟩
              · repeat rw [st_all]
                repeat (first | rw [if_neg (by omega)] | rw [if_pos (by omega)])
                exact ⟨rfl, hb⟩
              · repeat rw [st_all]
                repeat (first | rw [if_neg (by omega)] | rw [if_pos (by omega)])
                exact ⟨rfl, hc⟩
            · rw [st_4 (by omega) (by omega) (by omega) (by omega), st_4 (by omega) (by omega) (by omega) (by omega)] at z ⊢
              exact e4.2 z
          · exact wp_e (bey_f rfl hc) (wp_iff (by decide) (wp_some (wp_e (isShip_t hn h) (wp_iff (by decide) (wp_e (isDay_t g) (wp_iff (by decide) (wp_e (in_t ha) (wp_iff (by decide) (wp_e (in_t hb) (wp_iff (by decide) (wp_e (in_f hc) (wp_ift rfl (wp_some ⟨rfl, hI⟩)))))))))))))
        · exact wp_e (bey_f rfl hb) (wp_iff (by decide) (wp_some (wp_e (isShip_t hn h) (wp_iff (by decide) (wp_e (isDay_t g) (wp_iff (by decide) (wp_e (in_t ha) (wp_iff (by decide) (wp_e (in_f hb) (wp_ift rfl (wp_some ⟨rfl, hI⟩)))))))))))
      · exact wp_e (bey_f rfl ha) (wp_iff (by decide) (wp_some (wp_e (isShip_t hn h) (wp_iff (by decide) (wp_e (isDay_t g) (wp_iff (by decide) (wp_e (in_f ha) (wp_ift rfl (wp_some ⟨rfl, hI⟩)))))))))
    · exact wp_e (noDay_f g) (wp_iff (by decide) (wp_some (wp_e (isShip_t hn h) (wp_iff (by decide) (wp_e (isDay_f g) (wp_ift rfl (wp_some ⟨rfl, hI⟩)))))))
  · exact wp_e (noShip_f hn h) (wp_iff (by decide) (wp_some (wp_e (isShip_f hn h) (wp_ift rfl (wp_some ⟨rfl, hI⟩)))))
theorem p_strike {σ : bd_S} (hI : Inv σ) (x : Int32) : Pr (f_X2_strike x) (f_X3_strike x) σ := by
  obtain ⟨nk, hn⟩ := hI.hS
  unfold Pr f_X2_strike f_X3_strike
  by_cases h : okS nk x
  · refine wp_e (noShip_t hn h) (wp_ift rfl ?_)
    obtain ⟨s, hs, rfl⟩ := h.n hn.1
    have hs4 : s < 4 := by have := hn.1; omega
    obtain ⟨e1, e2, e3, e4⟩ := hI.2.2.2.2 s hs4
    obtain ⟨⟨n1, n2⟩, n3, n4⟩ := e1
    have e0 : (0 : Int32) = nI 0 := rfl
    refine wp_rs s rfl hs4 (wp_lt (wp_if (fun g => ?_) (fun g => ?_)))
    · have g' : 0 < nts σ s := by
        rw [n3, n2, e0] at g
        exact (nlt (by omega) (by omega)).mp g
      obtain ⟨m, hm⟩ : ∃ m, nts σ s = m + 1 := ⟨nts σ s - 1, by omega⟩
      refine wp_lt (wp_lt (wp_lt (wp_lt (wp_some ?_))))
      rw [st_same, n3, n2, hm, nI_pred]
      have f66 : ∀ k, bd_st σ (19 + 9 * s) 8 (nI m) 66 k = σ 66 k := fun k => by rw [st_ne (by omega)]
      refine wp_e (isShip_t ⟨hn.1, by rw [st_ne (by omega)]; exact hn.2.1, by rw [st_ne (by omega)]; exact hn.2.2⟩ h) (wp_iff (by decide) (wp_rd s rfl hs4 (by decide) ?_))
      rw [f66, n2, hm]
      refine wp_iff (fun q => ?_) (wp_rd s rfl hs4 (by decide) (wp_lt ?_))
      · have := (neq (b := 0) (by omega) (by decide)).mp q
        omega
      rw [f66, n2, hm, nI_pred]
      refine wp_wr s rfl hs4 (by decide) (wp_rd s rfl hs4 (by decide) (wp_some ⟨st_same, ?_⟩))
      have en : nts (bd_st (bd_st σ (19 + 9 * s) 8 (nI m)) 66 s (nI m)) s = m := by
        unfold nts
        rw [st_same]
        exact nv_nI (by omega)
      refine hI.s hs4 (fun r k q => ?_) ⟨⟨by rw [en]; omega, by rw [en, st_same]⟩, ?_, fun k hk => ?_⟩ (e2.cg (fun r k q => st_2 (by omega) (by omega))) (e3.cg (fun r k q => st_2 (by omega) (by omega))) ⟨e4.1.cg (fun r k q => st_2 (by omega) (by omega)), fun z => absurd z (by rw [st_2 (by omega) (by omega), hn.2.2, ti_nI (by have := hn.1; omega)]; omega)⟩
      · unfold sD at q
        exact st_2 (by omega) (by omega)
      · rw [st_ne (by omega), st_same, st_same]
      · rw [en] at hk
        have z := n4 k (by omega)
        have e : ∀ r q, r ≠ 66 → r ≠ 19 + 9 * s → bd_st (bd_st σ (19 + 9 * s) 8 (nI m)) 66 s (nI m) r q = σ r q := fun r q z1 z2 => st_2 (by omega) (by omega)
        unfold NR dy ltN snN at z ⊢
        simp only [e 67 (12 * s + k) (by omega) (by omega), e 68 (12 * s + k) (by omega) (by omega), e 69 (12 * s + k) (by omega) (by omega), e 70 (12 * s + k) (by omega) (by omega), e 71 (12 * s + k) (by omega) (by omega), e (19 + 9 * s + 1) k (by omega) (by omega), e (19 + 9 * s + 2) k (by omega) (by omega), e (19 + 9 * s + 3) k (by omega) (by omega), e (19 + 9 * s + 4) k (by omega) (by omega), e (19 + 9 * s + 5) k (by omega) (by omega)]
        exact z
    · have g' : nts σ s = 0 := by
        rw [n3, n2, e0] at g
        have : ¬ 0 < nts σ s := fun z => g ((nlt (a := 0) (b := nts σ s) (by omega) (by omega)).mpr z)
        omega
      refine wp_some (wp_e (isShip_t hn h) (wp_iff (by decide) (wp_rd s rfl hs4 (by decide) (wp_ift ?_ (wp_some ⟨rfl, hI⟩)))))
      rw [n2, g']; rfl
  · exact wp_e (noShip_f hn h) (wp_iff (by decide) (wp_some (wp_e (isShip_f hn h) (wp_ift rfl (wp_some ⟨rfl, hI⟩)))))
