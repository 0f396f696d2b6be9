theorem st_2 {σ : bd_S} {r1 k1 r2 k2 q j : Nat} {v1 v2 : Int32} (h1 : ¬ (q = r1 ∧ j = k1)) (h2 : ¬ (q = r2 ∧ j = k2)) : bd_st (bd_st σ r1 k1 v1) r2 k2 v2 q j = σ q j := by rw [st_all, if_neg h2, st_all, if_neg h1]
theorem st_4 {σ : bd_S} {r1 k1 r2 k2 r3 k3 r4 k4 q j : Nat} {v1 v2 v3 v4 : Int32} (h1 : ¬ (q = r1 ∧ j = k1)) (h2 : ¬ (q = r2 ∧ j = k2)) (h3 : ¬ (q = r3 ∧ j = k3)) (h4 : ¬ (q = r4 ∧ j = k4)) : bd_st (bd_st (bd_st (bd_st σ r1 k1 v1) r2 k2 v2) r3 k3 v3) r4 k4 v4 q j = σ q j := by rw [st_2 h3 h4, st_2 h1 h2]
theorem p_care {σ : bd_S} (hI : Inv σ) (x : Int32) : Pr (f_X2_care x) (f_X3_care x) σ := by
  unfold Pr f_X2_care f_X3_care
  by_cases h : (0 : Int32).toInt ≤ x.toInt ∧ x.toInt ≤ (9 : Int32).toInt
  · obtain ⟨v, hv, rfl⟩ := i_nI (m := 9) h (by decide)
    refine wp_e (out_t h) (wp_ift rfl (wp_lt (wp_lt (wp_some (wp_e (in_t h) (wp_iff (by decide) (wp_lt (wp_lt (wp_some ⟨?_, ?_⟩)))))))))
    · rw [st_ne (by decide)]; exact hI.1.2.2.1.symm
    · obtain ⟨h1, h2, h3, h4, h5⟩ := hI
      refine ⟨?_, h2.cg (fun r k q => st_2 (by omega) (by omega)), h3.cg (fun r k q => st_2 (by omega) (by omega)), h4.cg (fun r k q => st_2 (by omega) (by omega)), fun s hs => ?_⟩
      · unfold IA
        rw [st_2 (q := 0) (j := 12) (by decide) (by decide), st_2 (q := 55) (j := 0) (by decide) (by decide), st_2 (q := 0) (j := 15) (by decide) (by decide), st_2 (q := 55) (j := 12) (by decide) (by decide), st_2 (q := 55) (j := 30) (by decide) (by decide), st_2 (q := 81) (j := 0) (by decide) (by decide), st_same, st_ne (show (0 : Nat) ≠ 55 by decide), st_same]
        exact ⟨h1.1, h1.2.1, rfl, ⟨v, hv, rfl⟩, h1.2.2.2.2⟩
      · obtain ⟨e1, e2, e3, e4⟩ := h5 s hs
        exact ⟨e1.cg (fun r k q => st_2 (by omega) (by omega)), e2.cg (fun r k q => st_2 (by omega) (by omega)), e3.cg (fun r k q => st_2 (by omega) (by omega)), e4.cg (fun r k q => st_2 (by omega) (by omega))⟩
  · exact wp_e (out_f h) (wp_iff (by decide) (wp_some (wp_e (in_f h) (wp_ift rfl (wp_some ⟨rfl, hI⟩)))))
/-- only rows of the third part changed -/
theorem Inv.c {σ σ' : bd_S} (hI : Inv σ) (hc : IC σ') (e : ∀ r k, ¬ ((10 ≤ r ∧ r ≤ 13) ∨ r = 15 ∨ r = 16 ∨ r = 61 ∨ r = 62 ∨ r = 63 ∨ r = 65 ∨ r = 77 ∨ r = 78) → σ' r k = σ r k) : Inv σ' := by
  obtain ⟨h1, h2, h3, h4, h5⟩ := hI
  refine ⟨h1.cg (fun r k q => e r k (by omega)), h2.cg (fun r k q => e r k (by omega)), hc, h4.cg (fun r k q => e r k (by omega)), fun s hs => ?_⟩
  obtain ⟨e1, e2, e3, e4⟩ := h5 s hs
  exact ⟨e1.cg (fun r k q => e r k (by omega)), e2.cg (fun r k q => e r k (by omega)), e3.cg (fun r k q => e r k (by omega)), e4.cg (fun r k q => e r k (by omega))⟩
theorem row2 {σ : bd_S} {a b d : Nat} {v : Int32} (hab : a ≠ b) (k : Nat) : bd_st (bd_st σ a d v) b d v a k = (if k = d then v else σ a k) ∧ bd_st (bd_st σ a d v) b d v b k = (if k = d then v else σ b k) := by
  rw [st_ne hab]
  by_cases e : k = d
  · subst e; rw [st_same, st_same, if_pos rfl, if_pos rfl]; exact ⟨rfl, rfl⟩
  · rw [st_off e, st_off e, if_neg e, if_neg e, st_ne (fun z => hab z.symm)]; exact ⟨rfl, rfl⟩
theorem p_slip {σ : bd_S} (hI : Inv σ) (x y : Int32) : Pr (f_X2_slip x y) (f_X3_slip x y) σ := by
  unfold Pr f_X2_slip f_X3_slip
  by_cases h : okD x
  · refine wp_e (noDay_t h) (wp_ift rfl ?_)
    by_cases g : (-60 : Int32).toInt ≤ y.toInt ∧ y.toInt ≤ (60 : Int32).toInt
    · obtain ⟨d, hd, rfl⟩ := h.n
      have m60 : (-60 : Int32).toInt = -60 := rfl
      have p60 : (60 : Int32).toInt = 60 := rfl
      refine wp_e (bey_t rfl g) (wp_ift rfl (wp_rd d rfl hd (by decide) (wp_wr d rfl hd (by decide) (wp_some (wp_e (isDay_t h) (wp_iff (by decide) (wp_e (in_t g) (wp_iff (by decide) (wp_rd d rfl hd (by decide) (wp_wr d rfl hd (by decide) (wp_some ⟨?_, ?_⟩)))))))))))
      · rw [st_ne (by decide)]; exact (hI.2.2.1.2.2.1 d).1.symm
      · obtain ⟨c1, c2, c3, c4, c5, c6⟩ := hI.2.2.1
        refine hI.c ⟨fun k => ?_, fun k => ?_, fun k => ?_, fun k => ?_, fun k => ?_, fun k => ?_⟩ (fun r k q => st_2 (by omega) (by omega))
        · rw [st_2 (q := 10) (by omega) (by omega), st_2 (q := 61) (by omega) (by omega)]; exact c1 k
        · rw [st_2 (q := 11) (by omega) (by omega), st_2 (q := 62) (by omega) (by omega)]; exact c2 k
        · have z := row2 (σ := σ) (a := 12) (b := 63) (d := d) (v := y) (by decide) k
          rw [z.1, z.2]
          have w := c3 k
          by_cases e : k = d
          · rw [if_pos e, if_pos e]; exact ⟨rfl, by omega, by omega⟩
          · rw [if_neg e, if_neg e]; exact w
        · rw [st_2 (q := 13) (by omega) (by omega), st_2 (q := 65) (by omega) (by omega)]; exact c4 k
        · rw [st_2 (q := 15) (by omega) (by omega), st_2 (q := 77) (by omega) (by omega)]; exact c5 k
        · rw [st_2 (q := 16) (by omega) (by omega), st_2 (q := 78) (by omega) (by omega)]; exact c6 k
    · exact wp_e (bey_f rfl g) (wp_iff (by decide) (wp_some (wp_e (isDay_t h) (wp_iff (by decide) (wp_e (in_f g) (wp_ift rfl (wp_some ⟨rfl, hI⟩)))))))
  · exact wp_e (noDay_f h) (wp_iff (by decide) (wp_some (wp_e (isDay_f h) (wp_ift rfl (wp_some ⟨rfl, hI⟩)))))
theorem p_warm {σ : bd_S} (hI : Inv σ) (x y : Int32) : Pr (f_X2_warm x y) (f_X3_warm x y) σ := by
  unfold Pr f_X2_warm f_X3_warm
  by_cases h : okD x
  · refine wp_e (noDay_t h) (wp_ift rfl ?_)
    by_cases g : (0 : Int32).toInt ≤ y.toInt ∧ y.toInt ≤ (9 : Int32).toInt
    · obtain ⟨d, hd, rfl⟩ := h.n
      have m60 : (0 : Int32).toInt = 0 := rfl
      have p60 : (9 : Int32).toInt = 9 := rfl
      refine wp_e (out_t g) (wp_ift rfl (wp_rd d rfl hd (by decide) (wp_wr d rfl hd (by decide) (wp_some (wp_e (isDay_t h) (wp_iff (by decide) (wp_e (in_t g) (wp_iff (by decide) (wp_rd d rfl hd (by decide) (wp_wr d rfl hd (by decide) (wp_some ⟨?_, ?_⟩)))))))))))
      · rw [st_ne (by decide)]; exact (hI.2.2.1.2.2.2.1 d).1.symm
      · obtain ⟨c1, c2, c3, c4, c5, c6⟩ := hI.2.2.1
        refine hI.c ⟨fun k => ?_, fun k => ?_, fun k => ?_, fun k => ?_, fun k => ?_, fun k => ?_⟩ (fun r k q => st_2 (by omega) (by omega))
        · rw [st_2 (q := 10) (by omega) (by omega), st_2 (q := 61) (by omega) (by omega)]; exact c1 k
        · rw [st_2 (q := 11) (by omega) (by omega), st_2 (q := 62) (by omega) (by omega)]; exact c2 k
        · rw [st_2 (q := 12) (by omega) (by omega), st_2 (q := 63) (by omega) (by omega)]; exact c3 k
        · have z := row2 (σ := σ) (a := 13) (b := 65) (d := d) (v := y) (by decide) k
          rw [z.1, z.2]
          have w := c4 k
          by_cases e : k = d
          · rw [if_pos e, if_pos e]; exact ⟨rfl, by omega, by omega⟩
          · rw [if_neg e, if_neg e]; exact w
        · rw [st_2 (q := 15) (by omega) (by omega), st_2 (q := 77) (by omega) (by omega)]; exact c5 k
        · rw [st_2 (q := 16) (by omega) (by omega), st_2 (q := 78) (by omega) (by omega)]; exact c6 k
    · exact wp_e (out_f g) (wp_iff (by decide) (wp_some (wp_e (isDay_t h) (wp_iff (by decide) (wp_e (in_f g) (wp_ift rfl (wp_some ⟨rfl, hI⟩)))))))
  · exact wp_e (noDay_f h) (wp_iff (by decide) (wp_some (wp_e (isDay_f h) (wp_ift rfl (wp_some ⟨rfl, hI⟩)))))
theorem p_slow {σ : bd_S} (hI : Inv σ) (x y z : Int32) : Pr (f_X2_slow x y z) (f_X3_slow x y z) σ := by
  unfold Pr f_X2_slow f_X3_slow
  by_cases h : (0 : Int32).toInt ≤ x.toInt ∧ x.toInt ≤ (1 : Int32).toInt
  · refine wp_e (out_t h) (wp_ift rfl ?_)
    by_cases g : (0 : Int32).toInt ≤ y.toInt ∧ y.toInt ≤ (50 : Int32).toInt
    · refine wp_e (out_t g) (wp_ift rfl ?_)
      by_cases f : y.toInt ≤ z.toInt ∧ z.toInt ≤ (50 : Int32).toInt
      · obtain ⟨d, hd, rfl⟩ := i_nI (m := 1) h (by decide)
        have m60 : (0 : Int32).toInt = 0 := rfl
        have p60 : (50 : Int32).toInt = 50 := rfl
        obtain ⟨c1, c2, c3, c4, c5, c6⟩ := hI.2.2.1
        refine wp_e (out_t f) (wp_ift rfl (wp_rd d rfl (by omega) (by decide) (wp_lt (wp_rd d rfl (by omega) (by decide) (wp_lt (wp_wr d rfl (by omega) (by decide) (wp_wr d rfl (by omega) (by decide) (wp_some ?_))))))))
        refine wp_e (in_t h) (wp_iff (by decide) (wp_e (in_t g) (wp_iff (by decide) (wp_e (in_t f) (wp_iff (by decide) (wp_rd d rfl (by omega) (by decide) (wp_lt (wp_rd d rfl (by omega) (by decide) (wp_lt (wp_wr d rfl (by omega) (by decide) (wp_wr d rfl (by omega) (by decide) (wp_some ⟨?_, ?_⟩))))))))))))
        · rw [st_2 (q := 61) (by omega) (by omega), st_2 (q := 62) (by omega) (by omega), (c1 d).1, (c2 d).1]
        · refine hI.c ⟨fun k => ?_, fun k => ?_, fun k => ?_, fun k => ?_, fun k => ?_, fun k => ?_⟩ (fun r k q => st_4 (by omega) (by omega) (by omega) (by omega))
          · have w := c1 k
            simp only [st_all]
            by_cases e : k = d
            · simp [e]; omega
            · simp [e]; exact w
          · have w := c2 k
            simp only [st_all]
            by_cases e : k = d
            · simp [e]; omega
            · simp [e]; exact w
          · rw [st_4 (q := 12) (by omega) (by omega) (by omega) (by omega), st_4 (q := 63) (by omega) (by omega) (by omega) (by omega)]; exact c3 k
          · rw [st_4 (q := 13) (by omega) (by omega) (by omega) (by omega), st_4 (q := 65) (by omega) (by omega) (by omega) (by omega)]; exact c4 k
          · rw [st_4 (q := 15) (by omega) (by omega) (by omega) (by omega), st_4 (q := 77) (by omega) (by omega) (by omega) (by omega)]; exact c5 k
          · rw [st_4 (q := 16) (by omega) (by omega) (by omega) (by omega), st_4 (q := 78) (by omega) (by omega) (by omega) (by omega)]; exact c6 k
      · exact wp_e (out_f f) (wp_iff (by decide) (wp_some (wp_e (in_t h) (wp_iff (by decide) (wp_e (in_t g) (wp_iff (by decide) (wp_e (in_f f) (wp_ift rfl (wp_some ⟨rfl, hI⟩)))))))))
    · exact wp_e (out_f g) (wp_iff (by decide) (wp_some (wp_e (in_t h) (wp_iff (by decide) (wp_e (in_f g) (wp_ift rfl (wp_some ⟨rfl, hI⟩)))))))
  · exact wp_e (out_f h) (wp_iff (by decide) (wp_some (wp_e (in_f h) (wp_ift rfl (wp_some ⟨rfl, hI⟩)))))
theorem p_jumped {σ : bd_S} (hI : Inv σ) (x y : Int32) : Pr (f_X2_jumped x y) (f_X3_jumped x y) σ := by
  obtain ⟨nk, hn⟩ := hI.hS
  unfold Pr f_X2_jumped f_X3_jumped
  by_cases h : okS nk x
  · by_cases g : okC y
    · obtain ⟨s, hs, rfl⟩ := h.n hn.1
      obtain ⟨c, hc, rfl⟩ := g.n
      have hs4 : s < 4 := by have := hn.1; omega
      refine wp_e (noClock_t hn h g) (wp_ift rfl (wp_rs s rfl hs4 (wp_c (s_learn hI qU.rf hs4 hc) (fun r σ1 q => ?_))))
      obtain ⟨u, q⟩ := q
      have R : wp (f_X3_lay (nI s) (nI c) σ1) (fun r σ' => qU σ σ' ∧ LA σ s c 99 (s63 σ) r (cl σ') (ch σ')) := s_layU hI u hs4 hc
      rcases q with ⟨rfl, q, -⟩ | ⟨rfl, q⟩
      · refine wp_iff (by decide) (wp_some (wp_e (isShip_t (hn.u u) h) (wp_iff (by decide) (wp_e (isClock_t g) (wp_iff (by decide) (wp_c R (fun r' σ2 q' => ?_)))))))
        obtain ⟨u', q'⟩ := q'
        rcases q' with ⟨rfl, -⟩ | ⟨rfl, q'⟩
        · exact wp_iff (by decide) (wp_some ⟨rfl, hI.u u'⟩)
        · exact absurd q' q
      · refine wp_ift rfl (wp_some (wp_e (isShip_t (hn.u u) h) (wp_iff (by decide) (wp_e (isClock_t g) (wp_iff (by decide) (wp_c R (fun r' σ2 q' => ?_)))))))
        obtain ⟨u', q'⟩ := q'
        rcases q' with ⟨rfl, q', -⟩ | ⟨rfl, q'⟩
        · exact absurd q q'
        · exact wp_ift rfl (wp_some ⟨rfl, hI.u u'⟩)
    · exact wp_e (noClock_f hn (fun z => g z.2)) (wp_iff (by decide) (wp_some (wp_e (isShip_t hn h) (wp_iff (by decide) (wp_e (isClock_f g) (wp_ift rfl (wp_some ⟨rfl, hI⟩)))))))
  · exact wp_e (noClock_f hn (fun z => h z.1)) (wp_iff (by decide) (wp_some (wp_e (isShip_f hn h) (wp_ift rfl (wp_some ⟨rfl, hI⟩)))))
