theorem p_meet {σ : bd_S} (hI : Inv σ) (x y z r0 w : Int32) : Pr (f_X2_meet x y z r0 w) (f_X3_meet x y z r0 w) σ := by
  obtain ⟨nk, hn⟩ := hI.hS
  have m9 : (-99999 : Int32).toInt = -99999 := rfl
  have p9 : (99999 : Int32).toInt = 99999 := rfl
  have m8 : (-9999 : Int32).toInt = -9999 := rfl
  have p8 : (9999 : Int32).toInt = 9999 := rfl
  unfold Pr f_X2_meet f_X3_meet
  by_cases h : okS nk x ∧ okC y
  · refine wp_e (noClock_t hn h.1 h.2) (wp_ift rfl ?_)
    by_cases g : okD z
    · refine wp_e (noDay_t g) (wp_ift rfl ?_)
      by_cases e : (-99999 : Int32).toInt ≤ r0.toInt ∧ r0.toInt ≤ (99999 : Int32).toInt
      · refine wp_e (bey_t rfl e) (wp_ift rfl ?_)
        by_cases f : (-9999 : Int32).toInt ≤ w.toInt ∧ w.toInt ≤ (9999 : Int32).toInt
        · refine wp_e (bey_t rfl f) (wp_ift rfl (wp_lt (wp_lt ?_)))
          obtain ⟨s, hs, rfl⟩ := h.1.n hn.1
          obtain ⟨d, hd, rfl⟩ := g.n
          have hs4 : s < 4 := by have := hn.1; omega
          have e' := e
          have f' := f
          rw [m9, p9] at e'
          rw [m8, p8] at f'
          have e4 : (4 : Int32).toInt = 4 := rfl
          have y1 : (4 * w).toInt = 4 * w.toInt := by rw [fb_mulI, e4] <;> rw [e4] <;> omega
          have y2 : (r0 - 4 * w).toInt = r0.toInt - 4 * w.toInt := by rw [fb_subI, y1] <;> rw [y1] <;> omega
          have y3 : (r0 - 4 * w - 4).toInt = r0.toInt - 4 * w.toInt - 4 := by rw [fb_subI, y2, e4] <;> rw [y2, e4] <;> omega
          have y4 : (r0 - 4 * w + 4).toInt = r0.toInt - 4 * w.toInt + 4 := by rw [fb_addI, y2, e4] <;> rw [y2, e4] <;> omega
          refine wp_rs s rfl hs4 (wp_lt (wp_lt (wp_c (s_both hI (how := 3) (by' := w) (shows := r0) hs4 (by rw [hn.2.2, ti_nI (by have := hn.1; omega)]; omega) hd ?_ (Or.inr (Or.inr (Or.inr rfl))) ⟨f'.1, f'.2, e'.1, e'.2⟩ (fun q => absurd rfl q) (by rw [if_pos rfl]; exact y3) (by rw [if_pos rfl]; exact y4)) (fun r σ1 q => wp_some ?_))))
          · exact ⟨fun _ => rfl, fun _ => nar_0⟩
          · obtain ⟨⟨q1, q2⟩, q3⟩ := q
            exact wp_e (isOne_t ⟨hn.1, q1.trans hn.2.1, q2.trans hn.2.2⟩ h g) (wp_iff (by decide) (wp_e (in_t e) (wp_iff (by decide) (wp_e (in_t f) (wp_iff (by decide) (wp_c q3 (fun r' σ2 q' => wp_some q')))))))
        · exact wp_e (bey_f rfl f) (wp_iff (by decide) (wp_some (wp_e (isOne_t hn h g) (wp_iff (by decide) (wp_e (in_t e) (wp_iff (by decide) (wp_e (in_f f) (wp_ift rfl (wp_some ⟨rfl, hI⟩)))))))))
      · exact wp_e (bey_f rfl e) (wp_iff (by decide) (wp_some (wp_e (isOne_t hn h g) (wp_iff (by decide) (wp_e (in_f e) (wp_ift rfl (wp_some ⟨rfl, hI⟩)))))))
    · exact wp_e (noDay_f g) (wp_iff (by decide) (wp_some (wp_e (isOne_f hn (fun z => g z.2)) (wp_ift rfl (wp_some ⟨rfl, hI⟩)))))
  · exact wp_e (noClock_f hn h) (wp_iff (by decide) (wp_some (wp_e (isOne_f hn (fun z => h z.1)) (wp_ift rfl (wp_some ⟨rfl, hI⟩)))))
theorem s_latest {σ : bd_S} {how w : Int32} (hw : how = 2 → 0 ≤ w.toInt ∧ w.toInt ≤ 30) : wp (f_X2_latestNoted how w σ) (fun r σ' => σ' = σ ∧ r.toInt = (if how = 2 then 7 * w.toInt + 3 else if how = 1 then 1 else 2)) := by
  unfold f_X2_latestNoted
  have e7 : (7 : Int32).toInt = 7 := rfl
  have e3 : (3 : Int32).toInt = 3 := rfl
  refine wp_if (fun h => wp_lt (wp_lt (wp_some ⟨rfl, ?_⟩))) (fun h => wp_if (fun h1 => wp_some ⟨rfl, ?_⟩) (fun h1 => wp_some ⟨rfl, ?_⟩))
  · have b := hw h
    have y1 : (7 * w).toInt = 7 * w.toInt := by rw [fb_mulI, e7] <;> rw [e7] <;> omega
    rw [if_pos h, fb_addI, y1, e3] <;> rw [y1, e3] <;> omega
  · rw [if_neg h, if_pos h1]; rfl
  · rw [if_neg h, if_neg h1]; rfl
theorem s_soonest {σ : bd_S} {how w : Int32} (hw : how = 2 → 0 ≤ w.toInt ∧ w.toInt ≤ 30) : wp (f_X2_soonestNoted how w σ) (fun r σ' => σ' = σ ∧ r.toInt = (if how = 2 then 5 * w.toInt - 3 else if how = 1 then -1 else -2)) := by
  unfold f_X2_soonestNoted
  have e7 : (5 : Int32).toInt = 5 := rfl
  have e3 : (3 : Int32).toInt = 3 := rfl
  refine wp_if (fun h => wp_lt (wp_lt (wp_some ⟨rfl, ?_⟩))) (fun h => wp_if (fun h1 => wp_some ⟨rfl, ?_⟩) (fun h1 => wp_some ⟨rfl, ?_⟩))
  · have b := hw h
    have y1 : (5 * w).toInt = 5 * w.toInt := by rw [fb_mulI, e7] <;> rw [e7] <;> omega
    rw [if_pos h, fb_subI, y1, e3] <;> rw [y1, e3] <;> omega
  · rw [if_neg h, if_pos h1]; rfl
  · rw [if_neg h, if_neg h1]; rfl
theorem s_set43 {σ : bd_S} (hI : Inv σ) {nk s d : Nat} {y how w v t0 : Int32} (hn : hS σ nk) (hsn : s < nk) (hs : s < 4) (hd : d < 20) (hh : how = 0 ∨ how = 1 ∨ how = 2) (ht : 0 ≤ t0.toInt ∧ t0.toInt ≤ 30) {P : Int32 → bd_S → Prop}
    (hP : ∀ r σ1, hS σ1 nk → wp (f_X3_set_37 (nI s) y (nI d) how w v t0 0 w σ1) (fun r' σ2 => r' = r ∧ Inv σ2) → P r σ1) : wp (f_X2_set_43 (nI s) y (nI d) how w v t0 0 w σ) P := by
  have m8 : (-9999 : Int32).toInt = -9999 := rfl
  have p8 : (9999 : Int32).toInt = 9999 := rfl
  have z0 : (0 : Int32).toInt = 0 := rfl
  unfold f_X2_set_43
  unfold f_X3_set_37 at hP
  by_cases e : (0 : Int32).toInt ≤ w.toInt ∧ w.toInt ≤ t0.toInt
  · refine wp_e (out_t e) (wp_ift rfl ?_)
    by_cases f : (-9999 : Int32).toInt ≤ v.toInt ∧ v.toInt ≤ (9999 : Int32).toInt
    · refine wp_e (bey_t rfl f) (wp_ift rfl (wp_rs s rfl hs ?_))
      have f' := f
      rw [m8, p8] at f'
      have hw : 0 ≤ w.toInt ∧ w.toInt ≤ 30 := by omega
      have hb : (-1000 : Int) ≤ (if how = 2 then 7 * w.toInt + 3 else if how = 1 then 1 else 2) ∧ (if how = 2 then 7 * w.toInt + 3 else if how = 1 then 1 else 2) ≤ (1000 : Int) := by
        split <;> (try split) <;> omega
      have hb' : (-1000 : Int) ≤ (if how = 2 then 5 * w.toInt - 3 else if how = 1 then -1 else -2) ∧ (if how = 2 then 5 * w.toInt - 3 else if how = 1 then -1 else -2) ≤ (1000 : Int) := by
        split <;> (try split) <;> omega
      have h3 : how ≠ 3 := by rcases hh with rfl | rfl | rfl <;> decide
      refine wp_c (s_latest (fun _ => hw)) (fun a σ' ha => wp_lt ?_)
      obtain ⟨rfl, ha⟩ := ha
      refine wp_c (s_soonest (fun _ => hw)) (fun b σ' hb2 => wp_lt ?_)
      obtain ⟨rfl, hb2⟩ := hb2
      refine wp_c (s_both hI (how := how) (by' := w) (shows := v) hs (by rw [hn.2.2, ti_nI (by have := hn.1; omega)]; omega) hd ⟨fun q => absurd q (by rw [nar_1]; decide), fun q => absurd q h3⟩ (by rcases hh with q | q | q <;> simp [q]) (by omega) (fun _ => by omega) ?_ ?_) (fun r σ1 q => wp_some (hP r σ1 ⟨hn.1, q.1.1.trans hn.2.1, q.1.2.trans hn.2.2⟩ (wp_e (in_t e) (wp_iff (by decide) (wp_e (in_t f) (wp_iff (by decide) (wp_c q.2 (fun r' σ2 q' => wp_some q'))))))))
      · rw [if_neg h3, ← ha, fb_subI] <;> omega
      · rw [if_neg h3, ← hb2, fb_subI] <;> omega
    · exact wp_e (bey_f rfl f) (wp_iff (by decide) (wp_some (hP _ _ hn (wp_e (in_t e) (wp_iff (by decide) (wp_e (in_f f) (wp_ift rfl (wp_some ⟨rfl, hI⟩))))))))
  · exact wp_e (out_f e) (wp_iff (by decide) (wp_some (hP _ _ hn (wp_e (in_f e) (wp_ift rfl (wp_some ⟨rfl, hI⟩))))))
theorem p_set {σ : bd_S} (hI : Inv σ) (x y z how w v : Int32) : Pr (f_X2_set x y z how w v) (f_X3_set x y z how w v) σ := by
  obtain ⟨nk, hn⟩ := hI.hS
  unfold Pr f_X2_set f_X3_set
  by_cases h : okS nk x ∧ okC y
  · refine wp_e (noClock_t hn h.1 h.2) (wp_ift rfl ?_)
    by_cases g : okD z
    · refine wp_e (noDay_t g) (wp_ift rfl ?_)
      by_cases e : (0 : Int32).toInt ≤ how.toInt ∧ how.toInt ≤ (2 : Int32).toInt
      · refine wp_e (out_t e) (wp_ift rfl ?_)
        obtain ⟨s, hs, rfl⟩ := h.1.n hn.1
        obtain ⟨d, hd, rfl⟩ := g.n
        have hs4 : s < 4 := by have := hn.1; omega
        have hh : how = 0 ∨ how = 1 ∨ how = 2 := by
          obtain ⟨m, q1, rfl⟩ := i_nI (m := 2) e (by decide)
          rcases (show m = 0 ∨ m = 1 ∨ m = 2 by omega) with rfl | rfl | rfl
          · exact Or.inl rfl
          · exact Or.inr (Or.inl rfl)
          · exact Or.inr (Or.inr rfl)
        refine wp_if (fun q => ?_) (fun q => ?_)
        · exact s_set43 hI hn hs hs4 hd hh (by decide) (fun r σ1 hn' H => wp_e (isOne_t hn' h g) (wp_iff (by decide) (wp_e (in_t e) (wp_iff (by decide) (wp_ift q H)))))
        · exact s_set43 hI hn hs hs4 hd hh (by decide) (fun r σ1 hn' H => wp_e (isOne_t hn' h g) (wp_iff (by decide) (wp_e (in_t e) (wp_iff (by decide) (wp_iff q H)))))
      · exact wp_e (out_f e) (wp_iff (by decide) (wp_some (wp_e (isOne_t hn h g) (wp_iff (by decide) (wp_e (in_f e) (wp_ift rfl (wp_some ⟨rfl, hI⟩)))))))
    · exact wp_e (noDay_f g) (wp_iff (by decide) (wp_some (wp_e (isOne_f hn (fun z => g z.2)) (wp_ift rfl (wp_some ⟨rfl, hI⟩)))))
  · exact wp_e (noClock_f hn h) (wp_iff (by decide) (wp_some (wp_e (isOne_f hn (fun z => h z.1)) (wp_ift rfl (wp_some ⟨rfl, hI⟩)))))
theorem p_ship {σ : bd_S} (hI : Inv σ) : Pr f_X2_ship f_X3_ship σ := by
  obtain ⟨nk, hn1, hn2, hn3⟩ := hI.hS
  unfold Pr f_X2_ship f_X3_ship
  refine wp_lt ?_
  rw [hn2]
  refine wp_if (fun h => ?_) (fun h => ?_)
  · have h4 : nk < 4 := (nlt (b := 4) (by omega) (by decide)).mp h
    refine wp_lt (wp_lt (wp_lt (wp_lt (wp_lt (wp_some ?_)))))
    rw [st_same, nI_1, nI_pred]
    refine wp_lt (wp_iff ?_ (wp_lt ?_))
    · rw [st_ne (by decide), hn3]
      intro q
      have := (neq (b := 4) (by omega) (by decide)).mp q
      omega
    rw [st_ne (show (55 : Nat) ≠ 0 by decide), hn3]
    refine wp_wr nk rfl h4 (by decide) (wp_lt (wp_lt (wp_lt (wp_lt (wp_lt (wp_some ?_))))))
    rw [st_same, st_2 (by omega) (by omega), hn3, nI_1, nI_pred]
    refine ⟨rfl, ?_⟩
    obtain ⟨h1, h2, h3, h5, h6⟩ := hI
    have z66 : σ 66 nk = 0 := (h6 nk h4).2.2.2.2 (by rw [hn3, ti_nI (by omega)]; exact Int.le_refl _)
    have C : ∀ r k, ¬ (r = 0 ∧ k = 15) → ¬ (r = 55 ∧ k = 12) → bd_st (bd_st (bd_st σ 0 15 (nI (nk + 1))) 66 nk 0) 55 12 (nI (nk + 1)) r k = σ r k := fun r k q1 q2 => by
      rw [st_all, if_neg q2, st_all]
      by_cases e : r = 66 ∧ k = nk
      · rw [if_pos e]
        obtain ⟨rfl, rfl⟩ := e
        exact z66.symm
      · rw [if_neg e, st_all, if_neg q1]
    have e15 : bd_st (bd_st (bd_st σ 0 15 (nI (nk + 1))) 66 nk 0) 55 12 (nI (nk + 1)) 0 15 = nI (nk + 1) := by rw [st_ne (by decide), st_ne (by decide), st_same]
    have e12 : bd_st (bd_st (bd_st σ 0 15 (nI (nk + 1))) 66 nk 0) 55 12 (nI (nk + 1)) 55 12 = nI (nk + 1) := st_same
    refine ⟨?_, h2.cg (fun r k q => C r k (by omega) (by omega)), h3.cg (fun r k q => C r k (by omega) (by omega)), h5.cg (fun r k q => C r k (by omega) (by omega)), fun s hs => ?_⟩
    · unfold IA
      rw [e15, e12, C 0 12 (by decide) (by decide), C 0 13 (by decide) (by decide), C 55 0 (by decide) (by decide), C 55 4 (by decide) (by decide), C 55 30 (by decide) (by decide), C 81 0 (by decide) (by decide)]
      exact ⟨h1.1, h1.2.1, h1.2.2.1, h1.2.2.2.1, rfl, ⟨nk + 1, by omega, rfl⟩, h1.2.2.2.2.2.2⟩
    · obtain ⟨e1, e2, e3, e4⟩ := h6 s hs
      refine ⟨e1.cg (fun r k q => C r k (by omega) (by omega)), e2.cg (fun r k q => C r k (by omega) (by omega)), e3.cg (fun r k q => C r k (by omega) (by omega)), e4.1.cg (fun r k q => C r k (by omega) (by omega)), fun z => ?_⟩
      rw [e12, ti_nI (by omega)] at z
      rw [C 66 s (by omega) (by omega)]
      exact e4.2 (by rw [hn3, ti_nI (by omega)]; omega)
  · have h4 : nk = 4 := by
      have : ¬ nk < 4 := fun z => h ((nlt (b := 4) (by omega) (by decide)).mpr z)
      omega
    subst h4
    exact wp_some (wp_lt (wp_ift hn3 (wp_some ⟨rfl, hI⟩)))
