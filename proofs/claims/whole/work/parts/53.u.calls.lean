theorem p_clock {σ : bd_S} (hI : Inv σ) (x y w v : Int32) : Pr (f_X2_clock x y w v) (f_X3_clock x y w v) σ := by
  obtain ⟨nk, hn⟩ := hI.hS
  have z0 : (0 : Int32).toInt = 0 := rfl
  have z1 : (1 : Int32).toInt = 1 := rfl
  have z5 : (5 : Int32).toInt = 5 := rfl
  have z9 : (9 : Int32).toInt = 9 := rfl
  unfold Pr f_X2_clock f_X3_clock
  by_cases h : okS nk x
  · by_cases g : okC y
    · refine wp_e (noClock_t hn h g) (wp_ift rfl ?_)
      by_cases e : (0 : Int32).toInt ≤ w.toInt ∧ w.toInt ≤ (1 : Int32).toInt
      · refine wp_e (out_t e) (wp_ift rfl ?_)
        obtain ⟨s, hs, rfl⟩ := h.n hn.1
        obtain ⟨c, hc, rfl⟩ := g.n
        have hs4 : s < 4 := by have := hn.1; omega
        obtain ⟨e1, e2, e3, e4⟩ := hI.2.2.2.2 s hs4
        refine wp_if (fun w0 => ?_) (fun w0 => ?_)
        · subst w0
          by_cases f : (0 : Int32).toInt ≤ v.toInt ∧ v.toInt ≤ (5 : Int32).toInt
          · refine wp_e (out_t f) (wp_ift rfl (wp_ift rfl (wp_rs s rfl hs4 (wp_rd c rfl hc (by decide) (wp_wr c rfl hc (by decide) (wp_some ?_))))))
            refine wp_e (isShip_t ⟨hn.1, by rw [st_ne (by omega)]; exact hn.2.1, by rw [st_ne (by omega)]; exact hn.2.2⟩ h) (wp_iff (by decide) (wp_e (isClock_t g) (wp_iff (by decide) (wp_e (in_t e) (wp_iff (by decide) (wp_ift rfl ?_))))))
            unfold f_X3_clock_39 f_X3_clock_76
            refine wp_e (in_t f) (wp_iff (by decide) (wp_lt (wp_lt (wp_ift rfl (wp_rd (3 * s + c) ix3 (by omega) (by decide) (wp_ift rfl (wp_wr (3 * s + c) ix3 (by omega) (by decide) (wp_some ⟨?_, ?_⟩))))))))
            · rw [st_ne (by omega)]; exact (e3 c hc).1.symm
            · rw [z0, z5] at f
              refine hI.s hs4 (fun r k q => ?_) (e1.cg (fun r k q => st_2 (by omega) (by omega))) (e2.cg (fun r k q => st_2 (by omega) (by omega))) (fun c' hc' => ?_) (e4.cg (fun r k q => st_2 (by omega) (by omega)))
              · unfold sD at q
                exact st_2 (by omega) (by omega)
              · have q := e3 c' hc'
                rw [st_2 (q := 74) (by omega) (by omega), st_2 (q := 19 + 9 * s + 7) (by omega) (by omega)]
                by_cases ec : c' = c
                · subst ec
                  rw [st_ne (show 19 + 9 * s + 6 ≠ 73 by omega), st_same, st_same]
                  exact ⟨rfl, f.1, f.2, q.2.2.2⟩
                · rw [st_2 (by omega) (by omega), st_2 (by omega) (by omega)]; exact q
          · refine wp_e (out_f f) (wp_iff (by decide) (wp_some (wp_e (isShip_t hn h) (wp_iff (by decide) (wp_e (isClock_t g) (wp_iff (by decide) (wp_e (in_t e) (wp_iff (by decide) (wp_ift rfl ?_)))))))))
            unfold f_X3_clock_39
            exact wp_e (in_f f) (wp_ift rfl (wp_some ⟨rfl, hI⟩))
        · have w1 : w = 1 := by
            rcases okE.i.mpr e with q | q
            · exact absurd q w0
            · exact q
          subst w1
          by_cases f : (1 : Int32).toInt ≤ v.toInt ∧ v.toInt ≤ (9 : Int32).toInt
          · refine wp_e (out_t f) (wp_ift rfl (wp_iff w0 (wp_rs s rfl hs4 (wp_rd c rfl hc (by decide) (wp_wr c rfl hc (by decide) (wp_some ?_))))))
            refine wp_e (isShip_t ⟨hn.1, by rw [st_ne (by omega)]; exact hn.2.1, by rw [st_ne (by omega)]; exact hn.2.2⟩ h) (wp_iff (by decide) (wp_e (isClock_t g) (wp_iff (by decide) (wp_e (in_t e) (wp_iff (by decide) (wp_iff w0 ?_))))))
            unfold f_X3_clock_39 f_X3_clock_76
            refine wp_e (in_t f) (wp_iff (by decide) (wp_lt (wp_lt (wp_iff w0 (wp_rd (3 * s + c) ix3 (by omega) (by decide) (wp_iff w0 (wp_wr (3 * s + c) ix3 (by omega) (by decide) (wp_some ⟨?_, ?_⟩))))))))
            · rw [st_ne (by omega)]; exact (e3 c hc).2.2.2.1.symm
            · rw [z1, z9] at f
              refine hI.s hs4 (fun r k q => ?_) (e1.cg (fun r k q => st_2 (by omega) (by omega))) (e2.cg (fun r k q => st_2 (by omega) (by omega))) (fun c' hc' => ?_) (e4.cg (fun r k q => st_2 (by omega) (by omega)))
              · unfold sD at q
                exact st_2 (by omega) (by omega)
              · have q := e3 c' hc'
                rw [st_2 (q := 73) (by omega) (by omega), st_2 (q := 19 + 9 * s + 6) (by omega) (by omega)]
                by_cases ec : c' = c
                · subst ec
                  rw [st_ne (show 19 + 9 * s + 7 ≠ 74 by omega), st_same, st_same]
                  exact ⟨q.1, q.2.1, q.2.2.1, rfl, f.1, f.2⟩
                · rw [st_2 (by omega) (by omega), st_2 (by omega) (by omega)]; exact q
          · refine wp_e (out_f f) (wp_iff (by decide) (wp_some (wp_e (isShip_t hn h) (wp_iff (by decide) (wp_e (isClock_t g) (wp_iff (by decide) (wp_e (in_t e) (wp_iff (by decide) (wp_iff w0 ?_)))))))))
            unfold f_X3_clock_39
            exact wp_e (in_f f) (wp_ift rfl (wp_some ⟨rfl, hI⟩))
      · exact wp_e (out_f e) (wp_iff (by decide) (wp_some (wp_e (isShip_t hn h) (wp_iff (by decide) (wp_e (isClock_t g) (wp_iff (by decide) (wp_e (in_f e) (wp_ift rfl (wp_some ⟨rfl, hI⟩)))))))))
    · exact wp_e (noClock_f hn (fun z => g z.2)) (wp_iff (by decide) (wp_some (wp_e (isShip_t hn h) (wp_iff (by decide) (wp_e (isClock_f g) (wp_ift rfl (wp_some ⟨rfl, hI⟩)))))))
  · exact wp_e (noClock_f hn (fun z => h z.1)) (wp_iff (by decide) (wp_some (wp_e (isShip_f hn h) (wp_ift rfl (wp_some ⟨rfl, hI⟩)))))
theorem s_told4 {σ : bd_S} (hB : IB σ) {x1 : Int32} {K : Int32 → Int32 → bd_S → Option (Int32 × bd_S)} {P : Int32 → bd_S → Prop} (hk : wp (K (σ 0 14) x1 σ) P) : ∀ (m d n : Nat) (x2 : Int32), d + m = 20 → m < n → (∀ i, i < 32 → bt x2 i = (decide (i < d) && decide (σ 64 i ≠ 0))) → wp (f_X3_told_4 K n (nI d) x2 x1 σ) P := by
  intro m
  induction m with
  | zero =>
    intro d n x2 hd hn hx
    obtain ⟨n, rfl⟩ : ∃ z, n = z + 1 := ⟨n - 1, by omega⟩
    have : d = 20 := by omega
    subst this
    have e : x2 = σ 0 14 := k_ext (fun i hi => (hx i hi).trans (hB.1 i hi).symm)
    subst e
    unfold f_X3_told_4
    exact wp_ift ((nle (by decide) (by decide)).mpr (Nat.le_refl 20)) hk
  | succ m ih =>
    intro d n x2 hd hn hx
    obtain ⟨n, rfl⟩ : ∃ z, n = z + 1 := ⟨n - 1, by omega⟩
    unfold f_X3_told_4
    refine wp_iff (fun q => ?_) (wp_rd d rfl (by omega) (by decide) (wp_if (fun h => wp_lt (wp_lt ?_)) (fun h => wp_lt (wp_lt (wp_lt ?_)))))
    · have := (nle (a := 20) (by decide) (by omega)).mp q
      omega
    · rw [nI_1]
      refine ih (d + 1) n _ (by omega) (by omega) (fun i hi => ?_)
      rw [k_or, k_zero, hx i hi]
      by_cases e : i = d
      · subst e; simp [h]
      · have : (i < d + 1) = (i < d) := propext (by omega)
        simp [this]
    · rw [nI_1]
      refine ih (d + 1) n _ (by omega) (by omega) (fun i hi => ?_)
      rw [k_or, k_one d (by omega) i hi, hx i hi]
      by_cases e : i = d
      · subst e; simp [h]
      · have : (i < d + 1) = (i < d) := propext (by omega)
        simp [this, e]
theorem p_told {σ : bd_S} (hI : Inv σ) (x : Int32) : Pr (f_X2_told x) (f_X3_told x) σ := by
  obtain ⟨nk, hn⟩ := hI.hS
  have z4 : (4 : Int32).toInt = 4 := rfl
  have z7 : (7 : Int32).toInt = 7 := rfl
  have R : ∀ P : Int32 → bd_S → Prop, _ → wp (f_X3_told x σ) P := fun P hk => by
    unfold f_X3_told
    exact s_told4 hI.2.1 hk 20 0 FU_ 0 (by decide) (by rw [FU_v]; omega) (fun i _ => by rw [k_zero]; simp)
  have tail : ∀ k, k < 4 → x = nI (4 + k) → wp (f_X2_told_68 x σ) (fun r σ1 => wp (f_X3_told x σ1) (fun r' σ2 => r' = r ∧ Inv σ2)) := fun k hk hx => by
    have e4 : x - 4 = nI k := by rw [hx, show (4 : Int32) = nI 4 from rfl, pk_sub (by omega)]; congr 1; omega
    have hin : (4 : Int32).toInt ≤ x.toInt ∧ x.toInt ≤ (7 : Int32).toInt := by rw [hx, ti_nI (by omega), z4, z7]; omega
    unfold f_X2_told_68
    refine wp_lt ?_
    rw [e4]
    by_cases g : okS nk (nI k)
    · obtain ⟨e1, -⟩ := hI.2.2.2.2 k hk
      refine wp_e (noShip_t hn g) (wp_ift rfl (wp_lt (wp_rs k rfl hk (wp_lt (wp_some (R _ ?_))))))
      refine wp_e (in_t hin) (wp_iff (by decide) (wp_lt ?_))
      rw [e4]
      exact wp_e (isShip_t hn g) (wp_iff (by decide) (wp_lt (wp_rd k rfl hk (by decide) (wp_some ⟨e1.2.1.symm, hI⟩))))
    · refine wp_e (noShip_f hn g) (wp_iff (by decide) (wp_some (R _ ?_)))
      refine wp_e (in_t hin) (wp_iff (by decide) (wp_lt ?_))
      rw [e4]
      exact wp_e (isShip_f hn g) (wp_ift rfl (wp_some ⟨rfl, hI⟩))
  unfold Pr f_X2_told
  refine wp_if (fun h => ?_) (fun h0 => wp_if (fun h => ?_) (fun h1 => wp_if (fun h => ?_) (fun h2 => wp_if (fun h => ?_) (fun h3 => wp_if (fun h => tail 0 (by decide) h) (fun h4 => wp_if (fun h => tail 1 (by decide) h) (fun h5 => wp_if (fun h => tail 2 (by decide) h) (fun h6 => wp_if (fun h => tail 3 (by decide) h) (fun h7 => ?_))))))))
  · refine wp_lt (wp_some (R _ (wp_e (in_f ?_) (wp_ift rfl (wp_ift h (wp_lt (wp_some ⟨hI.1.1.symm, hI⟩)))))))
    rw [h]; decide
  · refine wp_lt (wp_some (R _ (wp_e (in_f ?_) (wp_ift rfl (wp_iff h0 (wp_ift h (wp_lt (wp_some ⟨hI.1.2.2.2.2.1.symm, hI⟩))))))))
    rw [h]; decide
  · refine wp_lt (wp_some (R _ (wp_e (in_f ?_) (wp_ift rfl (wp_iff h0 (wp_iff h1 (wp_ift h (wp_lt (wp_some ⟨hI.1.2.2.1.symm, hI⟩)))))))))
    rw [h]; decide
  · refine wp_lt (wp_some (R _ (wp_e (in_f ?_) (wp_ift rfl (wp_iff h0 (wp_iff h1 (wp_iff h2 (wp_ift h (wp_some ⟨rfl, hI⟩)))))))))
    rw [h]; decide
  · refine wp_some (R _ (wp_e (in_f (fun q => ?_)) (wp_ift rfl (wp_iff h0 (wp_iff h1 (wp_iff h2 (wp_iff h3 (wp_some ⟨rfl, hI⟩))))))))
    have e5 : (5 : Int32).toInt = 5 := rfl
    have e6 : (6 : Int32).toInt = 6 := rfl
    rw [ti_eq] at h4 h5 h6 h7
    omega
