def LH (σ : bd_S) (s c : Nat) (lo hi : Nat → Int) : Prop := ∀ k, k ≤ 20 → (lo k = Lo σ s c 99 (s63 σ) k ∧ hi k = Hi σ s c 99 (s63 σ) k) ∧ (-99999 ≤ lo k ∧ lo k ≤ hi k ∧ hi k ≤ 99999)
theorem LH.d {σ σ1 σ2 : bd_S} {s c d : Nat} (h1 : LH σ s c (spl σ1 7) (sph σ1 7)) (h2 : LH σ s c (cl σ2) (ch σ2)) (hd : d < 20) : σ2 79 d = σ1 8 d ∧ σ2 80 d = σ1 9 d := by
  have a := h1 d (by omega)
  have b := h2 d (by omega)
  rw [spl_d hd, sph_d hd] at a
  exact ⟨ti_eq.mpr (b.1.1.trans a.1.1.symm), ti_eq.mpr (b.1.2.trans a.1.2.symm)⟩
theorem LH.r {σ σ1 σ2 : bd_S} {s c : Nat} (h1 : LH σ s c (spl σ1 7) (sph σ1 7)) (h2 : LH σ s c (cl σ2) (ch σ2)) : σ2 79 20 = σ1 7 2 ∧ σ2 80 20 = σ1 7 3 := by
  have a := h1 20 (by omega)
  have b := h2 20 (by omega)
  rw [spl_r, sph_r] at a
  exact ⟨ti_eq.mpr (b.1.1.trans a.1.1.symm), ti_eq.mpr (b.1.2.trans a.1.2.symm)⟩
theorem LH.b {σ σ1 : bd_S} {s c d : Nat} (h1 : LH σ s c (spl σ1 7) (sph σ1 7)) (hd : d < 20) : (-99999 ≤ (σ1 8 d).toInt ∧ (σ1 8 d).toInt ≤ 99999) ∧ (-99999 ≤ (σ1 9 d).toInt ∧ (σ1 9 d).toInt ≤ 99999) := by
  have a := h1 d (by omega)
  rw [spl_d hd, sph_d hd] at a
  have a : _ ∧ (-99999 ≤ (σ1 8 d).toInt ∧ (σ1 8 d).toInt ≤ (σ1 9 d).toInt ∧ (σ1 9 d).toInt ≤ 99999) := a
  omega
/-- the class learns -/
theorem l_C {α : Type} {σ : bd_S} {s c : Nat} {k : Int32 → bd_S → Option (α × bd_S)} {P : α → bd_S → Prop} (hI : Inv σ) (hs : s < 4) (hc : c < 3) (no : gone σ s c 99 (s63 σ) → ∀ σ1, qU σ σ1 → wp (k 0 σ1) P) (yes : ¬ gone σ s c 99 (s63 σ) → ∀ σ1, qU σ σ1 → LH σ s c (spl σ1 7) (sph σ1 7) → wp (k 1 σ1) P) {σ' : bd_S} (hU : qU σ σ') : wp (bd_b (f_X2_learn (19 + 9 * s) (nI c) σ') k) P := by
  refine wp_c (s_learn hI hU hs hc) (fun r σ1 q => ?_)
  obtain ⟨u, q⟩ := q
  rcases q with ⟨rfl, q, z⟩ | ⟨rfl, q⟩
  · exact yes q σ1 u z
  · exact no q σ1 u
/-- the reference learns -/
theorem l_R {α : Type} {σ : bd_S} {s c : Nat} {k : Int32 → bd_S → Option (α × bd_S)} {P : α → bd_S → Prop} (hI : Inv σ) (hs : s < 4) (hc : c < 3) (no : gone σ s c 99 (s63 σ) → ∀ σ1, qU σ σ1 → wp (k 0 σ1) P) (yes : ¬ gone σ s c 99 (s63 σ) → ∀ σ1, qU σ σ1 → LH σ s c (cl σ1) (ch σ1) → wp (k 1 σ1) P) {σ' : bd_S} (hU : qU σ σ') : wp (bd_b (f_X3_lay (nI s) (nI c) σ') k) P := by
  refine wp_c (s_layU hI hU hs hc) (fun r σ1 q => ?_)
  obtain ⟨u, q⟩ := q
  rcases q with ⟨rfl, q, z⟩ | ⟨rfl, q⟩
  · exact yes q σ1 u z
  · exact no q σ1 u
theorem p_ahead {σ : bd_S} (hI : Inv σ) (x y z w : Int32) : Pr (f_X2_ahead x y z w) (f_X3_ahead x y z w) σ := by
  obtain ⟨nk, hn⟩ := hI.hS
  unfold Pr f_X2_ahead f_X3_ahead
  by_cases h : okS nk x ∧ okC y
  · refine wp_e (noClock_t hn h.1 h.2) (wp_ift rfl ?_)
    by_cases g : okD z
    · refine wp_e (noDay_t g) (wp_ift rfl ?_)
      by_cases f : okE w
      · refine wp_e (noEnd_t f) (wp_ift rfl ?_)
        obtain ⟨s, hs, rfl⟩ := h.1.n hn.1
        obtain ⟨c, hc, rfl⟩ := h.2.n
        obtain ⟨d, hd, rfl⟩ := g.n
        have hs4 : s < 4 := by have := hn.1; omega
        refine wp_rs s rfl hs4 (l_C hI hs4 hc (fun q σ1 u => ?_) (fun q σ1 u L => ?_) qU.rf)
        · refine wp_ift rfl (wp_some (wp_e (isOne_t (hn.u u) h g) (wp_iff (by decide) (wp_e (isEnd_t f) (wp_iff (by decide) (l_R hI hs4 hc (fun _ σ2 u2 => ?_) (fun q' => absurd q q') u))))))
          exact wp_ift rfl (wp_some ⟨rfl, hI.u u2⟩)
        · refine wp_iff (by decide) (wp_if (fun w0 => ?_) (fun w0 => ?_))
          · refine wp_rd d rfl hd (by decide) (wp_some (wp_e (isOne_t (hn.u u) h g) (wp_iff (by decide) (wp_e (isEnd_t f) (wp_iff (by decide) (l_R hI hs4 hc (fun q' => absurd q' q) (fun _ σ2 u2 L2 => ?_) u))))))
            exact wp_iff (by decide) (wp_ift w0 (wp_rd d rfl (by omega) (by decide) (wp_some ⟨(L.d L2 hd).1, hI.u u2⟩)))
          · refine wp_rd d rfl hd (by decide) (wp_some (wp_e (isOne_t (hn.u u) h g) (wp_iff (by decide) (wp_e (isEnd_t f) (wp_iff (by decide) (l_R hI hs4 hc (fun q' => absurd q' q) (fun _ σ2 u2 L2 => ?_) u))))))
            exact wp_iff (by decide) (wp_iff w0 (wp_rd d rfl (by omega) (by decide) (wp_some ⟨(L.d L2 hd).2, hI.u u2⟩)))
      · exact wp_e (noEnd_f f) (wp_iff (by decide) (wp_some (wp_e (isOne_t hn h g) (wp_iff (by decide) (wp_e (isEnd_f f) (wp_ift rfl (wp_some ⟨rfl, hI⟩)))))))
    · exact wp_e (noDay_f g) (wp_iff (by decide) (wp_some (wp_e (isOne_f hn (fun z => g z.2)) (wp_ift rfl (wp_some ⟨rfl, hI⟩)))))
  · exact wp_e (noClock_f hn h) (wp_iff (by decide) (wp_some (wp_e (isOne_f hn (fun z => h z.1)) (wp_ift rfl (wp_some ⟨rfl, hI⟩)))))
theorem p_gains {σ : bd_S} (hI : Inv σ) (x y w : Int32) : Pr (f_X2_gains x y w) (f_X3_gains x y w) σ := by
  obtain ⟨nk, hn⟩ := hI.hS
  unfold Pr f_X2_gains f_X3_gains
  by_cases h : okS nk x
  · by_cases g : okC y
    · refine wp_e (noClock_t hn h g) (wp_ift rfl ?_)
      by_cases f : okE w
      · refine wp_e (noEnd_t f) (wp_ift rfl ?_)
        obtain ⟨s, hs, rfl⟩ := h.n hn.1
        obtain ⟨c, hc, rfl⟩ := g.n
        have hs4 : s < 4 := by have := hn.1; omega
        refine wp_rs s rfl hs4 (l_C hI hs4 hc (fun q σ1 u => ?_) (fun q σ1 u L => ?_) qU.rf)
        · refine wp_ift rfl (wp_some (wp_e (isShip_t (hn.u u) h) (wp_iff (by decide) (wp_e (isClock_t g) (wp_iff (by decide) (wp_e (isEnd_t f) (wp_iff (by decide) (l_R hI hs4 hc (fun _ σ2 u2 => ?_) (fun q' => absurd q q') u))))))))
          exact wp_ift rfl (wp_some ⟨rfl, hI.u u2⟩)
        · refine wp_iff (by decide) (wp_if (fun w0 => ?_) (fun w0 => ?_))
          · refine wp_lt (wp_some (wp_e (isShip_t (hn.u u) h) (wp_iff (by decide) (wp_e (isClock_t g) (wp_iff (by decide) (wp_e (isEnd_t f) (wp_iff (by decide) (l_R hI hs4 hc (fun q' => absurd q' q) (fun _ σ2 u2 L2 => ?_) u))))))))
            exact wp_iff (by decide) (wp_ift w0 (wp_rd 20 rfl (by decide) (by decide) (wp_some ⟨(L.r L2).1, hI.u u2⟩)))
          · refine wp_lt (wp_some (wp_e (isShip_t (hn.u u) h) (wp_iff (by decide) (wp_e (isClock_t g) (wp_iff (by decide) (wp_e (isEnd_t f) (wp_iff (by decide) (l_R hI hs4 hc (fun q' => absurd q' q) (fun _ σ2 u2 L2 => ?_) u))))))))
            exact wp_iff (by decide) (wp_iff w0 (wp_rd 20 rfl (by decide) (by decide) (wp_some ⟨(L.r L2).2, hI.u u2⟩)))
      · exact wp_e (noEnd_f f) (wp_iff (by decide) (wp_some (wp_e (isShip_t hn h) (wp_iff (by decide) (wp_e (isClock_t g) (wp_iff (by decide) (wp_e (isEnd_f f) (wp_ift rfl (wp_some ⟨rfl, hI⟩)))))))))
    · exact wp_e (noClock_f hn (fun z => g z.2)) (wp_iff (by decide) (wp_some (wp_e (isShip_t hn h) (wp_iff (by decide) (wp_e (isClock_f g) (wp_ift rfl (wp_some ⟨rfl, hI⟩)))))))
  · exact wp_e (noClock_f hn (fun z => h z.1)) (wp_iff (by decide) (wp_some (wp_e (isShip_f hn h) (wp_ift rfl (wp_some ⟨rfl, hI⟩)))))
/-! places -/
theorem sub_bd {x y : Int32} (hx : -99999 ≤ x.toInt ∧ x.toInt ≤ 99999) (hy : -99999 ≤ y.toInt ∧ y.toInt ≤ 99999) : (x - y).toInt = x.toInt - y.toInt ∧ -1000000000 ≤ (x - y).toInt ∧ (x - y).toInt ≤ 1000000000 := by
  have e : (x - y).toInt = x.toInt - y.toInt := by rw [fb_subI] <;> omega
  rw [e]
  exact ⟨rfl, by omega, by omega⟩
theorem s_leastMiles {σ : bd_S} {x : Int32} {d : Nat} (hd : d < 20) (hx : -99999 ≤ x.toInt ∧ x.toInt ≤ 99999) (hy : -99999 ≤ (σ 9 d).toInt ∧ (σ 9 d).toInt ≤ 99999) : wp (f_X2_leastMiles x (nI d) σ) (fun r σ' => σ' = σ ∧ r.toInt = (x.toInt - (σ 9 d).toInt) / 4) := by
  have b := sub_bd hx hy
  unfold f_X2_leastMiles
  refine wp_rd d rfl hd (by decide) (wp_lt (wp_c (s_floorDiv (by decide) b.2) (fun r σ' h => wp_some ⟨h.1, ?_⟩)))
  rw [h.2, b.1]; rfl
theorem s_greatestMiles {σ : bd_S} {x : Int32} {d : Nat} (hd : d < 20) (hx : -99999 ≤ x.toInt ∧ x.toInt ≤ 99999) (hy : -99999 ≤ (σ 8 d).toInt ∧ (σ 8 d).toInt ≤ 99999) : wp (f_X2_greatestMiles x (nI d) σ) (fun r σ' => σ' = σ ∧ r.toInt = -(-(x.toInt - (σ 8 d).toInt) / 4)) := by
  have b := sub_bd hx hy
  unfold f_X2_greatestMiles
  refine wp_rd d rfl hd (by decide) (wp_lt (wp_c (s_cutUp (by decide) b.2) (fun r σ' h => wp_some ⟨h.1, ?_⟩)))
  rw [h.2, b.1]; rfl
theorem s_placeOf0 {σ : bd_S} {x : Int32} {d : Nat} (hd : d < 20) (hx : -99999 ≤ x.toInt ∧ x.toInt ≤ 99999) (hy : -99999 ≤ (σ 80 d).toInt ∧ (σ 80 d).toInt ≤ 99999) : wp (f_X3_placeOf (nI d) x 0 σ) (fun r σ' => σ' = σ ∧ r.toInt = (x.toInt - (σ 80 d).toInt) / 4) := by
  have b := sub_bd hx hy
  unfold f_X3_placeOf
  refine wp_ift rfl (wp_rd d rfl (by omega) (by decide) (wp_lt (wp_c (s_down (by decide) b.2) (fun r σ' h => wp_some ⟨h.1, ?_⟩))))
  rw [h.2, b.1]; rfl
theorem s_placeOf1 {σ : bd_S} {x w : Int32} {d : Nat} (hw : ¬ w = 0) (hd : d < 20) (hx : -99999 ≤ x.toInt ∧ x.toInt ≤ 99999) (hy : -99999 ≤ (σ 79 d).toInt ∧ (σ 79 d).toInt ≤ 99999) : wp (f_X3_placeOf (nI d) x w σ) (fun r σ' => σ' = σ ∧ r.toInt = -(-(x.toInt - (σ 79 d).toInt) / 4)) := by
  have b := sub_bd hx hy
  unfold f_X3_placeOf
  refine wp_iff hw (wp_rd d rfl (by omega) (by decide) (wp_lt (wp_c (s_up (by decide) b.2) (fun r σ' h => wp_some ⟨h.1, ?_⟩))))
  rw [h.2, b.1]; rfl
