/-! LEARN of the class -/
theorem s_open_2 {L : Nat} {a b : Int32} {σ0 : bd_S} : ∀ (m d n : Nat) (σ : bd_S), d + m = 20 → m < n → (∀ r, r ≠ L + 1 → r ≠ L + 2 → σ r = σ0 r) → (∀ k, k < d → σ (L + 1) k = -a ∧ σ (L + 2) k = a) →
    wp (f_X0_open_2 (fun L0e x2e e29 => bd_lt (-x2e : Int32) (fun z31 => bd_lt (bd_st e29 L0e 2 z31) (fun s32 => bd_lt (bd_st s32 L0e 3 x2e) (fun s37 => some ((), s37))))) n (nI d) L a b σ) (fun _ σ' => fL L σ0 σ' ∧ (∀ k, k < 20 → σ' (L + 1) k = -a ∧ σ' (L + 2) k = a) ∧ σ' L 2 = -b ∧ σ' L 3 = b ∧ ∀ k, k ≠ 2 → k ≠ 3 → σ' L k = σ0 L k) := by
  intro m
  induction m with
  | zero =>
    intro d n σ hd hn h1 h2
    obtain ⟨n, rfl⟩ : ∃ z, n = z + 1 := ⟨n - 1, by omega⟩
    have : d = 20 := by omega
    subst this
    unfold f_X0_open_2
    refine wp_ift ((nle (by decide) (by decide)).mpr (Nat.le_refl 20)) (wp_lt (wp_lt (wp_lt (wp_some ⟨fun r q1 q2 q3 => ?_, fun k hk => ?_, ?_, st_same, fun k q1 q2 => ?_⟩))))
    · rw [st_ne q1, st_ne q1]; exact h1 r q2 q3
    · rw [st_ne (by omega), st_ne (by omega), st_ne (by omega), st_ne (by omega)]; exact h2 k hk
    · rw [st_off (by decide), st_same]
    · rw [st_off q2, st_off q1, h1 L (by omega) (by omega)]
  | succ m ih =>
    intro d n σ hd hn h1 h2
    obtain ⟨n, rfl⟩ : ∃ z, n = z + 1 := ⟨n - 1, by omega⟩
    unfold f_X0_open_2
    refine wp_iff (fun q => ?_) (wp_lt (wp_wr d rfl (by omega) (by decide) (wp_wr d rfl (by omega) (by decide) (wp_lt ?_))))
    · have := (nle (a := 20) (by decide) (by omega)).mp q
      omega
    rw [nI_1]
    refine ih (d + 1) n _ (by omega) (by omega) (fun r q1 q2 => by rw [st_ne q2, st_ne q1]; exact h1 r q1 q2) (fun k hk => ?_)
    rw [st_ne (show L + 1 ≠ L + 2 by omega)]
    by_cases e : k = d
    · subst e; rw [st_same, st_same]; exact ⟨rfl, rfl⟩
    · rw [st_off e, st_off e, st_ne (show L + 2 ≠ L + 1 by omega)]; exact h2 k (by omega)
theorem s_open {L : Nat} {a b : Int32} {σ : bd_S} : wp (f_X0_open L a b σ) (fun _ σ' => fL L σ σ' ∧ (∀ k, k < 20 → σ' (L + 1) k = -a ∧ σ' (L + 2) k = a) ∧ σ' L 2 = -b ∧ σ' L 3 = b ∧ ∀ k, k ≠ 2 → k ≠ 3 → σ' L k = σ L k) := by
  unfold f_X0_open
  exact s_open_2 20 0 FU_ σ (by decide) (by rw [FU_v]; omega) (fun _ _ _ => rfl) (fun k hk => absurd hk (Nat.not_lt_zero k))
theorem fL.u {L : Nat} {σ σ' : bd_S} (hL : L = 4 ∨ L = 7) (h : fL L σ σ') : qU σ σ' := fun r k q => by
  unfold qS at q
  rw [h r (by omega) (by omega) (by omega)]
/-- how late, without a slip of another kind -/
def s63 (σ : bd_S) : Nat → Int := fun d => (σ 63 d).toInt
/-- the class's rows as the reference's -/
def qC (σ0 σ : bd_S) : Prop := (∀ d, d < 20 → σ 2 d = σ0 59 d ∧ σ 3 d = σ0 60 d) ∧ (∀ k, σ 10 k = σ0 61 k) ∧ (∀ k, σ 11 k = σ0 62 k) ∧ (∀ k, σ 12 k = σ0 63 k ∧ -60 ≤ (σ0 63 k).toInt ∧ (σ0 63 k).toInt ≤ 60) ∧ (∀ k, σ 13 k = σ0 65 k)
theorem qC.of {σ0 σ : bd_S} (hC : IC σ0) (hD : ID σ0) (hV : qV σ0 σ) : qC σ0 σ := by
  obtain ⟨c1, c2, c3, c4, -, -⟩ := hC
  refine ⟨fun d hd => ?_, fun k => ?_, fun k => ?_, fun k => ⟨?_, (c3 k).2⟩, fun k => ?_⟩
  · rw [hV.at (by decide), hV.at (by decide)]; exact hD.1 d hd
  · rw [hV.at (by decide)]; exact (c1 k).1
  · rw [hV.at (by decide)]; exact (c2 k).1
  · rw [hV.at (by decide)]; exact (c3 k).1
  · rw [hV.at (by decide)]; exact (c4 k).1
theorem qC.v {σ0 σ σ' : bd_S} (h : qC σ0 σ) (hV : qV σ σ') : qC σ0 σ' := by
  obtain ⟨c0, c1, c2, c3, c4⟩ := h
  refine ⟨fun d hd => ?_, fun k => ?_, fun k => ?_, fun k => ⟨?_, (c3 k).2⟩, fun k => ?_⟩
  · rw [hV.at (by decide), hV.at (by decide)]; exact c0 d hd
  · rw [hV.at (by decide)]; exact c1 k
  · rw [hV.at (by decide)]; exact c2 k
  · rw [hV.at (by decide)]; exact (c3 k).1
  · rw [hV.at (by decide)]; exact c4 k
theorem s_middleOff {σ0 σ : bd_S} {d : Nat} (hd : d < 20) (hL : qL σ0) (hC : qC σ0 σ) : wp (f_X2_middleOff (nI d) σ) (fun r σ' => σ' = σ ∧ r.toInt = mdo σ0 d) := by
  have h1 := hL.1 d hd
  have e := hC.1 d hd
  have e1 : (σ 2 d + σ 3 d).toInt = (σ0 59 d).toInt + (σ0 60 d).toInt := by
    rw [e.1, e.2, fb_addI] <;> omega
  unfold f_X2_middleOff
  refine wp_rd d rfl hd (by decide) (wp_rd d rfl hd (by decide) (wp_lt (wp_c (s_floorDiv (by decide) (by rw [e1]; omega)) (fun r σ' h => wp_some ⟨h.1, ?_⟩))))
  rw [h.2, e1]
  rfl
theorem s_greatestLate {σ0 σ : bd_S} {d : Nat} (hd : d < 20) (hL : qL σ0) (hC : qC σ0 σ) : wp (f_X2_greatestLate (nI d) σ) (fun r σ' => σ' = σ ∧ r.toInt = glt σ0 (s63 σ0) d) := by
  have h1 := hL.1 d hd
  have h4 := hL.2.2 0
  have h5 := hL.2.2 1
  have h6 := hC.2.2.2.1 d
  have hB := lt_bd (sl := s63 σ0) hL hd (by show -180 ≤ (σ0 63 d).toInt ∧ (σ0 63 d).toInt ≤ 180; omega)
  unfold f_X2_greatestLate
  refine wp_c (s_middleOff hd hL hC) (fun m σ' hm => ?_)
  obtain ⟨rfl, hm⟩ := hm
  refine wp_rd d rfl hd (by decide) (wp_lt (wp_rd 0 rfl (by decide) (by decide) (wp_lt (wp_rd 1 rfl (by decide) (by decide) (wp_lt (wp_rd d rfl hd (by decide) (wp_lt (wp_some ⟨rfl, ?_⟩))))))))
  rw [(hC.1 d hd).1, hC.2.2.1 0, hC.2.2.1 1, h6.1]
  have x1 : (m - σ0 59 d).toInt = mdo σ0 d - (σ0 59 d).toInt := by rw [fb_subI, hm] <;> rw [hm] <;> omega
  have x2 : (m - σ0 59 d + σ0 62 0).toInt = mdo σ0 d - (σ0 59 d).toInt + (σ0 62 0).toInt := by rw [fb_addI, x1] <;> rw [x1] <;> omega
  have x3 : (m - σ0 59 d + σ0 62 0 + σ0 62 1).toInt = mdo σ0 d - (σ0 59 d).toInt + (σ0 62 0).toInt + (σ0 62 1).toInt := by rw [fb_addI, x2] <;> rw [x2] <;> omega
  rw [fb_addI, x3]
  · rfl
  · rw [x3]; omega
  · rw [x3]; omega
theorem s_leastLate {σ0 σ : bd_S} {d : Nat} (hd : d < 20) (hL : qL σ0) (hC : qC σ0 σ) : wp (f_X2_leastLate (nI d) σ) (fun r σ' => σ' = σ ∧ r.toInt = llt σ0 (s63 σ0) d) := by
  have h1 := hL.1 d hd
  have h4 := hL.2.1 0
  have h5 := hL.2.1 1
  have h6 := hC.2.2.2.1 d
  have hB := lt_bd (sl := s63 σ0) hL hd (by show -180 ≤ (σ0 63 d).toInt ∧ (σ0 63 d).toInt ≤ 180; omega)
  unfold f_X2_leastLate
  refine wp_c (s_middleOff hd hL hC) (fun m σ' hm => ?_)
  obtain ⟨rfl, hm⟩ := hm
  refine wp_rd d rfl hd (by decide) (wp_lt (wp_rd 0 rfl (by decide) (by decide) (wp_lt (wp_rd 1 rfl (by decide) (by decide) (wp_lt (wp_rd d rfl hd (by decide) (wp_lt (wp_some ⟨rfl, ?_⟩))))))))
  rw [(hC.1 d hd).2, hC.2.1 0, hC.2.1 1, h6.1]
  have x1 : (m - σ0 60 d).toInt = mdo σ0 d - (σ0 60 d).toInt := by rw [fb_subI, hm] <;> rw [hm] <;> omega
  have x2 : (m - σ0 60 d + σ0 61 0).toInt = mdo σ0 d - (σ0 60 d).toInt + (σ0 61 0).toInt := by rw [fb_addI, x1] <;> rw [x1] <;> omega
  have x3 : (m - σ0 60 d + σ0 61 0 + σ0 61 1).toInt = mdo σ0 d - (σ0 60 d).toInt + (σ0 61 0).toInt + (σ0 61 1).toInt := by rw [fb_addI, x2] <;> rw [x2] <;> omega
  rw [fb_addI, x3]
  · rfl
  · rw [x3]; omega
  · rw [x3]; omega
/-- a mark counts, no day left out -/
def cn0 (σ : bd_S) (s q : Nat) : Prop := σ 69 q = 3 ∨ σ 64 (dy σ q) = 0 ∨ σ 72 (20 * s + dy σ q) = 0
theorem s_counts {σ0 σ : bd_S} {s k : Nat} (hs : s < 4) (hk : k < 12) (hR : NR σ0 s k (12 * s + k)) (hB : IB σ0) (hF : IF σ0 s) (hV : qV σ0 σ) : wp (f_X2_counts (19 + 9 * s) (nI k) σ) (fun r σ' => σ' = σ ∧ ((r = 1 ∧ cn0 σ0 s (12 * s + k)) ∨ (r = 0 ∧ ¬ cn0 σ0 s (12 * s + k)))) := by
  obtain ⟨-, ⟨n1, n2⟩, n3, n4, -⟩ := hR
  unfold f_X2_counts cn0
  refine wp_rd k rfl hk (by decide) ?_
  rw [hV.at (r := 19 + 9 * s + 3) (by omega)]
  refine wp_if (fun h => wp_zr (Or.inr rfl) ⟨rfl, Or.inl ⟨rfl, Or.inl (n4.mp h)⟩⟩) (fun h => wp_lt (wp_lt (wp_lt (wp_rd k rfl hk (by decide) (wp_lt (wp_lt ?_))))))
  have h3 : ¬ σ0 69 (12 * s + k) = 3 := fun z => h (n4.mpr z)
  rw [hV.at (r := 19 + 9 * s + 2) (by omega), n3, n2, hV.at (r := 0) (by decide), hV.at (r := 19 + 9 * s) (by omega)]
  have hb : (σ0 0 14 &&& σ0 (19 + 9 * s) 9) &&& (1 <<< (nI (dy σ0 (12 * s + k)) &&& 31)) = 0 ↔ (σ0 64 (dy σ0 (12 * s + k)) = 0 ∨ σ0 72 (20 * s + dy σ0 (12 * s + k)) = 0) := by
    rw [k_has (by omega), k_and, hB.1 _ (by omega), hF.1 _ (by omega)]
    by_cases a : σ0 64 (dy σ0 (12 * s + k)) = 0
    · simp [a]
    · by_cases b : σ0 72 (20 * s + dy σ0 (12 * s + k)) = 0
      · simp [b]
      · simp [a, b, n1]
  refine wp_if (fun g => wp_zr (Or.inr rfl) ⟨rfl, Or.inl ⟨rfl, Or.inr (hb.mp g)⟩⟩) (fun g => wp_zr (Or.inl rfl) ⟨rfl, Or.inr ⟨rfl, ?_⟩⟩)
  rintro (z | z)
  · exact h3 z
  · exact g (hb.mpr z)
