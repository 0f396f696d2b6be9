def ak0 (p : Int32 × Int) : Prop := p.1 = -6 ∨ 0 ≤ p.1.toInt
theorem akI_0 {σ : bd_S} {d s : Nat} (hs : s < 4) {p : Int32 × Int} (h : ak0 p) : ∀ c, c ≤ 3 → ak0 (akI σ d s p c) := by
  intro c
  induction c with
  | zero => intro _; exact h
  | succ c ih =>
    intro hc
    unfold akI
    by_cases z : akc σ d s c (akI σ d s p c)
    · rw [akT_y z]
      refine Or.inr ?_
      show 0 ≤ (nI (10 * s + c)).toInt
      rw [ti_nI (by omega)]
      omega
    · rw [akT_n z]; exact ih (by omega)
theorem akO_0 {σ : bd_S} {d : Nat} : ∀ s, s ≤ 4 → ak0 (akO σ d s) := by
  intro s
  induction s with
  | zero => intro _; exact Or.inl rfl
  | succ s ih => intro hs; exact akI_0 (by omega) (ih (by omega)) 3 (by omega)
theorem neg6 {x : Int32} (h : x = -6 ∨ 0 ≤ x.toInt) : x < 0 ↔ x = -6 := by
  have e0 : (0 : Int32).toInt = 0 := rfl
  have e6 : (-6 : Int32).toInt = -6 := rfl
  rw [ti_lt, e0]
  rcases h with h | h
  · rw [h, e6]; simp
  · constructor
    · intro q; omega
    · intro q; rw [q, e6] at h; omega
theorem ak_R {σ0 : bd_S} (hI : Inv σ0) {d s : Nat} (hd : d < 20) (hs : s < 4) {p : Int32 × Int} (hp : ak0 p) {K : Int32 → Int32 → Int32 → Int32 → bd_S → Option (Int32 × bd_S)} {P : Int32 → bd_S → Prop}
    (hk : ∀ x3 x2 σ', qU σ0 σ' → x2 = (akI σ0 d s p 3).1 → x3.toInt = (akI σ0 d s p 3).2 → wp (K (nI s) x3 x2 (nI d) σ') P) : ∀ (m c n : Nat) (σ : bd_S) (x3 x2 : Int32), c + m = 3 → m < n → qU σ0 σ → x2 = (akI σ0 d s p c).1 → x3.toInt = (akI σ0 d s p c).2 → wp (f_X3_ask_29 K n (nI c) (nI s) x3 x2 (nI d) σ) P := by
  intro m
  induction m with
  | zero =>
    intro c n σ x3 x2 hc hn hU h2 h3
    obtain ⟨n, rfl⟩ : ∃ z, n = z + 1 := ⟨n - 1, by omega⟩
    have : c = 3 := by omega
    subst this
    unfold f_X3_ask_29
    exact wp_ift ((nle (by decide) (by decide)).mpr (Nat.le_refl 3)) (hk x3 x2 σ hU h2 h3)
  | succ m ih =>
    intro c n σ x3 x2 hc hn hU h2 h3
    obtain ⟨n, rfl⟩ : ∃ z, n = z + 1 := ⟨n - 1, by omega⟩
    have h6 := akI_0 (σ := σ0) (d := d) hs hp c (by omega)
    have skip : ∀ σ', qU σ0 σ' → ¬ akc σ0 d s c (akI σ0 d s p c) → wp (f_X3_ask_29 K n (nI (c + 1)) (nI s) x3 x2 (nI d) σ') P := fun σ' hU' z => by
      refine ih (c + 1) n σ' x3 x2 (by omega) (by omega) hU' ?_ ?_
      · unfold akI; rw [akT_n z]; exact h2
      · unfold akI; rw [akT_n z]; exact h3
    have take : ∀ σ', qU σ0 σ' → akc σ0 d s c (akI σ0 d s p c) → (σ' 80 d - σ' 79 d).toInt = wdt σ0 d s c → wp (f_X3_ask_78 (f_X3_ask_29 K n) (nI c) (nI s) (nI d) σ') P := fun σ' hU' z hw => by
      unfold f_X3_ask_78
      refine wp_lt (wp_lt (wp_rd d rfl (by omega) (by decide) (wp_rd d rfl (by omega) (by decide) (wp_lt (wp_lt ?_)))))
      rw [ix10, nI_1]
      refine ih (c + 1) n σ' _ _ (by omega) (by omega) hU' ?_ ?_
      · unfold akI; rw [akT_y z]
      · unfold akI; rw [akT_y z]; exact hw
    unfold f_X3_ask_29
    refine wp_iff (fun q => ?_) (wp_c (s_isMarked hI hU.r ((hU 55 30 (by unfold qS; omega)).trans hI.1.2.2.2.2.2.2.1) hs (by omega)) (fun r σ' h => ?_))
    · have := (nle (a := 3) (by decide) (by omega)).mp q
      omega
    obtain ⟨rfl, h⟩ := h
    rcases h with ⟨rfl, ht⟩ | ⟨rfl, ht⟩
    · refine wp_iff (by decide) (l_R hI hs (by omega) (fun g σ1 u => ?_) (fun g σ1 u L => ?_) hU)
      · exact wp_ift rfl (wp_lt (by rw [nI_1]; exact skip σ1 u (fun z => z.2.1 g)))
      · have w := L.w2 hd
        refine wp_iff (by decide) (wp_if (fun q => ?_) (fun q => ?_))
        · have q := (neg6 (by rw [h2]; exact h6)).mp q
          exact take σ1 u ⟨ht, g, Or.inl (h2.symm.trans q)⟩ w
        · have q : ¬ x2 = -6 := fun z => q ((neg6 (by rw [h2]; exact h6)).mpr z)
          refine wp_rd d rfl (by omega) (by decide) (wp_rd d rfl (by omega) (by decide) (wp_lt (wp_if (fun q' => wp_lt ?_) (fun q' => ?_))))
          · rw [nI_1]
            refine skip σ1 u (fun z => ?_)
            have q' := ti_le.mp q'
            rcases z.2.2 with z | z
            · exact q (h2.trans z)
            · omega
          · have q' : ¬ x3.toInt ≤ _ := fun z => q' (ti_le.mpr z)
            exact take σ1 u ⟨ht, g, Or.inr (by omega)⟩ w
    · exact wp_ift rfl (wp_lt (by rw [nI_1]; exact skip σ' hU (fun z => ht z.1)))
