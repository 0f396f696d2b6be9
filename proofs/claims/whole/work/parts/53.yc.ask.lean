/-! ASK -/
noncomputable def wdt (σ : bd_S) (d s c : Nat) : Int := Hi σ s c 99 (s63 σ) d - Lo σ s c 99 (s63 σ) d
def akc (σ : bd_S) (d s c : Nat) (p : Int32 × Int) : Prop := isTld σ s c ∧ ¬ gone σ s c 99 (s63 σ) ∧ (p.1 = -6 ∨ wdt σ d s c < p.2)
noncomputable def akT (σ : bd_S) (d s c : Nat) (p : Int32 × Int) : Int32 × Int := @ite _ (akc σ d s c p) (Classical.propDecidable _) (nI (10 * s + c), wdt σ d s c) p
theorem akT_y {σ : bd_S} {d s c : Nat} {p : Int32 × Int} (h : akc σ d s c p) : akT σ d s c p = (nI (10 * s + c), wdt σ d s c) := if_pos h
theorem akT_n {σ : bd_S} {d s c : Nat} {p : Int32 × Int} (h : ¬ akc σ d s c p) : akT σ d s c p = p := if_neg h
noncomputable def akI (σ : bd_S) (d s : Nat) (p : Int32 × Int) : Nat → Int32 × Int
  | 0 => p
  | c + 1 => akT σ d s c (akI σ d s p c)
noncomputable def akO (σ : bd_S) (d : Nat) : Nat → Int32 × Int
  | 0 => (-6, 0)
  | s + 1 => akI σ d s (akO σ d s) 3
theorem ix10 {s c : Nat} : 10 * nI s + nI c = nI (10 * s + c) := by rw [show (10 : Int32) = nI 10 from rfl, pk_mul, nI_add]
theorem LH.w1 {σ σ1 : bd_S} {s c d : Nat} (L : LH σ s c (spl σ1 7) (sph σ1 7)) (hd : d < 20) : (σ1 9 d - σ1 8 d).toInt = wdt σ d s c := by
  have b := L.b hd
  have a := L d (by omega)
  rw [spl_d hd, sph_d hd] at a
  have a1 : (σ1 8 d).toInt = Lo σ s c 99 (s63 σ) d := a.1.1
  have a2 : (σ1 9 d).toInt = Hi σ s c 99 (s63 σ) d := a.1.2
  unfold wdt
  rw [← a1, ← a2, fb_subI] <;> omega
theorem LH.w2 {σ σ1 : bd_S} {s c d : Nat} (L : LH σ s c (cl σ1) (ch σ1)) (hd : d < 20) : (σ1 80 d - σ1 79 d).toInt = wdt σ d s c := by
  have a := L d (by omega)
  have a1 : (σ1 79 d).toInt = Lo σ s c 99 (s63 σ) d := a.1.1
  have a2 : (σ1 80 d).toInt = Hi σ s c 99 (s63 σ) d := a.1.2
  have a3 : -99999 ≤ (σ1 79 d).toInt ∧ (σ1 79 d).toInt ≤ (σ1 80 d).toInt ∧ (σ1 80 d).toInt ≤ 99999 := a.2
  unfold wdt
  rw [← a1, ← a2, fb_subI] <;> omega
theorem ak_C {σ0 : bd_S} (hI : Inv σ0) {d s : Nat} (hd : d < 20) (hs : s < 4) {p : Int32 × Int} {K : Int32 → Int32 → Int32 → Int32 → bd_S → Option (Int32 × bd_S)} {P : Int32 → bd_S → Prop}
    (hk : ∀ x3 x2 σ', qU σ0 σ' → x2 = (akI σ0 d s p 3).1 → x3.toInt = (akI σ0 d s p 3).2 → wp (K (nI s) x3 x2 (nI d) σ') P) : ∀ (m c n : Nat) (σ : bd_S) (x3 x2 : Int32), c + m = 3 → m < n → qU σ0 σ → x2 = (akI σ0 d s p c).1 → x3.toInt = (akI σ0 d s p c).2 → wp (f_X2_ask_29 K n (nI c) (nI s) x3 x2 (nI d) σ) P := by
  intro m
  induction m with
  | zero =>
    intro c n σ x3 x2 hc hn hU h2 h3
    obtain ⟨n, rfl⟩ : ∃ z, n = z + 1 := ⟨n - 1, by omega⟩
    have : c = 3 := by omega
    subst this
    unfold f_X2_ask_29
    exact wp_ift ((nle (by decide) (by decide)).mpr (Nat.le_refl 3)) (hk x3 x2 σ hU h2 h3)
  | succ m ih =>
    intro c n σ x3 x2 hc hn hU h2 h3
    obtain ⟨n, rfl⟩ : ∃ z, n = z + 1 := ⟨n - 1, by omega⟩
    have skip : ∀ σ', qU σ0 σ' → ¬ akc σ0 d s c (akI σ0 d s p c) → wp (f_X2_ask_29 K n (nI (c + 1)) (nI s) x3 x2 (nI d) σ') P := fun σ' hU' z => by
      refine ih (c + 1) n σ' x3 x2 (by omega) (by omega) hU' ?_ ?_
      · unfold akI; rw [akT_n z]; exact h2
      · unfold akI; rw [akT_n z]; exact h3
    have take : ∀ σ' w, qU σ0 σ' → akc σ0 d s c (akI σ0 d s p c) → w.toInt = wdt σ0 d s c → wp (f_X2_ask_100 (f_X2_ask_29 K n) w (nI c) (nI s) (nI d) σ') P := fun σ' w hU' z hw => by
      unfold f_X2_ask_100
      refine wp_lt (wp_lt (wp_lt ?_))
      rw [ix10, nI_1]
      refine ih (c + 1) n σ' w _ (by omega) (by omega) hU' ?_ ?_
      · unfold akI; rw [akT_y z]
      · unfold akI; rw [akT_y z]; exact hw
    unfold f_X2_ask_29
    refine wp_iff (fun q => ?_) (wp_rs s rfl hs (wp_c (s_isTold hI hU.v hs (by omega)) (fun r σ' h => ?_)))
    · have := (nle (a := 3) (by decide) (by omega)).mp q
      omega
    obtain ⟨rfl, h⟩ := h
    rcases h with ⟨rfl, ht⟩ | ⟨rfl, ht⟩
    · refine wp_iff (by decide) (wp_rs s rfl hs (l_C hI hs (by omega) (fun g σ1 u => ?_) (fun g σ1 u L => ?_) hU))
      · exact wp_ift rfl (wp_lt (by rw [nI_1]; exact skip σ1 u (fun z => z.2.1 g)))
      · have w := L.w1 hd
        refine wp_iff (by decide) (wp_rd d rfl hd (by decide) (wp_rd d rfl hd (by decide) (wp_lt (wp_if (fun q => ?_) (fun q => wp_if (fun q' => ?_) (fun q' => ?_))))))
        · exact take σ1 _ u ⟨ht, g, Or.inl (h2.symm.trans q)⟩ w
        · refine wp_lt ?_
          rw [nI_1]
          refine skip σ1 u (fun z => ?_)
          have q' := ti_le.mp q'
          rcases z.2.2 with z | z
          · exact q (h2.trans z)
          · omega
        · have q' : ¬ x3.toInt ≤ _ := fun z => q' (ti_le.mpr z)
          exact take σ1 _ u ⟨ht, g, Or.inr (by omega)⟩ w
    · exact wp_ift rfl (wp_lt (by rw [nI_1]; exact skip σ' hU (fun z => ht z.1)))
