/-- the first day of the most suspects, and how many -/
noncomputable def ws (σ : bd_S) (nk : Nat) : Nat → Nat × Nat
  | 0 => (0, 0)
  | d + 1 => if csO σ d nk ≤ (ws σ nk d).2 then ws σ nk d else (d, csO σ d nk)
theorem ws_le {σ : bd_S} {nk : Nat} (hn : nk ≤ 4) : ∀ d, d ≤ 20 → (ws σ nk d).1 ≤ 20 ∧ (ws σ nk d).2 ≤ 12 := by
  intro d
  induction d with
  | zero => intro _; exact ⟨Nat.zero_le _, Nat.zero_le _⟩
  | succ d ih =>
    intro hd
    have h1 := ih (by omega)
    have h2 := csO_le (σ := σ) (d := d) nk
    unfold ws
    split
    · exact h1
    · exact ⟨by show d ≤ 20; omega, by show csO σ d nk ≤ 12; omega⟩
theorem ws_C {σ0 : bd_S} (hI : Inv σ0) {nk : Nat} (hn : hS σ0 nk) {x1 : Int32} {K : Int32 → Int32 → Int32 → bd_S → Option (Int32 × bd_S)} {P : Int32 → bd_S → Prop} (hk : ∀ σ', qU σ0 σ' → wp (K (nI (ws σ0 nk 20).2) (nI (ws σ0 nk 20).1) x1 σ') P) : ∀ (m d n : Nat) (σ : bd_S), d + m = 20 → m < n → qU σ0 σ → wp (f_X2_worst_19 K n (nI d) (nI (ws σ0 nk d).2) (nI (ws σ0 nk d).1) x1 σ) P := by
  intro m
  induction m with
  | zero =>
    intro d n σ hd hn' hU
    obtain ⟨n, rfl⟩ : ∃ z, n = z + 1 := ⟨n - 1, by omega⟩
    have : d = 20 := by omega
    subst this
    unfold f_X2_worst_19
    exact wp_ift ((nle (by decide) (by decide)).mpr (Nat.le_refl 20)) (hk σ hU)
  | succ m ih =>
    intro d n σ hd hn' hU
    obtain ⟨n, rfl⟩ : ∃ z, n = z + 1 := ⟨n - 1, by omega⟩
    have h4 := hn.1
    have hw := ws_le (σ := σ0) h4 d (by omega)
    have hc := csO_le (σ := σ0) (d := d) nk
    unfold f_X2_worst_19
    refine wp_iff (fun q => ?_) (wp_c (s_countSuspects hI (by omega) hn hU) (fun r σ1 q => ?_))
    · have := (nle (a := 20) (by decide) (by omega)).mp q
      omega
    obtain ⟨u, rfl⟩ := q
    refine wp_if (fun q => wp_lt ?_) (fun q => wp_lt ?_)
    · have q := (nle (by omega) (by omega)).mp q
      rw [nI_1]
      have e : ws σ0 nk (d + 1) = ws σ0 nk d := by show (if _ then _ else _) = _; rw [if_pos q]
      rw [← e]
      exact ih (d + 1) n σ1 (by omega) (by omega) u
    · have q : ¬ csO σ0 d nk ≤ (ws σ0 nk d).2 := fun z => q ((nle (by omega) (by omega)).mpr z)
      rw [nI_1]
      have e : ws σ0 nk (d + 1) = (d, csO σ0 d nk) := by show (if _ then _ else _) = _; rw [if_neg q]
      have z := ih (d + 1) n σ1 (by omega) (by omega) u
      rw [e] at z
      exact z
theorem ws_R {σ0 : bd_S} (hI : Inv σ0) {nk : Nat} (hn : hS σ0 nk) {x1 : Int32} {K : Int32 → Int32 → Int32 → bd_S → Option (Int32 × bd_S)} {P : Int32 → bd_S → Prop} (hk : ∀ σ', qU σ0 σ' → wp (K (nI (ws σ0 nk 20).2) (nI (ws σ0 nk 20).1) x1 σ') P) : ∀ (m d n : Nat) (σ : bd_S), 1 ≤ d → d + m = 20 → m < n → qU σ0 σ → wp (f_X3_worst_19 K n (nI d) (nI (ws σ0 nk d).2) (nI (ws σ0 nk d).1) x1 σ) P := by
  intro m
  induction m with
  | zero =>
    intro d n σ h1 hd hn' hU
    obtain ⟨n, rfl⟩ : ∃ z, n = z + 1 := ⟨n - 1, by omega⟩
    have : d = 20 := by omega
    subst this
    unfold f_X3_worst_19
    exact wp_ift ((nle (by decide) (by decide)).mpr (Nat.le_refl 20)) (hk σ hU)
  | succ m ih =>
    intro d n σ h1 hd hn' hU
    obtain ⟨n, rfl⟩ : ∃ z, n = z + 1 := ⟨n - 1, by omega⟩
    have h4 := hn.1
    have hw := ws_le (σ := σ0) h4 d (by omega)
    have hc := csO_le (σ := σ0) (d := d) nk
    unfold f_X3_worst_19
    refine wp_iff (fun q => ?_) (wp_c (s_suspects hI (by omega) hn hU) (fun r σ1 q => ?_))
    · have := (nle (a := 20) (by decide) (by omega)).mp q
      omega
    obtain ⟨u, rfl⟩ := q
    unfold f_X3_worst_46
    refine wp_if (fun q => wp_ift q (wp_lt ?_)) (fun q => wp_iff q (wp_lt ?_))
    · have q := (nle (by omega) (by omega)).mp q
      rw [nI_1]
      have e : ws σ0 nk (d + 1) = ws σ0 nk d := by show (if _ then _ else _) = _; rw [if_pos q]
      rw [← e]
      exact ih (d + 1) n σ1 (by omega) (by omega) (by omega) u
    · have q : ¬ csO σ0 d nk ≤ (ws σ0 nk d).2 := fun z => q ((nle (by omega) (by omega)).mpr z)
      rw [nI_1]
      have e : ws σ0 nk (d + 1) = (d, csO σ0 d nk) := by show (if _ then _ else _) = _; rw [if_neg q]
      have z := ih (d + 1) n σ1 (by omega) (by omega) (by omega) u
      rw [e] at z
      exact z
theorem p_worst {σ : bd_S} (hI : Inv σ) (x : Int32) : Pr (f_X2_worst x) (f_X3_worst x) σ := by
  obtain ⟨nk, hn⟩ := hI.hS
  have h4 := hn.1
  unfold Pr f_X2_worst f_X3_worst
  by_cases h : (0 : Int32).toInt ≤ x.toInt ∧ x.toInt ≤ (1 : Int32).toInt
  · refine wp_e (out_t h) (wp_ift rfl (ws_C hI hn (fun σ1 u => ?_) 20 0 FU_ σ (by decide) (by rw [FU_v]; omega) qU.rf))
    have R : ∀ P : Int32 → bd_S → Prop, (∀ σ2, qU σ σ2 → P (if x = 0 then nI (ws σ nk 20).1 else nI (ws σ nk 20).2) σ2) → wp (bd_b (f_X3_in x 0 1 σ1) (fun z3 s3 => (if z3 = 0 then some ((-2), s3) else f_X3_worst_19 (fun x3e x2e x1e e66 => (if x1e = 0 then some (x2e, e66) else some (x3e, e66))) FU_ 0 (-1) 0 x s3))) P := fun P hP => by
      refine wp_e (in_t h) (wp_iff (by decide) ?_)
      obtain ⟨n, hn'⟩ : ∃ n, FU_ = n + 1 := ⟨9999999, rfl⟩
      have hn1 : 20 < n := by have := FU_v; omega
      rw [hn']
      unfold f_X3_worst_19
      refine wp_iff (by decide) (wp_c (s_suspects (d := 0) hI (by decide) hn u) (fun r σ2 q => ?_))
      obtain ⟨u2, rfl⟩ := q
      have hc := csO_le (σ := σ) (d := 0) nk
      have hm : ¬ nI (csO σ 0 nk) ≤ -1 := by
        rw [ti_le, ti_nI (by omega)]
        have : (-1 : Int32).toInt = -1 := rfl
        omega
      unfold f_X3_worst_46
      refine wp_iff hm (wp_iff hm (wp_lt ?_))
      have e : ws σ nk 1 = (0, csO σ 0 nk) := by
        show (if csO σ 0 nk ≤ 0 then (0, 0) else (0, csO σ 0 nk)) = _
        by_cases z : csO σ 0 nk ≤ 0
        · rw [if_pos z]
          have : csO σ 0 nk = 0 := by omega
          rw [this]
        · rw [if_neg z]
      have z := ws_R hI hn (x1 := x) (P := P) (K := fun x3e x2e x1e e66 => (if x1e = 0 then some (x2e, e66) else some (x3e, e66))) (fun σ3 u3 => ?_) 19 1 n σ2 (by decide) (by decide) (by omega) u2
      · rw [e] at z
        exact z
      · by_cases x0 : x = 0
        · have := hP σ3 u3
          rw [if_pos x0] at this
          exact wp_ift x0 (wp_some this)
        · have := hP σ3 u3
          rw [if_neg x0] at this
          exact wp_iff x0 (wp_some this)
    refine wp_if (fun x0 => wp_some (R _ (fun σ2 u2 => ⟨by rw [if_pos x0], hI.u u2⟩))) (fun x0 => wp_some (R _ (fun σ2 u2 => ⟨by rw [if_neg x0], hI.u u2⟩)))
  · exact wp_e (out_f h) (wp_iff (by decide) (wp_some (wp_e (in_f h) (wp_ift rfl (wp_some ⟨rfl, hI⟩)))))
