/-! ODDS -/
noncomputable def SW (σ : bd_S) (s : Nat) : Nat → Nat
  | 0 => 0
  | t + 1 => SW σ s t + Wt σ s t
theorem SW_le {σ : bd_S} (hI : Inv σ) {s : Nat} (hs : s < 4) : ∀ t, SW σ s t ≤ 729 * t := by
  intro t
  induction t with
  | zero => exact Nat.le_refl 0
  | succ t ih =>
    have h := Wt_le hI (t := t) hs
    show SW σ s t + Wt σ s t ≤ _
    omega
theorem SW_ge {σ : bd_S} {s : Nat} : ∀ t, SW σ s 1 ≤ SW σ s (t + 1) := by
  intro t
  induction t with
  | zero => exact Nat.le_refl _
  | succ t ih =>
    show _ ≤ SW σ s (t + 1) + Wt σ s (t + 1)
    omega
theorem SW_pos {σ : bd_S} (hI : Inv σ) {s : Nat} (hs : s < 4) : 1 ≤ SW σ s 8 := by
  have h1 : SW σ s 1 ≤ SW σ s 8 := SW_ge (σ := σ) (s := s) 7
  have h2 := Wt_0 hI hs
  have h3 : SW σ s 1 = 0 + Wt σ s 0 := rfl
  omega
theorem gcd_step {a b : Nat} : Nat.gcd b (a % b) = Nat.gcd a b := by
  rw [Nat.gcd_comm a b, Nat.gcd_rec b a, Nat.gcd_comm]
theorem half {a b : Nat} (hb : 0 < b) (hab : b ≤ a) : 2 * (b * (a % b)) ≤ a * b := by
  have h1 := Nat.div_add_mod a b
  have h2 := Nat.mod_lt a hb
  have h3 : b * 1 ≤ b * (a / b) := Nat.mul_le_mul_left b ((Nat.one_le_div_iff hb).mpr hab)
  have h4 : 2 * (a % b) ≤ a := by omega
  have h5 : b * (2 * (a % b)) ≤ b * a := Nat.mul_le_mul_left b h4
  rw [Nat.mul_comm a b, ← Nat.mul_assoc, Nat.mul_comm 2 b, Nat.mul_assoc]
  exact h5
theorem one_max {a : Nat} (h : 1 ≤ a) (ha : a < 10000) : (if (1 : Int32) < nI a then nI a else 1) = nI a := by
  by_cases e : a = 1
  · subst e; rfl
  · exact if_pos ((nI_ltI (a := 1) (by decide) (by omega)).mpr (by omega))
theorem gd_C {σ : bd_S} : ∀ (m i a b n : Nat), b ≤ a → a * b < 2 ^ m → a < 10000 → 1 ≤ Nat.gcd a b → i + m ≤ 99 → m < n → wp (f_X2_greatestDivisor_7 n (nI i) (nI b) (nI a) σ) (fun r σ' => σ' = σ ∧ r = nI (Nat.gcd a b)) := by
  intro m
  induction m with
  | zero =>
    intro i a b n hba hm ha hg hi hn
    obtain ⟨n, rfl⟩ : ∃ z, n = z + 1 := ⟨n - 1, by omega⟩
    have hb : b = 0 := by
      rcases Nat.eq_zero_or_pos b with h | h
      · exact h
      · have := Nat.mul_le_mul (show 1 ≤ a by omega) h
        omega
    subst hb
    rw [Nat.gcd_zero_right] at hg ⊢
    unfold f_X2_greatestDivisor_7
    refine wp_iff (fun q => ?_) (wp_ift rfl (wp_lt ?_))
    · have := (nle (a := 100) (by decide) (by omega)).mp q
      omega
    · rw [one_max hg ha]
      exact wp_some ⟨rfl, rfl⟩
  | succ m ih =>
    intro i a b n hba hm ha hg hi hn
    obtain ⟨n, rfl⟩ : ∃ z, n = z + 1 := ⟨n - 1, by omega⟩
    unfold f_X2_greatestDivisor_7
    refine wp_iff (fun q => ?_) (wp_if (fun q => wp_lt ?_) (fun q => ?_))
    · have := (nle (a := 100) (by decide) (by omega)).mp q
      omega
    · have hb : b = 0 := (nI_eq (b := 0) (by omega) (by decide)).mp q
      subst hb
      rw [Nat.gcd_zero_right] at hg ⊢
      rw [one_max hg ha]
      exact wp_some ⟨rfl, rfl⟩
    · have hb : ¬ b = 0 := fun z => q (by rw [z]; rfl)
      have h2 := half (a := a) (b := b) (by omega) hba
      rw [Nat.pow_succ] at hm
      refine wp_rm q (wp_lt ?_)
      rw [pk_rem (by omega) (by omega) (by omega), nI_1, ← gcd_step]
      exact ih (i + 1) b (a % b) n (Nat.le_of_lt (Nat.mod_lt a (by omega))) (by omega) (by omega) (by rw [gcd_step]; exact hg) (by omega) (by omega)
theorem s_gd {σ : bd_S} {a b : Nat} (ha : a < 10000) (hb : 1 ≤ b) (hb' : b < 8000) : wp (f_X2_greatestDivisor (nI a) (nI b) σ) (fun r σ' => σ' = σ ∧ r = nI (Nat.gcd a b)) := by
  have hg : 1 ≤ Nat.gcd a b := Nat.gcd_pos_of_pos_right a (by omega)
  have hq : ¬ nI b = 0 := fun z => by
    have := (nI_eq (b := 0) (by omega) (by decide)).mp z
    omega
  have hm := Nat.mod_lt a (show b > 0 by omega)
  obtain ⟨n, hn⟩ : ∃ n, FU_ = n + 1 := ⟨9999999, rfl⟩
  have hn1 : 50 < n := by have := FU_v; omega
  unfold f_X2_greatestDivisor
  rw [hn]
  unfold f_X2_greatestDivisor_7
  refine wp_iff (by decide) (wp_iff hq (wp_rm hq (wp_lt ?_)))
  rw [pk_rem (by omega) (by omega) (by omega), ← gcd_step]
  refine gd_C 26 1 b (a % b) n (Nat.le_of_lt hm) ?_ (by omega) (by rw [gcd_step]; exact hg) (by decide) (by omega)
  have h1 : b * (a % b) ≤ 8000 * 8000 := Nat.mul_le_mul (by omega) (by omega)
  have h2 : (2 : Nat) ^ 26 = 67108864 := by decide
  omega
theorem s_sumC {σ0 σ : bd_S} (hI : Inv σ0) {s : Nat} (hs : s < 4) (hU : qU σ0 σ) (hR : RC σ0 s 3 σ) {x3 x4 : Int32} {K : Int32 → Int32 → Int32 → bd_S → Option (Int64 × bd_S)} {P : Int64 → bd_S → Prop} (hk : wp (K (nI (SW σ0 s 8)) x4 x3 σ) P) : ∀ (m t n : Nat), t + m = 8 → m < n → wp (f_X2_odds_64 K n (nI t) (nI (SW σ0 s t)) x4 (nI s) x3 σ) P := by
  intro m
  induction m with
  | zero =>
    intro t n ht hn
    obtain ⟨n, rfl⟩ : ∃ z, n = z + 1 := ⟨n - 1, by omega⟩
    have : t = 8 := by omega
    subst this
    unfold f_X2_odds_64
    exact wp_ift ((nle (by decide) (by decide)).mpr (Nat.le_refl 8)) hk
  | succ m ih =>
    intro t n ht hn
    obtain ⟨n, rfl⟩ : ∃ z, n = z + 1 := ⟨n - 1, by omega⟩
    unfold f_X2_odds_64
    refine wp_iff (fun q => ?_) (wp_rs s rfl hs (wp_c (s_weigh hI hs (show t < 8 by omega) hU hR) (fun r σ1 q => wp_lt (wp_lt ?_))))
    · have := (nle (a := 8) (by decide) (by omega)).mp q
      omega
    obtain ⟨rfl, rfl⟩ := q
    rw [nI_1, nI_add]
    exact ih (t + 1) n (by omega) (by omega)
/-! longs -/
def nL (n : Nat) : Int64 := Int64.ofNat n
theorem nL_i {n : Nat} (h : n < 2 ^ 31) : Int32.toInt64 (nI n) = nL n := by
  apply Int64.toInt_inj.mp
  unfold nL
  rw [Int32.toInt_toInt64, nI_toInt h, Int64.toInt_ofNat_of_lt (by omega)]
theorem nL_add (a b : Nat) : nL a + nL b = nL (a + b) := (Int64.ofNat_add a b).symm
theorem nL_div {a b : Nat} (ha : a < 2 ^ 31) (hb : b < 2 ^ 31) : nL a / nL b = nL (a / b) := (Int64.ofNat_div (by omega) (by omega)).symm
theorem nL_rem {a b : Nat} (ha : a < 2 ^ 31) (hb : b < 2 ^ 31) : nL a - nL a / nL b * nL b = nL (a % b) := by
  rw [nL_div ha hb]
  unfold nL
  rw [← Int64.ofNat_mul, ← Int64.ofNat_sub _ _ (Nat.div_mul_le_self a b)]
  exact congrArg Int64.ofNat (by have := Nat.div_add_mod' a b; omega)
theorem nL_0 {a : Nat} (ha : a < 2 ^ 31) : nL a = 0 ↔ a = 0 := by
  constructor
  · intro h
    have := congrArg Int64.toInt h
    unfold nL at this
    rw [Int64.toInt_ofNat_of_lt (by omega)] at this
    have e : (0 : Int64).toInt = 0 := rfl
    omega
  · intro h; subst h; rfl
theorem gd_R {σ : bd_S} {x6 x4 : Int64} {x3 : Int32} {K : Int64 → Int64 → Int64 → Int32 → bd_S → Option (Int64 × bd_S)} {P : Int64 → bd_S → Prop} : ∀ (M a b n : Nat), b < M → M ≤ n → a < 2 ^ 31 → b < 2 ^ 31 → wp (K (nL (Nat.gcd a b)) x6 x4 x3 σ) P → wp (f_X3_odds_87 K n (nL b) (nL a) x6 x4 x3 σ) P := by
  intro M
  induction M with
  | zero => intro a b n h; omega
  | succ M ih =>
    intro a b n hb hn ha hb' hk
    obtain ⟨n, rfl⟩ : ∃ z, n = z + 1 := ⟨n - 1, by omega⟩
    unfold f_X3_odds_87
    refine wp_lt (wp_if (fun q => ?_) (fun q => ?_))
    · have q := (nL_0 hb').mp ((lg_cmp_eq _ _).mp q)
      subst q
      rw [Nat.gcd_zero_right] at hk
      exact hk
    · have q' : ¬ nL b = 0 := fun z => q ((lg_cmp_eq _ _).mpr z)
      have q0 : ¬ b = 0 := fun z => q' ((nL_0 hb').mpr z)
      have hm := Nat.mod_lt a (show b > 0 by omega)
      refine wp_rml q' ?_
      rw [nL_rem ha hb']
      exact ih b (a % b) n (by omega) (by omega) hb' (by omega) (by rw [gcd_step]; exact hk)
theorem s_sumR {σ0 : bd_S} (hI : Inv σ0) {s : Nat} (hs : s < 4) {x2 x3 : Int32} {K : Int64 → Int32 → Int32 → Int32 → bd_S → Option (Int64 × bd_S)} {P : Int64 → bd_S → Prop} (hk : ∀ σ, qU σ0 σ → RR σ0 s 3 σ → wp (K (nL (SW σ0 s 8)) (nI s) x2 x3 σ) P) : ∀ (m t n : Nat) (σ : bd_S), t + m = 8 → m < n → qU σ0 σ → RR σ0 s 3 σ → wp (f_X3_odds_44 K n (nI t) (nL (SW σ0 s t)) (nI s) x2 x3 σ) P := by
  intro m
  induction m with
  | zero =>
    intro t n σ ht hn hU hR
    obtain ⟨n, rfl⟩ : ∃ z, n = z + 1 := ⟨n - 1, by omega⟩
    have : t = 8 := by omega
    subst this
    unfold f_X3_odds_44
    exact wp_ift ((nle (by decide) (by decide)).mpr (Nat.le_refl 8)) (hk σ hU hR)
  | succ m ih =>
    intro t n σ ht hn hU hR
    obtain ⟨n, rfl⟩ : ∃ z, n = z + 1 := ⟨n - 1, by omega⟩
    have hw := Wt_le hI (t := t) hs
    unfold f_X3_odds_44
    refine wp_iff (fun q => ?_) (wp_c (s_weightOf hI hs (show t < 8 by omega) hU hR) (fun r σ1 q => wp_lt (wp_lt (wp_lt ?_))))
    · have := (nle (a := 8) (by decide) (by omega)).mp q
      omega
    obtain ⟨h5, rfl⟩ := q
    rw [nI_1, nL_i (by omega), nL_add]
    exact ih (t + 1) n σ1 (by omega) (by omega) (q5.u hU h5) (q5.R hR h5)
theorem p_odds {σ : bd_S} (hI : Inv σ) (x y z : Int32) : Pr (f_X2_odds x y z) (f_X3_odds x y z) σ := by
  obtain ⟨nk, hn⟩ := hI.hS
  unfold Pr f_X2_odds f_X3_odds
  by_cases h : okS nk x
  · refine wp_e (noShip_t hn h) (wp_ift rfl ?_)
    by_cases g : (0 : Int32).toInt ≤ y.toInt ∧ y.toInt ≤ (7 : Int32).toInt
    · refine wp_e (out_t g) (wp_ift rfl ?_)
      by_cases f : okE z
      · obtain ⟨s, hs, rfl⟩ := h.n hn.1
        obtain ⟨t, ht, rfl⟩ := i_nI (m := 7) g (by decide)
        have hs4 : s < 4 := by have := hn.1; omega
        have f' : (0 : Int32).toInt ≤ z.toInt ∧ z.toInt ≤ (1 : Int32).toInt := okE.i.mp f
        have hw := Wt_le hI (t := t) hs4
        have hS1 := SW_pos hI hs4
        have hS2 := SW_le hI hs4 8
        have hg1 : 1 ≤ Nat.gcd (Wt σ s t) (SW σ s 8) := Nat.gcd_pos_of_pos_right _ (by omega)
        have hg2 : Nat.gcd (Wt σ s t) (SW σ s 8) ≤ SW σ s 8 := Nat.gcd_le_right _ (by omega)
        have hgz : ¬ nI (Nat.gcd (Wt σ s t) (SW σ s 8)) = 0 := fun q => by
          have := (nI_eq (b := 0) (by omega) (by decide)).mp q
          omega
        have hgl : ¬ nL (Nat.gcd (Wt σ s t) (SW σ s 8)) = 0 := fun q => by
          have := (nL_0 (by omega)).mp q
          omega
        have hd1 := Nat.div_le_self (Wt σ s t) (Nat.gcd (Wt σ s t) (SW σ s 8))
        have hd2 := Nat.div_le_self (SW σ s 8) (Nat.gcd (Wt σ s t) (SW σ s 8))
        refine wp_e (out_t f') (wp_ift rfl (wp_rs s rfl hs4 (wp_c (s_findPlaces hI hs4 qU.rf) (fun _ σ1 q => ?_))))
        obtain ⟨u, hR⟩ := q
        refine wp_rs s rfl hs4 (wp_c (s_weigh hI hs4 (by omega) u hR) (fun r σ2 q => ?_))
        obtain ⟨rfl, rfl⟩ := q
        refine s_sumC hI hs4 u hR (wp_c (s_gd (by omega) hS1 (by omega)) (fun r σ3 q => ?_)) 8 0 FU_ (by decide) (by rw [FU_v]; omega)
        obtain ⟨rfl, rfl⟩ := q
        have ref : ∀ {P : Int64 → bd_S → Prop}, (∀ σ4, qU σ σ4 → P (if z = 0 then nL (Wt σ s t / Nat.gcd (Wt σ s t) (SW σ s 8)) else nL (SW σ s 8 / Nat.gcd (Wt σ s t) (SW σ s 8))) σ4) → wp (f_X3_odds (nI s) (nI t) z σ3) P := fun hP => by
          unfold f_X3_odds
          refine wp_e (isShip_t (hn.u u) h) (wp_iff (by decide) (wp_e (in_t g) (wp_iff (by decide) (wp_e (isEnd_t f) (wp_iff (by decide) (wp_c (s_layPlaces hI hs4 u) (fun _ σ4 q => ?_)))))))
          obtain ⟨u4, hR4⟩ := q
          refine s_sumR hI hs4 (fun σ5 u5 hR5 => wp_c (s_weightOf hI hs4 (by omega) u5 hR5) (fun r σ6 q => wp_lt ?_)) 8 0 FU_ σ4 (by decide) (by rw [FU_v]; omega) u4 hR4
          obtain ⟨h5, rfl⟩ := q
          rw [nL_i (by omega)]
          refine gd_R 8000 (Wt σ s t) (SW σ s 8) FU_ (by omega) (by rw [FU_v]; omega) (by omega) (by omega) ?_
          have hP := hP σ6 (q5.u u5 h5)
          refine wp_if (fun z0 => wp_dvl hgl (wp_some ?_)) (fun z0 => wp_dvl hgl (wp_some ?_))
          · rw [nL_div (by omega) (by omega)]
            rw [if_pos z0] at hP
            exact hP
          · rw [nL_div (by omega) (by omega)]
            rw [if_neg z0] at hP
            exact hP
        unfold f_X3_odds at ref
        refine wp_if (fun z0 => wp_dv hgz (wp_lt (wp_some (ref (fun σ4 u4 => ⟨?_, hI.u u4⟩))))) (fun z0 => wp_dv hgz (wp_lt (wp_some (ref (fun σ4 u4 => ⟨?_, hI.u u4⟩)))))
        · rw [if_pos z0, pk_div (by omega) (by omega) (by omega), nL_i (by omega)]
        · rw [if_neg z0, pk_div (by omega) (by omega) (by omega), nL_i (by omega)]
      · have f' : ¬ ((0 : Int32).toInt ≤ z.toInt ∧ z.toInt ≤ (1 : Int32).toInt) := fun q => f (okE.i.mpr q)
        exact wp_e (out_f f') (wp_iff (by decide) (wp_some (wp_e (isShip_t hn h) (wp_iff (by decide) (wp_e (in_t g) (wp_iff (by decide) (wp_e (isEnd_f f) (wp_ift rfl (wp_some ⟨rfl, hI⟩)))))))))
    · exact wp_e (out_f g) (wp_iff (by decide) (wp_some (wp_e (isShip_t hn h) (wp_iff (by decide) (wp_e (in_f g) (wp_ift rfl (wp_some ⟨rfl, hI⟩)))))))
  · exact wp_e (noShip_f hn h) (wp_iff (by decide) (wp_some (wp_e (isShip_f hn h) (wp_ift rfl (wp_some ⟨rfl, hI⟩)))))
