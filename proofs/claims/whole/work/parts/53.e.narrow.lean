theorem s_pair {i j n : Nat} {K : Int32 → bd_S → Option (Int32 × bd_S)} {P : Int32 → bd_S → Prop} {σ : bd_S} (hij : i < j) (hj : j < 20) (hB : Bn σ)
    (hk : ∀ σ', Nst σ σ' → snd (cg σ) σ σ' → (σ' = σ → sp_ne (cl σ) (ch σ) → nar1 (cg σ) (cl σ) (ch σ) i j) → wp (f_X3_narrow_36 K n (nI (j + 1)) (nI i) σ') P) :
    wp (f_X3_narrow_36 K (n + 1) (nI j) (nI i) σ) P := by
  have hn := nI_tsub hij hj
  have hn' : 0 ≤ (nI j - nI i).toInt ∧ (nI j - nI i).toInt ≤ 20 := by rw [hn]; omega
  have hn0 : 0 < (nI j - nI i).toInt := by rw [hn]; omega
  have g1 := hB.2.2 i (by omega)
  have g2 := hB.2.2 j hj
  have hg : (σ 81 j - σ 81 i).toInt = cg σ j - cg σ i := by
    have e1 : cg σ i = (σ 81 i).toInt := rfl
    have e2 : cg σ j = (σ 81 j).toInt := rfl
    rw [fb_subI, e1, e2] <;> omega
  have hg' : -2000 ≤ (σ 81 j - σ 81 i).toInt ∧ (σ 81 j - σ 81 i).toInt ≤ 2000 := by rw [hg]; omega
  unfold f_X3_narrow_36
  refine wp_iff (fun q => ?_) ?_
  · have := (nle (a := 20) (by decide) (by omega)).mp q
    omega
  refine wp_lt (wp_rd j rfl hj (by decide) (wp_rd i rfl (by omega) (by decide) (wp_lt (wp_rd i rfl (by omega) (by decide) (wp_rd 20 rfl (by decide) (by decide) (wp_lt (wp_lt (wp_lt (wp_rd i rfl (by omega) (by decide) (wp_rd 20 rfl (by decide) (by decide) (wp_lt (wp_lt (wp_lt (wp_c (s_within (d := j) (by omega)) (fun _ σ1 h1 => ?_)))))))))))))))
  refine wp_rd j rfl (by omega) (by decide) (wp_rd 20 rfl (by decide) (by decide) (wp_lt (wp_lt (wp_lt (wp_rd j rfl (by omega) (by decide) (wp_rd 20 rfl (by decide) (by decide) (wp_lt (wp_lt (wp_lt (wp_c (s_within (d := i) (by omega)) (fun _ σ2 h2 => ?_)))))))))))
  refine wp_rd j rfl (by omega) (by decide) (wp_rd i rfl (by omega) (by decide) (wp_lt (wp_lt (wp_c (s_upT hn0) (fun r1 σ2' h3 => ?_)))))
  obtain ⟨rfl, h3⟩ := h3
  refine wp_rd j rfl (by omega) (by decide) (wp_rd i rfl (by omega) (by decide) (wp_lt (wp_lt (wp_c (s_downT hn0) (fun r2 σ2'' h4 => ?_)))))
  obtain ⟨rfl, h4⟩ := h4
  refine wp_c (s_within (d := 20) (by omega)) (fun _ σ3 h5 => wp_lt ?_)
  rw [nI_1]
  have B1 : Bn σ1 := hB.mo h1.1.2.1 (h1.1.1.1 81 (by decide) (by decide) (by decide))
  have B2 : Bn σ2'' := B1.mo h2.1.2.1 (h2.1.1.1 81 (by decide) (by decide) (by decide))
  have E1 : sp_ne (cl σ) (ch σ) → (σ 79 i + (nI j - nI i) * σ 79 20 + (σ 81 j - σ 81 i)).toInt = cl σ i + ((j : Int) - i) * cl σ 20 + (cg σ j - cg σ i) ∧ (σ 80 i + (nI j - nI i) * σ 80 20 + (σ 81 j - σ 81 i)).toInt = ch σ i + ((j : Int) - i) * ch σ 20 + (cg σ j - cg σ i) := fun hne => by
    have b1 := hB.at hne (show i < 20 by omega)
    have b2 := hB.rt hne
    rw [ex_p b1.1 b2.1 hn' hg', ex_p b1.2 b2.2 hn' hg', hn, hg]
    exact ⟨rfl, rfl⟩
  have E2 : sp_ne (cl σ1) (ch σ1) → (σ1 79 j - (nI j - nI i) * σ1 80 20 - (σ 81 j - σ 81 i)).toInt = cl σ1 j - ((j : Int) - i) * ch σ1 20 - (cg σ j - cg σ i) ∧ (σ1 80 j - (nI j - nI i) * σ1 79 20 - (σ 81 j - σ 81 i)).toInt = ch σ1 j - ((j : Int) - i) * cl σ1 20 - (cg σ j - cg σ i) := fun hne => by
    have b1 := B1.at hne hj
    have b2 := B1.rt hne
    rw [ex_m b1.1 b2.2 hn' hg', ex_m b1.2 b2.1 hn' hg', hn, hg]
    exact ⟨rfl, rfl⟩
  have E3 : sp_ne (cl σ2'') (ch σ2'') → r1.toInt = -(-(cl σ2'' j - ch σ2'' i - (cg σ j - cg σ i)) / ((j : Int) - i)) ∧ r2.toInt = (ch σ2'' j - cl σ2'' i - (cg σ j - cg σ i)) / ((j : Int) - i) := fun hne => by
    have b1 := B2.at hne hj
    have b2 := B2.at hne (show i < 20 by omega)
    have x1 := ex_s b1.1 b2.2 hg'
    have x2 := ex_s b1.2 b2.1 hg'
    rw [h3 x1.2, h4 x2.2, x1.1, x2.1, hn, hg]
    exact ⟨rfl, rfl⟩
  refine hk σ3 ((h1.1.tr h2.1).tr h5.1) (fun lo hi hnar hne hsub => ?_) (fun he hne => ?_)
  · have N := hnar i j hij hj
    have hp : ∀ {x y : Int}, x ≤ y → ((j : Int) - i) * x ≤ ((j : Int) - i) * y := fun q => sp_mle (by omega) q
    have s0i := hsub i (by omega)
    have s0r := hsub 20 (by omega)
    have e1 := E1 (ne_of_sub hne hsub)
    have m1 := hp s0r.1
    have m2 := hp s0r.2
    have hs1 : sp_sub lo hi (cl σ1) (ch σ1) := fun k hk => by
      have s := hsub k hk
      rw [h1.2.1, h1.2.2, e1.1, e1.2]
      by_cases e : k = j
      · subst e; rw [if_pos rfl, if_pos rfl]; omega
      · rw [if_neg e, if_neg e]; exact s
    have s1j := hs1 j (by omega)
    have s1r := hs1 20 (by omega)
    have e2 := E2 (ne_of_sub hne hs1)
    have m3 := hp s1r.1
    have m4 := hp s1r.2
    have hs2 : sp_sub lo hi (cl σ2'') (ch σ2'') := fun k hk => by
      have s := hs1 k hk
      rw [h2.2.1, h2.2.2, e2.1, e2.2]
      by_cases e : k = i
      · subst e; rw [if_pos rfl, if_pos rfl]; omega
      · rw [if_neg e, if_neg e]; exact s
    have s2i := hs2 i (by omega)
    have s2j := hs2 j (by omega)
    have e3 := E3 (ne_of_sub hne hs2)
    have s2r := hs2 20 (by omega)
    intro k hk
    have s := hs2 k hk
    rw [h5.2.1, h5.2.2]
    by_cases e : k = 20
    · subst e
      rw [if_pos rfl, if_pos rfl, e3.1, e3.2]
      have q1 := (fl_le (a := cl σ2'' j - ch σ2'' i - (cg σ j - cg σ i)) (b := (j : Int) - i) (t := lo 20) (by omega)).mpr (by omega)
      have q2 := (fl_ge (a := ch σ2'' j - cl σ2'' i - (cg σ j - cg σ i)) (b := (j : Int) - i) (t := hi 20) (by omega)).mpr (by omega)
      omega
    · rw [if_neg e, if_neg e]; exact s
  · have w1 : σ1 = σ := h1.1.eq (h2.1.tr h5.1) he
    subst w1
    have w2 : σ2'' = σ1 := h2.1.eq h5.1 he
    subst w2
    subst he
    have e1 := E1 hne
    have e2 := E2 hne
    have e3 := E3 hne
    have a1 := h1.2.1 j
    have a2 := h1.2.2 j
    have a3 := h2.2.1 i
    have a4 := h2.2.2 i
    have a5 := h5.2.1 20
    have a6 := h5.2.2 20
    rw [if_pos rfl] at a1 a2 a3 a4 a5 a6
    have q1 := (fl_le (a := cl σ3 j - ch σ3 i - (cg σ3 j - cg σ3 i)) (b := (j : Int) - i) (t := cl σ3 20) (by omega)).mp (by omega)
    have q2 := (fl_ge (a := ch σ3 j - cl σ3 i - (cg σ3 j - cg σ3 i)) (b := (j : Int) - i) (t := ch σ3 20) (by omega)).mp (by omega)
    unfold nar1
    refine ⟨?_, ?_, ?_, ?_, q1, q2⟩ <;> omega
def Ri (σ0 σ : bd_S) (i j : Nat) : Prop := Nst σ0 σ ∧ snd (cg σ0) σ0 σ ∧ (σ = σ0 → sp_ne (cl σ0) (ch σ0) → ∀ i' j', i' < j' → j' < 20 → pr i j i' j' → nar1 (cg σ0) (cl σ0) (ch σ0) i' j')
theorem Nst.cg {σ σ' : bd_S} (h : Nst σ σ') : cg σ' = cg σ := by
  show (fun k => (σ' 81 k).toInt) = _
  rw [h.1.1 81 (by decide) (by decide) (by decide)]
theorem s_36 {σ0 : bd_S} {i : Nat} {K : Int32 → bd_S → Option (Int32 × bd_S)} {P : Int32 → bd_S → Prop} (hB : Bn σ0) (hk : ∀ σ', Ri σ0 σ' i 20 → wp (K (nI i) σ') P) : ∀ (m j n : Nat) (σ : bd_S), i < j → j + m = 20 → m < n → Ri σ0 σ i j → wp (f_X3_narrow_36 K n (nI j) (nI i) σ) P := by
  intro m
  induction m with
  | zero =>
    intro j n σ hij hjm hn hI
    obtain ⟨n, rfl⟩ : ∃ z, n = z + 1 := ⟨n - 1, by omega⟩
    have : j = 20 := by omega
    subst this
    unfold f_X3_narrow_36
    exact wp_ift ((nle (by decide) (by decide)).mpr (Nat.le_refl 20)) (hk σ hI)
  | succ m ih =>
    intro j n σ hij hjm hn hI
    obtain ⟨n, rfl⟩ : ∃ z, n = z + 1 := ⟨n - 1, by omega⟩
    have hj : j < 20 := by omega
    obtain ⟨I1, I2, I3⟩ := hI
    refine s_pair hij hj (hB.mo I1.2.1 (I1.1.1 81 (by decide) (by decide) (by decide))) (fun σ' t1 t2 t3 => ?_)
    rw [I1.cg] at t2 t3
    refine ih (j + 1) n σ' (by omega) (by omega) (by omega) ⟨I1.tr t1, I2.tr t2, fun he hne i' j' q1 q2 q3 => ?_⟩
    have e : σ = σ0 := I1.eq t1 he
    subst e
    by_cases z : i' = i ∧ j' = j
    · obtain ⟨rfl, rfl⟩ := z
      exact t3 he hne
    · exact I3 rfl hne i' j' q1 q2 (by unfold pr at *; omega)
theorem s_26 {σ0 : bd_S} {K : bd_S → Option (Int32 × bd_S)} {P : Int32 → bd_S → Prop} (hB : Bn σ0) (hk : ∀ σ', Ri σ0 σ' 20 21 → wp (K σ') P) : ∀ (m i n : Nat) (σ : bd_S), i + m = 20 → m < n → Ri σ0 σ i (i + 1) → wp (f_X3_narrow_26 K n (nI i) σ) P := by
  intro m
  induction m with
  | zero =>
    intro i n σ hi hn hI
    obtain ⟨n, rfl⟩ : ∃ z, n = z + 1 := ⟨n - 1, by omega⟩
    have : i = 20 := by omega
    subst this
    unfold f_X3_narrow_26
    exact wp_ift ((nle (by decide) (by decide)).mpr (Nat.le_refl 20)) (hk σ hI)
  | succ m ih =>
    intro i n σ hi hn hI
    obtain ⟨n, rfl⟩ : ∃ z, n = z + 1 := ⟨n - 1, by omega⟩
    unfold f_X3_narrow_26
    refine wp_iff (fun q => ?_) ?_
    · have := (nle (a := 20) (by decide) (by omega)).mp q
      omega
    refine wp_lt ?_
    rw [nI_1]
    refine s_36 hB (fun σ' hs => wp_lt ?_) (19 - i) (i + 1) FU_ σ (by omega) (by omega) (by rw [FU_v]; omega) hI
    rw [nI_1]
    exact ih (i + 1) n σ' (by omega) (by omega) ⟨hs.1, hs.2.1, fun he hne i' j' q1 q2 q3 => hs.2.2 he hne i' j' q1 q2 (by unfold pr at *; omega)⟩
theorem s_isLeft {σ : bd_S} : wp (f_X3_isLeft σ) (fun r σ' => σ' = σ ∧ ((r = 1 ∧ sp_ne (cl σ) (ch σ)) ∨ (r = 0 ∧ ¬ sp_ne (cl σ) (ch σ)))) := by
  have key : ∀ (m i n : Nat), i + m = 21 → m < n → (∀ d, d < i → cl σ d ≤ ch σ d) → wp (f_X3_isLeft_2 n (nI i) σ) (fun r σ' => σ' = σ ∧ ((r = 1 ∧ sp_ne (cl σ) (ch σ)) ∨ (r = 0 ∧ ¬ sp_ne (cl σ) (ch σ)))) := by
    intro m
    induction m with
    | zero =>
      intro i n hi hn hI
      obtain ⟨n, rfl⟩ : ∃ z, n = z + 1 := ⟨n - 1, by omega⟩
      have : i = 21 := by omega
      subst this
      unfold f_X3_isLeft_2
      exact wp_ift ((nle (by decide) (by decide)).mpr (Nat.le_refl 21)) (wp_zr (Or.inr rfl) ⟨rfl, Or.inl ⟨rfl, fun k hk => hI k (by omega)⟩⟩)
    | succ m ih =>
      intro i n hi hn hI
      obtain ⟨n, rfl⟩ : ∃ z, n = z + 1 := ⟨n - 1, by omega⟩
      unfold f_X3_isLeft_2
      refine wp_iff (fun q => ?_) ?_
      · have := (nle (a := 21) (by decide) (by omega)).mp q
        omega
      refine wp_rd i rfl (by omega) (by decide) (wp_rd i rfl (by omega) (by decide) (wp_if (fun h => ?_) (fun h => ?_)))
      · refine wp_lt ?_
        rw [nI_1]
        refine ih (i + 1) n (by omega) (by omega) (fun d hd => ?_)
        by_cases e : d = i
        · subst e; exact ti_le.mp h
        · exact hI d (by omega)
      · exact wp_zr (Or.inl rfl) ⟨rfl, Or.inr ⟨rfl, fun q => h (ti_le.mpr (q i (by omega)))⟩⟩
  unfold f_X3_isLeft
  exact key 21 0 FU_ (by decide) (by rw [FU_v]; omega) (fun d hd => absurd hd (Nat.not_lt_zero d))
/-- what NARROW of the reference answers -/
def nwR (σ0 : bd_S) (r : Int32) (σ' : bd_S) : Prop := fN σ0 σ' ∧ ((r = 1 ∧ sp_cl (cg σ0) (fun lo hi => sp_sub lo hi (cl σ0) (ch σ0)) (cl σ') (ch σ')) ∨ (r = 0 ∧ sp_no (cg σ0) (fun lo hi => sp_sub lo hi (cl σ0) (ch σ0))))
theorem s_end {σ0 σ : bd_S} (h1 : fN σ0 σ) (h2 : Mo σ0 σ) (h3 : snd (cg σ0) σ0 σ) (h4 : sp_ne (cl σ) (ch σ) → sp_nar (cg σ0) (cl σ) (ch σ)) : wp (bd_b (f_X3_isLeft σ) (fun z s => bd_zr z s)) (nwR σ0) := by
  refine wp_c s_isLeft (fun r σ' h => ?_)
  obtain ⟨rfl, h⟩ := h
  rcases h with ⟨rfl, h⟩ | ⟨rfl, h⟩
  · exact wp_zr (Or.inr rfl) ⟨h1, Or.inl ⟨rfl, fun k _ => h2 k, h4 h, h, fun lo hi q1 q2 q3 => h3 lo hi q2 q3 q1⟩⟩
  · exact wp_zr (Or.inl rfl) ⟨h1, Or.inr ⟨rfl, fun lo hi q1 q2 q3 => h (ne_of_sub q3 (h3 lo hi q2 q3 q1))⟩⟩
theorem mm_nn {σ : bd_S} (h : sp_ne (cl σ) (ch σ)) : 0 ≤ mm σ := by
  have := mu_le (f := fun _ => 0) (g := fun k => ch σ k - cl σ k) 21 (fun k hk => by have := h k (by omega); show (0 : Int) ≤ ch σ k - cl σ k; omega)
  exact this
theorem s_5 {σ0 : bd_S} (hB : Bn σ0) : ∀ (n : Nat) (σ : bd_S), 1 ≤ n → fN σ0 σ → Mo σ0 σ → snd (cg σ0) σ0 σ → (σ 55 29 = 0 → sp_ne (cl σ) (ch σ) → sp_nar (cg σ0) (cl σ) (ch σ)) → (σ 55 29 ≠ 0 → sp_ne (cl σ) (ch σ) → mm σ + 2 ≤ n) → wp (f_X3_narrow_5 n σ) (nwR σ0) := by
  intro n
  induction n with
  | zero => intro σ h; omega
  | succ n ih =>
    intro σ _ h1 h2 h3 h4 h5
    unfold f_X3_narrow_5
    refine wp_lt (wp_if (fun hc => s_end h1 h2 h3 (h4 hc)) (fun hc => ?_))
    refine wp_c s_isLeft (fun r σ' h => ?_)
    obtain ⟨rfl, h⟩ := h
    rcases h with ⟨rfl, hne⟩ | ⟨rfl, h⟩
    · refine wp_iff (by decide) (wp_lt ?_)
      have hm := h5 hc hne
      have hm0 := mm_nn hne
      have c1 : cl (bd_st σ' 55 29 0) = cl σ' := by show (fun k => (bd_st _ 55 29 0 79 k).toInt) = _; rw [st_ne (by decide)]
      have c2 : ch (bd_st σ' 55 29 0) = ch σ' := by show (fun k => (bd_st _ 55 29 0 80 k).toInt) = _; rw [st_ne (by decide)]
      have c3 : (bd_st σ' 55 29 0) 81 = σ0 81 := by rw [st_ne (by decide)]; exact h1.1 81 (by decide) (by decide) (by decide)
      have c4 : cg (bd_st σ' 55 29 0) = cg σ0 := by show (fun k => (bd_st _ 55 29 0 81 k).toInt) = _; rw [c3]
      have c5 : mm (bd_st σ' 55 29 0) = mm σ' := by unfold mm; rw [c1, c2]
      have M : Mo σ0 (bd_st σ' 55 29 0) := fun k => by rw [c1, c2]; exact h2 k
      refine s_26 (σ0 := bd_st σ' 55 29 0) (hB.mo M c3) (fun σ2 hs => ?_) 20 0 FU_ _ (by decide) (by rw [FU_v]; omega) ⟨Nst.rf, snd.rf, fun _ _ i' j' _ _ q => by unfold pr at q; omega⟩
      obtain ⟨s1, s2, s3⟩ := hs
      rw [c4] at s2 s3
      have F : fN σ0 σ2 := (h1.tr ⟨fun r q1 q2 q3 => st_ne q1, fun k q => st_off q⟩).tr s1.1
      have S : snd (cg σ0) σ0 σ2 := h3.tr (fun lo hi q1 q2 q3 => s2 lo hi q1 q2 (by rw [c1, c2]; exact q3))
      rcases s1.2.2 with e | ⟨e1, e2⟩
      · refine ih σ2 (by omega) F (M.tr s1.2.1) S (fun _ ne => ?_) (fun q => ?_)
        · rw [e] at ne ⊢
          exact fun i j q1 q2 => s3 e ne i j q1 q2 (by unfold pr; omega)
        · rw [e] at q
          exact absurd st_same q
      · rw [c5] at e2
        refine ih σ2 (by omega) F (M.tr s1.2.1) S (fun q => ?_) (fun _ ne => by omega)
        rw [e1] at q
        exact absurd q (by decide)
    · exact wp_ift rfl (s_end h1 h2 h3 (fun q => absurd q h))
theorem s_narrowR {σ : bd_S} (hB : Bn σ) : wp (f_X3_narrow σ) (nwR σ) := by
  unfold f_X3_narrow
  have c1 : cl (bd_st σ 55 29 1) = cl σ := by show (fun k => (bd_st _ 55 29 1 79 k).toInt) = _; rw [st_ne (by decide)]
  have c2 : ch (bd_st σ 55 29 1) = ch σ := by show (fun k => (bd_st _ 55 29 1 80 k).toInt) = _; rw [st_ne (by decide)]
  refine wp_lt (s_5 hB FU_ _ (by rw [FU_v]; omega) ⟨fun r q1 q2 q3 => st_ne q1, fun k q => st_off q⟩ (fun k => by rw [c1, c2]; omega) (fun lo hi _ _ q => by rw [c1, c2]; exact q) (fun q => ?_) (fun _ ne => ?_))
  · rw [st_same] at q
    exact absurd q (by decide)
  · rw [c1, c2] at ne
    have h := mu_le (f := fun k => ch (bd_st σ 55 29 1) k - cl (bd_st σ 55 29 1) k) (g := fun _ => 400000) 21 (fun k hk => by
      rw [c1, c2]
      show ch σ k - cl σ k ≤ 400000
      by_cases e : k = 20
      · subst e; have := hB.2.1; omega
      · have := hB.1 k (by omega); omega)
    have h9 : mu (fun _ => 400000) 21 = 8400000 := by decide
    have h8 : mm (bd_st σ 55 29 1) ≤ 8400000 := by rw [← h9]; exact h
    rw [FU_v]
    omega
