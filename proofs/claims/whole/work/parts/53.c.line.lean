/-! LINES: narrow of the class -/
abbrev la (σ : bd_S) (L : Nat) : Nat → Int := fun d => (σ (L + 1) d).toInt
abbrev lb (σ : bd_S) (L : Nat) : Nat → Int := fun d => (σ (L + 2) d).toInt
abbrev lR (σ : bd_S) (L : Nat) : Int := (σ L 2).toInt
abbrev hR (σ : bd_S) (L : Nat) : Int := (σ L 3).toInt
abbrev spl (σ : bd_S) (L : Nat) : Nat → Int := sp_j (la σ L) (lR σ L)
abbrev sph (σ : bd_S) (L : Nat) : Nat → Int := sp_j (lb σ L) (hR σ L)
/-- nothing but a Line changes -/
def fL (L : Nat) (σ σ' : bd_S) : Prop := ∀ r, r ≠ L → r ≠ L + 1 → r ≠ L + 2 → σ' r = σ r
theorem fL.rf {L : Nat} {σ : bd_S} : fL L σ σ := fun _ _ _ _ => rfl
theorem fL.tr {L : Nat} {σ σ' σ'' : bd_S} (h : fL L σ σ') (h' : fL L σ' σ'') : fL L σ σ'' := fun r h1 h2 h3 => (h' r h1 h2 h3).trans (h r h1 h2 h3)
theorem s_cut {L d : Nat} {x y : Int32} {σ : bd_S} (hd : d < 20) : wp (f_X0_cut L (nI d) x y σ) (fun _ σ' => (∀ r, r ≠ L + 1 → r ≠ L + 2 → σ' r = σ r) ∧ (∀ k, la σ' L k = if k = d then max (la σ L d) x.toInt else la σ L k) ∧ (∀ k, lb σ' L k = if k = d then min (lb σ L d) y.toInt else lb σ L k)) := by
  unfold f_X0_cut
  refine wp_rd d rfl hd (by decide) (wp_lt (wp_wr d rfl hd (by decide) (wp_rd d rfl hd (by decide) (wp_lt (wp_wr d rfl hd (by decide) (wp_some ⟨fun r h1 h2 => ?_, fun k => ?_, fun k => ?_⟩))))))
  · rw [st_ne h2, st_ne h1]
  · show (bd_st _ (L + 2) d _ (L + 1) k).toInt = _
    rw [st_ne (by omega)]
    by_cases hk : k = d
    · subst hk
      rw [st_same, if_pos rfl, ti_max]
    · rw [st_off hk, if_neg hk]
  · show (bd_st _ (L + 2) d _ (L + 2) k).toInt = _
    by_cases hk : k = d
    · subst hk
      rw [st_same, if_pos rfl, st_ne (by omega), ti_min]
    · rw [st_off hk, st_ne (by omega), if_neg hk]
/-! the rate by all pairs -/
def pr (i j i' j' : Nat) : Prop := i' < i ∨ (i' = i ∧ j' < j)
def gl (a b : Nat → Int) (l0 : Int) (i j : Nat) (x : Int) : Prop := ∀ t : Int, x ≤ t ↔ (l0 ≤ t ∧ ∀ i' j' : Nat, i' < j' → j' < 20 → pr i j i' j' → a j' - b i' ≤ ((j' : Int) - i') * t)
def gh (a b : Nat → Int) (h0 : Int) (i j : Nat) (x : Int) : Prop := ∀ t : Int, t ≤ x ↔ (t ≤ h0 ∧ ∀ i' j' : Nat, i' < j' → j' < 20 → pr i j i' j' → ((j' : Int) - i') * t ≤ b j' - a i')
theorem gl_step {a b : Nat → Int} {l0 x x' : Int} {i j : Nat} (hij : i < j) (hj : j < 20) (h : gl a b l0 i j x) (hx : ∀ t : Int, x' ≤ t ↔ (x ≤ t ∧ a j - b i ≤ ((j : Int) - i) * t)) : gl a b l0 i (j + 1) x' := by
  intro t
  rw [hx, h]
  constructor
  · rintro ⟨⟨h1, h2⟩, h3⟩
    refine ⟨h1, fun i' j' e1 e2 e3 => ?_⟩
    by_cases e : i' = i ∧ j' = j
    · obtain ⟨rfl, rfl⟩ := e; exact h3
    · exact h2 i' j' e1 e2 (by unfold pr at *; omega)
  · rintro ⟨h1, h2⟩
    exact ⟨⟨h1, fun i' j' e1 e2 e3 => h2 i' j' e1 e2 (by unfold pr at *; omega)⟩, h2 i j hij hj (by unfold pr; omega)⟩
theorem gh_step {a b : Nat → Int} {l0 x x' : Int} {i j : Nat} (hij : i < j) (hj : j < 20) (h : gh a b l0 i j x) (hx : ∀ t : Int, t ≤ x' ↔ (t ≤ x ∧ ((j : Int) - i) * t ≤ b j - a i)) : gh a b l0 i (j + 1) x' := by
  intro t
  rw [hx, h]
  constructor
  · rintro ⟨⟨h1, h2⟩, h3⟩
    refine ⟨h1, fun i' j' e1 e2 e3 => ?_⟩
    by_cases e : i' = i ∧ j' = j
    · obtain ⟨rfl, rfl⟩ := e; exact h3
    · exact h2 i' j' e1 e2 (by unfold pr at *; omega)
  · rintro ⟨h1, h2⟩
    exact ⟨⟨h1, fun i' j' e1 e2 e3 => h2 i' j' e1 e2 (by unfold pr at *; omega)⟩, h2 i j hij hj (by unfold pr; omega)⟩
theorem gl_next {a b : Nat → Int} {l0 x : Int} {i : Nat} (h : gl a b l0 i 20 x) : gl a b l0 (i + 1) (i + 2) x := by
  intro t
  rw [h]
  refine and_congr_right fun _ => ⟨fun h2 i' j' e1 e2 e3 => h2 i' j' e1 e2 (by unfold pr at *; omega), fun h2 i' j' e1 e2 e3 => h2 i' j' e1 e2 (by unfold pr at *; omega)⟩
theorem gh_next {a b : Nat → Int} {l0 x : Int} {i : Nat} (h : gh a b l0 i 20 x) : gh a b l0 (i + 1) (i + 2) x := by
  intro t
  rw [h]
  refine and_congr_right fun _ => ⟨fun h2 i' j' e1 e2 e3 => h2 i' j' e1 e2 (by unfold pr at *; omega), fun h2 i' j' e1 e2 e3 => h2 i' j' e1 e2 (by unfold pr at *; omega)⟩
/-- the days lie within these bounds -/
def bdd (a b : Nat → Int) : Prop := ∀ d, d < 20 → -200000 ≤ a d ∧ a d ≤ 200000 ∧ -200000 ≤ b d ∧ b d ≤ 200000
def ngI (a b : Nat → Int) (l0 h0 : Int) (L : Nat) (σ0 σ : bd_S) (i j : Nat) : Prop := (∀ r, r ≠ L → σ r = σ0 r) ∧ -100 ≤ lR σ L ∧ lR σ L ≤ 500000 ∧ -500000 ≤ hR σ L ∧ hR σ L ≤ 100 ∧ gl a b l0 i j (lR σ L) ∧ gh a b h0 i j (hR σ L)
theorem FU_v : FU_ = 10000000 := rfl
theorem nI_tsub {i j : Nat} (hij : i < j) (hj : j < 20) : (nI j - nI i).toInt = (j : Int) - i := by
  rw [pk_sub (by omega), ti_nI (by omega)]
  omega
theorem s_nG73 {a b : Nat → Int} {l0 h0 : Int} {L : Nat} {σ0 σ : bd_S} {i j : Nat} {P : Unit → bd_S → Prop} {k : Int32 → Int32 → Nat → bd_S → Option (Unit × bd_S)} {x5 : Int32} (hij : i < j) (hj : j < 20) (hb : bdd a b)
    (hl : (∀ r, r ≠ L → σ r = σ0 r) ∧ -100 ≤ lR σ L ∧ lR σ L ≤ 500000 ∧ -500000 ≤ hR σ L ∧ hR σ L ≤ 100 ∧ gl a b l0 i (j + 1) (lR σ L) ∧ gh a b h0 i j (hR σ L)) (hx : x5.toInt = b j - a i)
    (hk : ∀ σ', ngI a b l0 h0 L σ0 σ' i (j + 1) → wp (k (nI (j + 1)) (nI i) L σ') P) : wp (f_X0_narrowGain_73 k x5 (nI j - nI i) (nI j) (nI i) L σ) P := by
  obtain ⟨g1, g2, g3, g4, g5, g6, g7⟩ := hl
  have hbj := hb j hj
  have hbi := hb i (by omega)
  have hn := nI_tsub hij hj
  have hm : (σ L 3 * (nI j - nI i)).toInt = hR σ L * ((j : Int) - i) := by
    have h1 : (σ L 3).toInt * ((j : Int) - i) ≤ 100 * 20 := by
      refine Int.le_trans (Int.mul_le_mul_of_nonneg_right g5 (by omega)) ?_
      omega
    have h2 : (-500000) * 20 ≤ (σ L 3).toInt * ((j : Int) - i) := by
      refine Int.le_trans ?_ (Int.mul_le_mul_of_nonneg_right g4 (by omega))
      omega
    rw [fb_mulI, hn] <;> rw [hn] <;> omega
  unfold f_X0_narrowGain_73
  refine wp_lt (wp_lt (wp_if (fun h => ?_) (fun h => ?_)))
  · have h := ti_le.mp h
    rw [hm, hx] at h
    rw [Int.mul_comm] at h
    refine wp_lt ?_
    rw [nI_1]
    refine hk σ ⟨g1, g2, g3, g4, g5, g6, gh_step hij hj g7 (fun t => ⟨fun q => ⟨q, ?_⟩, fun q => q.1⟩)⟩
    exact Int.le_trans (sp_mle (by omega) q) h
  · have h : ¬ (σ L 3 * (nI j - nI i)).toInt ≤ x5.toInt := fun q => h (ti_le.mpr q)
    rw [hm, hx] at h
    rw [Int.mul_comm] at h
    refine wp_c (s_floorDiv (by rw [hn]; omega) (by rw [hx]; omega)) (fun r σ' hr => ?_)
    obtain ⟨rfl, hr⟩ := hr
    rw [hx, hn] at hr
    have hs := fl_small (a := b j - a i) (b := (j : Int) - i) (B := 400000) (by omega) (by omega) (by omega) (by omega)
    refine wp_lt (wp_lt ?_)
    rw [nI_1]
    have e2 : lR (bd_st σ' L 3 r) L = lR σ' L := by show (bd_st σ' L 3 r L 2).toInt = _; rw [st_off (by decide)]
    have e3 : hR (bd_st σ' L 3 r) L = r.toInt := by show (bd_st σ' L 3 r L 3).toInt = _; rw [st_same]
    have hlt : r.toInt ≤ hR σ' L := by
      have h1 := (fl_ge (a := b j - a i) (b := (j : Int) - i) (t := r.toInt) (by omega)).mp (by omega)
      rcases (show r.toInt ≤ hR σ' L ∨ hR σ' L < r.toInt by omega) with q | q
      · exact q
      · have := sp_mle (n := (j : Int) - i) (by omega) (show hR σ' L ≤ r.toInt by omega)
        omega
    refine hk _ ⟨fun q hq => by rw [st_ne hq]; exact g1 q hq, by rw [e2]; exact g2, by rw [e2]; exact g3, by rw [e3]; omega, by rw [e3]; omega, by rw [e2]; exact g6, ?_⟩
    rw [e3]
    refine gh_step hij hj g7 (fun t => ?_)
    rw [hr]
    rw [fl_ge (by omega)]
    refine ⟨fun q => ⟨?_, q⟩, fun q => q.2⟩
    have := (fl_ge (a := b j - a i) (b := (j : Int) - i) (t := t) (by omega)).mpr q
    omega
theorem s_nG12 {a b : Nat → Int} {l0 h0 : Int} {L : Nat} {σ0 : bd_S} {i : Nat} {P : Unit → bd_S → Prop} {k : Int32 → Nat → bd_S → Option (Unit × bd_S)} (hb : bdd a b) (ha : a = la σ0 L) (hbb : b = lb σ0 L)
    (hk : ∀ σ', ngI a b l0 h0 L σ0 σ' i 20 → wp (k (nI i) L σ') P) : ∀ (m j n : Nat) (σ : bd_S), i < j → j + m = 20 → m < n → ngI a b l0 h0 L σ0 σ i j → wp (f_X0_narrowGain_12 k n (nI j) (nI i) L σ) P := by
  intro m
  induction m with
  | zero =>
    intro j n σ hij hjm hn hI
    obtain ⟨n, rfl⟩ : ∃ z, n = z + 1 := ⟨n - 1, by omega⟩
    have : j = 20 := by omega
    subst this
    unfold f_X0_narrowGain_12
    exact wp_ift ((nle (by decide) (by decide)).mpr (Nat.le_refl 20)) (hk σ hI)
  | succ m ih =>
    intro j n σ hij hjm hn hI
    obtain ⟨n, rfl⟩ : ∃ z, n = z + 1 := ⟨n - 1, by omega⟩
    have hj : j < 20 := by omega
    have hI' := hI
    obtain ⟨g1, g2, g3, g4, g5, g6, g7⟩ := hI
    have e1 : σ (L + 1) = σ0 (L + 1) := g1 _ (by omega)
    have e2 : σ (L + 2) = σ0 (L + 2) := g1 _ (by omega)
    have hbj := hb j hj
    have hbi := hb i (by omega)
    have a1 : ∀ d, (σ (L + 1) d).toInt = a d := fun d => by rw [e1, ha]
    have b1 : ∀ d, (σ (L + 2) d).toInt = b d := fun d => by rw [e2, hbb]
    have h49 : (σ (L + 2) j - σ (L + 1) i).toInt = b j - a i := by rw [fb_subI, b1, a1] <;> rw [b1, a1] <;> omega
    have h34 : (σ (L + 1) j - σ (L + 2) i).toInt = a j - b i := by rw [fb_subI, b1, a1] <;> rw [b1, a1] <;> omega
    have hn' := nI_tsub hij hj
    have hm : (σ L 2 * (nI j - nI i)).toInt = lR σ L * ((j : Int) - i) := by
      have h1 : (σ L 2).toInt * ((j : Int) - i) ≤ 500000 * 20 := by
        refine Int.le_trans (Int.mul_le_mul_of_nonneg_right g3 (by omega)) ?_
        omega
      have h2 : (-100) * 20 ≤ (σ L 2).toInt * ((j : Int) - i) := by
        refine Int.le_trans ?_ (Int.mul_le_mul_of_nonneg_right g2 (by omega))
        omega
      rw [fb_mulI, hn'] <;> rw [hn'] <;> omega
    unfold f_X0_narrowGain_12
    refine wp_iff (fun q => ?_) ?_
    · have := (nle (a := 20) (by decide) (by omega)).mp q
      omega
    refine wp_lt (wp_rd j rfl hj (by decide) (wp_rd i rfl (by omega) (by decide) (wp_lt (wp_rd j rfl hj (by decide) (wp_rd i rfl (by omega) (by decide) (wp_lt (wp_lt (wp_lt (wp_if (fun h => ?_) (fun h => ?_))))))))))
    · have h := ti_le.mp h
      rw [hm, h34] at h
      rw [Int.mul_comm] at h
      refine s_nG73 (σ0 := σ0) hij hj hb ⟨g1, g2, g3, g4, g5, gl_step hij hj g6 (fun t => ⟨fun q => ⟨q, ?_⟩, fun q => q.1⟩), g7⟩ h49 (fun σ' hs => ih (j + 1) n σ' (by omega) (by omega) (by omega) hs)
      exact Int.le_trans h (sp_mle (by omega) q)
    · have h : ¬ (σ (L + 1) j - σ (L + 2) i).toInt ≤ (σ L 2 * (nI j - nI i)).toInt := fun q => h (ti_le.mpr q)
      rw [hm, h34] at h
      rw [Int.mul_comm] at h
      refine wp_c (s_cutUp (by rw [hn']; omega) (by rw [h34]; omega)) (fun r σ' hr => ?_)
      obtain ⟨rfl, hr⟩ := hr
      rw [h34, hn'] at hr
      have hs := fl_small (a := -(a j - b i)) (b := (j : Int) - i) (B := 400000) (by omega) (by omega) (by omega) (by omega)
      have e4 : lR (bd_st σ' L 2 r) L = r.toInt := by show (bd_st σ' L 2 r L 2).toInt = _; rw [st_same]
      have e3 : hR (bd_st σ' L 2 r) L = hR σ' L := by show (bd_st σ' L 2 r L 3).toInt = _; rw [st_off (by decide)]
      have hlt : lR σ' L ≤ r.toInt := by
        have h1 := (fl_le (a := a j - b i) (b := (j : Int) - i) (t := r.toInt) (by omega)).mp (by omega)
        rcases (show lR σ' L ≤ r.toInt ∨ r.toInt < lR σ' L by omega) with q | q
        · exact q
        · have := sp_mle (n := (j : Int) - i) (by omega) (show r.toInt ≤ lR σ' L by omega)
          omega
      refine wp_lt (s_nG73 (σ0 := σ0) hij hj hb ⟨fun q hq => by rw [st_ne hq]; exact g1 q hq, by rw [e4]; omega, by rw [e4]; omega, by rw [e3]; exact g4, by rw [e3]; exact g5, ?_, by rw [e3]; exact g7⟩ h49 (fun σ' hs => ih (j + 1) n σ' (by omega) (by omega) (by omega) hs))
      rw [e4]
      refine gl_step hij hj g6 (fun t => ?_)
      rw [hr]
      rw [fl_le (by omega)]
      refine ⟨fun q => ⟨?_, q⟩, fun q => q.2⟩
      have := (fl_le (a := a j - b i) (b := (j : Int) - i) (t := t) (by omega)).mpr q
      omega
theorem s_nG2 {a b : Nat → Int} {l0 h0 : Int} {L : Nat} {σ0 : bd_S} (hb : bdd a b) (ha : a = la σ0 L) (hbb : b = lb σ0 L) : ∀ (m i n : Nat) (σ : bd_S), i + m = 20 → m < n → ngI a b l0 h0 L σ0 σ i (i + 1) → wp (f_X0_narrowGain_2 n (nI i) L σ) (fun _ σ' => ngI a b l0 h0 L σ0 σ' 20 21) := by
  intro m
  induction m with
  | zero =>
    intro i n σ hi hn hI
    obtain ⟨n, rfl⟩ : ∃ z, n = z + 1 := ⟨n - 1, by omega⟩
    have : i = 20 := by omega
    subst this
    unfold f_X0_narrowGain_2
    exact wp_ift ((nle (by decide) (by decide)).mpr (Nat.le_refl 20)) (wp_some hI)
  | succ m ih =>
    intro i n σ hi hn hI
    obtain ⟨n, rfl⟩ : ∃ z, n = z + 1 := ⟨n - 1, by omega⟩
    unfold f_X0_narrowGain_2
    refine wp_iff (fun q => ?_) ?_
    · have := (nle (a := 20) (by decide) (by omega)).mp q
      omega
    refine wp_lt ?_
    rw [nI_1]
    refine s_nG12 hb ha hbb (fun σ' hs => ?_) (19 - i) (i + 1) FU_ σ (by omega) (by omega) (by rw [FU_v]; omega) hI
    refine wp_lt ?_
    rw [nI_1]
    obtain ⟨g1, g2, g3, g4, g5, g6, g7⟩ := hs
    exact ih (i + 1) n σ' (by omega) (by omega) ⟨g1, g2, g3, g4, g5, gl_next g6, gh_next g7⟩
theorem s_nG {L : Nat} {σ : bd_S} (hb : bdd (la σ L) (lb σ L)) (h1 : -100 ≤ lR σ L ∧ lR σ L ≤ 100) (h2 : -100 ≤ hR σ L ∧ hR σ L ≤ 100) : wp (f_X0_narrowGain L σ) (fun _ σ' => (∀ r, r ≠ L → σ' r = σ r) ∧ lR σ L ≤ lR σ' L ∧ hR σ' L ≤ hR σ L ∧
    (∀ t : Int, lR σ' L ≤ t ↔ (lR σ L ≤ t ∧ ∀ i j : Nat, i < j → j < 20 → la σ L j - lb σ L i ≤ ((j : Int) - i) * t)) ∧ (∀ t : Int, t ≤ hR σ' L ↔ (t ≤ hR σ L ∧ ∀ i j : Nat, i < j → j < 20 → ((j : Int) - i) * t ≤ lb σ L j - la σ L i))) := by
  unfold f_X0_narrowGain
  refine wp_mono (s_nG2 (l0 := lR σ L) (h0 := hR σ L) (σ0 := σ) hb rfl rfl 20 0 FU_ σ (by decide) (by rw [FU_v]; omega) ⟨fun _ _ => rfl, by omega, by omega, by omega, by omega, fun t => ?_, fun t => ?_⟩) (fun _ σ' hs => ?_)
  · refine ⟨fun q => ⟨q, fun i' j' e1 e2 e3 => ?_⟩, fun q => q.1⟩
    unfold pr at e3
    omega
  · refine ⟨fun q => ⟨q, fun i' j' e1 e2 e3 => ?_⟩, fun q => q.1⟩
    unfold pr at e3
    omega
  · obtain ⟨g1, g2, g3, g4, g5, g6, g7⟩ := hs
    have G6 : ∀ t : Int, lR σ' L ≤ t ↔ (lR σ L ≤ t ∧ ∀ i j : Nat, i < j → j < 20 → la σ L j - lb σ L i ≤ ((j : Int) - i) * t) := fun t => by
      rw [g6 t]
      refine and_congr_right fun _ => ⟨fun q i j e1 e2 => q i j e1 e2 (by unfold pr; omega), fun q i j e1 e2 _ => q i j e1 e2⟩
    have G7 : ∀ t : Int, t ≤ hR σ' L ↔ (t ≤ hR σ L ∧ ∀ i j : Nat, i < j → j < 20 → ((j : Int) - i) * t ≤ lb σ L j - la σ L i) := fun t => by
      rw [g7 t]
      refine and_congr_right fun _ => ⟨fun q i j e1 e2 => q i j e1 e2 (by unfold pr; omega), fun q i j e1 e2 _ => q i j e1 e2⟩
    exact ⟨g1, ((G6 _).mp (Int.le_refl _)).1, ((G7 _).mp (Int.le_refl _)).1, G6, G7⟩
/-! the days, forth and back -/
def sf1 (a : Nat → Int) (r : Int) : Nat → Int
  | 0 => a 0
  | d + 1 => max (a (d + 1)) (sf1 a r d + r)
def sg1 (b : Nat → Int) (r : Int) : Nat → Int
  | 0 => b 0
  | d + 1 => min (b (d + 1)) (sg1 b r d + r)
def sfk (a : Nat → Int) (r : Int) : Nat → Int
  | 0 => a 19
  | k + 1 => max (a (18 - k)) (sfk a r k - r)
def sgk (b : Nat → Int) (r : Int) : Nat → Int
  | 0 => b 19
  | k + 1 => min (b (18 - k)) (sgk b r k - r)
theorem sf1_bd {a : Nat → Int} {r : Int} (hr : -100 ≤ r ∧ r ≤ 100) (ha : ∀ d, d < 20 → -200000 ≤ a d ∧ a d ≤ 200000) : ∀ d : Nat, d < 20 → -200000 ≤ sf1 a r d ∧ sf1 a r d ≤ 200000 + 100 * (d : Int) := by
  intro d
  induction d with
  | zero => intro _; have := ha 0 (by decide); unfold sf1; omega
  | succ d ih => intro hd; have h1 := ih (by omega); have h2 := ha (d + 1) hd; unfold sf1; omega
theorem sg1_bd {a : Nat → Int} {r : Int} (hr : -100 ≤ r ∧ r ≤ 100) (ha : ∀ d, d < 20 → -200000 ≤ a d ∧ a d ≤ 200000) : ∀ d : Nat, d < 20 → -200000 - 100 * (d : Int) ≤ sg1 a r d ∧ sg1 a r d ≤ 200000 := by
  intro d
  induction d with
  | zero => intro _; have := ha 0 (by decide); unfold sg1; omega
  | succ d ih => intro hd; have h1 := ih (by omega); have h2 := ha (d + 1) hd; unfold sg1; omega
theorem sfk_bd {a : Nat → Int} {r : Int} (hr : -100 ≤ r ∧ r ≤ 100) (ha : ∀ d, d < 20 → -210000 ≤ a d ∧ a d ≤ 210000) : ∀ d : Nat, d < 20 → -210000 ≤ sfk a r d ∧ sfk a r d ≤ 210000 + 100 * (d : Int) := by
  intro d
  induction d with
  | zero => intro _; have := ha 19 (by decide); unfold sfk; omega
  | succ d ih => intro hd; have h1 := ih (by omega); have h2 := ha (18 - d) (by omega); unfold sfk; omega
theorem sgk_bd {a : Nat → Int} {r : Int} (hr : -100 ≤ r ∧ r ≤ 100) (ha : ∀ d, d < 20 → -210000 ≤ a d ∧ a d ≤ 210000) : ∀ d : Nat, d < 20 → -210000 - 100 * (d : Int) ≤ sgk a r d ∧ sgk a r d ≤ 210000 := by
  intro d
  induction d with
  | zero => intro _; have := ha 19 (by decide); unfold sgk; omega
  | succ d ih => intro hd; have h1 := ih (by omega); have h2 := ha (18 - d) (by omega); unfold sgk; omega
/-- as two rows -/
def ndI (L : Nat) (σ0 σ : bd_S) (a b : Nat → Int) : Prop := (∀ r, r ≠ L + 1 → r ≠ L + 2 → σ r = σ0 r) ∧ ∀ k, k < 20 → la σ L k = a k ∧ lb σ L k = b k
theorem s_nD2 {L : Nat} {σ0 : bd_S} {a b : Nat → Int} {k : Nat → bd_S → Option (Unit × bd_S)} {P : Unit → bd_S → Prop} (hb : bdd a b) (h1 : -100 ≤ lR σ0 L ∧ lR σ0 L ≤ 100) (h2 : -100 ≤ hR σ0 L ∧ hR σ0 L ≤ 100)
    (hk : ∀ σ, ndI L σ0 σ (sf1 a (lR σ0 L)) (sg1 b (hR σ0 L)) → wp (k L σ) P) : ∀ (m d n : Nat) (σ : bd_S), 1 ≤ d → d + m = 20 → m < n → ndI L σ0 σ (fun k => if k < d then sf1 a (lR σ0 L) k else a k) (fun k => if k < d then sg1 b (hR σ0 L) k else b k) → wp (f_X0_narrowDays_2 k n (nI d) L σ) P := by
  intro m
  induction m with
  | zero =>
    intro d n σ hd hm hn hI
    obtain ⟨n, rfl⟩ : ∃ z, n = z + 1 := ⟨n - 1, by omega⟩
    have : d = 20 := by omega
    subst this
    unfold f_X0_narrowDays_2
    refine wp_ift ((nle (by decide) (by decide)).mpr (Nat.le_refl 20)) (hk σ ⟨hI.1, fun k hk => ?_⟩)
    have h := hI.2 k hk
    simp only [if_pos hk] at h
    exact h
  | succ m ih =>
    intro d n σ hd hm hn hI
    obtain ⟨n, rfl⟩ : ∃ z, n = z + 1 := ⟨n - 1, by omega⟩
    obtain ⟨e, rfl⟩ : ∃ e, d = e + 1 := ⟨d - 1, by omega⟩
    obtain ⟨g1, g2⟩ := hI
    have hL : σ L = σ0 L := g1 L (by omega) (by omega)
    have he := g2 e (by omega)
    simp only [if_pos (show e < e + 1 by omega)] at he
    have b1 := sf1_bd h1 (fun d hd => ⟨(hb d hd).1, (hb d hd).2.1⟩) e (by omega)
    have b2 := sg1_bd h2 (fun d hd => (hb d hd).2.2) e (by omega)
    unfold f_X0_narrowDays_2
    refine wp_iff (fun q => ?_) ?_
    · have := (nle (a := 20) (by decide) (by omega)).mp q
      omega
    refine wp_lt ?_
    rw [nI_pred]
    refine wp_rd e rfl (by omega) (by decide) (wp_lt (wp_lt (wp_lt (wp_rd e rfl (by omega) (by decide) (wp_lt (wp_lt (wp_c (s_cut (by omega)) (fun _ σ' hs => wp_lt ?_))))))))
    obtain ⟨c1, c2, c3⟩ := hs
    have x1 : (σ (L + 1) e + σ L 2).toInt = sf1 a (lR σ0 L) e + lR σ0 L := by
      have q1 : (σ (L + 1) e).toInt = sf1 a (lR σ0 L) e := he.1
      have q2 : (σ L 2).toInt = lR σ0 L := by rw [hL]
      rw [fb_addI, q1, q2] <;> rw [q1, q2] <;> omega
    have x2 : (σ (L + 2) e + σ L 3).toInt = sg1 b (hR σ0 L) e + hR σ0 L := by
      have q1 : (σ (L + 2) e).toInt = sg1 b (hR σ0 L) e := he.2
      have q2 : (σ L 3).toInt = hR σ0 L := by rw [hL]
      rw [fb_addI, q1, q2] <;> rw [q1, q2] <;> omega
    rw [x1] at c2
    rw [x2] at c3
    rw [nI_1]
    refine ih (e + 1 + 1) n σ' (by omega) (by omega) (by omega) ⟨fun r q1 q2 => by rw [c1 r q1 q2]; exact g1 r q1 q2, fun k hk => ?_⟩
    have gk := g2 k hk
    have ge := g2 (e + 1) (by omega)
    simp only [if_neg (show ¬ e + 1 < e + 1 by omega)] at ge
    rw [c2, c3]
    by_cases ek : k = e + 1
    · subst ek
      simp only [if_pos (show e + 1 < e + 1 + 1 by omega), if_pos trivial]
      rw [ge.1, ge.2]
      exact ⟨rfl, rfl⟩
    · rw [if_neg ek, if_neg ek]
      simp only [show (k < e + 1 + 1) = (k < e + 1) from propext (by omega)]
      exact gk
theorem s_nD48 {L : Nat} {σ0 : bd_S} {a b : Nat → Int} (hb : ∀ d, d < 20 → -210000 ≤ a d ∧ a d ≤ 210000 ∧ -210000 ≤ b d ∧ b d ≤ 210000) (h1 : -100 ≤ lR σ0 L ∧ lR σ0 L ≤ 100) (h2 : -100 ≤ hR σ0 L ∧ hR σ0 L ≤ 100) : ∀ (m d n : Nat) (x : Int32) (σ : bd_S), d + m = 20 → m < n → (m = 0 → x = -1) → (0 < m → x = nI (m - 1)) → 1 ≤ d → ndI L σ0 σ (fun k => if 20 - d ≤ k then sfk a (hR σ0 L) (19 - k) else a k) (fun k => if 20 - d ≤ k then sgk b (lR σ0 L) (19 - k) else b k) →
    wp (f_X0_narrowDays_48 n x L σ) (fun _ σ' => ndI L σ0 σ' (fun k => sfk a (hR σ0 L) (19 - k)) (fun k => sgk b (lR σ0 L) (19 - k))) := by
  intro m
  induction m with
  | zero =>
    intro d n x σ hd hn hx _ _ hI
    obtain ⟨n, rfl⟩ : ∃ z, n = z + 1 := ⟨n - 1, by omega⟩
    have hx := hx rfl
    subst hx
    unfold f_X0_narrowDays_48
    refine wp_ift (by decide) (wp_some ⟨hI.1, fun k hk => ?_⟩)
    have h := hI.2 k hk
    simp only [if_pos (show 20 - d ≤ k by omega)] at h
    exact h
  | succ m ih =>
    intro d n x σ hd hn _ hx h1d hI
    obtain ⟨n, rfl⟩ : ∃ z, n = z + 1 := ⟨n - 1, by omega⟩
    have hx := hx (by omega)
    rw [show m + 1 - 1 = m by omega] at hx
    subst hx
    obtain ⟨g1, g2⟩ := hI
    have hL : σ L = σ0 L := g1 L (by omega) (by omega)
    have he := g2 (m + 1) (by omega)
    simp only [if_pos (show 20 - d ≤ m + 1 by omega)] at he
    have b1 := sfk_bd h2 (fun d hd => ⟨(hb d hd).1, (hb d hd).2.1⟩) (19 - (m + 1)) (by omega)
    have b2 := sgk_bd h1 (fun d hd => (hb d hd).2.2) (19 - (m + 1)) (by omega)
    unfold f_X0_narrowDays_48
    refine wp_iff (fun q => nI_pos (by omega) q) ?_
    refine wp_lt ?_
    rw [nI_1]
    refine wp_rd (m + 1) rfl (by omega) (by decide) (wp_lt (wp_lt (wp_lt (wp_rd (m + 1) rfl (by omega) (by decide) (wp_lt (wp_lt (wp_c (s_cut (by omega)) (fun _ σ' hs => wp_lt ?_))))))))
    obtain ⟨c1, c2, c3⟩ := hs
    have x1 : (σ (L + 1) (m + 1) - σ L 3).toInt = sfk a (hR σ0 L) (19 - (m + 1)) - hR σ0 L := by
      have q1 : (σ (L + 1) (m + 1)).toInt = sfk a (hR σ0 L) (19 - (m + 1)) := he.1
      have q2 : (σ L 3).toInt = hR σ0 L := by rw [hL]
      rw [fb_subI, q1, q2] <;> rw [q1, q2] <;> omega
    have x2 : (σ (L + 2) (m + 1) - σ L 2).toInt = sgk b (lR σ0 L) (19 - (m + 1)) - lR σ0 L := by
      have q1 : (σ (L + 2) (m + 1)).toInt = sgk b (lR σ0 L) (19 - (m + 1)) := he.2
      have q2 : (σ L 2).toInt = lR σ0 L := by rw [hL]
      rw [fb_subI, q1, q2] <;> rw [q1, q2] <;> omega
    rw [x1] at c2
    rw [x2] at c3
    refine ih (d + 1) n _ σ' (by omega) (by omega) (fun q => by subst q; decide) (fun q => ?_) (by omega) ⟨fun r q1 q2 => by rw [c1 r q1 q2]; exact g1 r q1 q2, fun k hk => ?_⟩
    · obtain ⟨z, rfl⟩ : ∃ z, m = z + 1 := ⟨m - 1, by omega⟩
      rw [pk_m1]
      rfl
    · have gk := g2 k hk
      have ge := g2 m (by omega)
      simp only [if_neg (show ¬ 20 - d ≤ m by omega)] at ge
      rw [c2, c3]
      by_cases ek : k = m
      · subst ek
        simp only [if_pos (show 20 - (d + 1) ≤ k by omega), if_pos trivial]
        rw [ge.1, ge.2]
        have e1 : 19 - k = (19 - (k + 1)) + 1 := by omega
        have e2 : 18 - (19 - (k + 1)) = k := by omega
        constructor
        · rw [e1, sfk, e2]
        · rw [e1, sgk, e2]
      · rw [if_neg ek, if_neg ek]
        simp only [show (20 - (d + 1) ≤ k) = (20 - d ≤ k) from propext (by omega)]
        exact gk
theorem s_nD {L : Nat} {σ : bd_S} (hb : bdd (la σ L) (lb σ L)) (h1 : -100 ≤ lR σ L ∧ lR σ L ≤ 100) (h2 : -100 ≤ hR σ L ∧ hR σ L ≤ 100) : wp (f_X0_narrowDays L σ) (fun _ σ' => ndI L σ σ' (fun k => sfk (sf1 (la σ L) (lR σ L)) (hR σ L) (19 - k)) (fun k => sgk (sg1 (lb σ L) (hR σ L)) (lR σ L) (19 - k))) := by
  have bA := sf1_bd h1 (fun d hd => ⟨(hb d hd).1, (hb d hd).2.1⟩)
  have bB := sg1_bd h2 (fun d hd => (hb d hd).2.2)
  unfold f_X0_narrowDays
  refine s_nD2 hb h1 h2 (fun σ' hs => ?_) 19 1 FU_ σ (by decide) (by decide) (by rw [FU_v]; omega) ⟨fun _ _ _ => rfl, fun k hk => ?_⟩
  · refine s_nD48 (σ0 := σ) (fun d hd => ?_) h1 h2 19 1 FU_ _ σ' (by decide) (by rw [FU_v]; omega) (fun q => absurd q (by decide)) (fun _ => rfl) (by decide) ⟨hs.1, fun k hk => ?_⟩
    · have q1 := bA d hd
      have q2 := bB d hd
      omega
    · have h := hs.2 k hk
      by_cases ek : 19 ≤ k
      · have : k = 19 := by omega
        subst this
        simp only [if_pos (show 20 - 1 ≤ 19 by omega)]
        exact h
      · simp only [if_neg (show ¬ 20 - 1 ≤ k by omega)]
        exact h
  · by_cases ek : k < 1
    · have : k = 0 := by omega
      subst this
      exact ⟨rfl, rfl⟩
    · simp only [if_neg ek]
      exact ⟨trivial, trivial⟩
/-- NARROW: the widest narrow spans in what stands, or none -/
theorem s_narrow {L : Nat} {σ : bd_S} (hb : bdd (la σ L) (lb σ L)) (h1 : -100 ≤ lR σ L ∧ lR σ L ≤ 100) (h2 : -100 ≤ hR σ L ∧ hR σ L ≤ 100) : wp (f_X0_narrow L σ) (fun r σ' => fL L σ σ' ∧ ((r = 1 ∧ sp_cl (fun _ => 0) (fun lo hi => sp_sub lo hi (spl σ L) (sph σ L)) (spl σ' L) (sph σ' L)) ∨ (r = 0 ∧ sp_no (fun _ => 0) (fun lo hi => sp_sub lo hi (spl σ L) (sph σ L))))) := by
  have key : ∀ (m i n : Nat), i + m = 20 → m < n → (∀ d, d < i → la σ L d ≤ lb σ L d) → wp (f_X0_narrow_2 (fun L0e e31 => bd_b (f_X0_narrowGain L0e e31) (fun _ s32 => bd_lt (s32 L0e 2) (fun z36 => bd_lt (s32 L0e 3) (fun z40 => (if z36 ≤ z40 then bd_b (f_X0_narrowDays L0e s32) (fun _ s49 => bd_zr 1 s49) else bd_zr 0 s32))))) n (nI i) L σ) (fun r σ' => fL L σ σ' ∧ ((r = 1 ∧ sp_cl (fun _ => 0) (fun lo hi => sp_sub lo hi (spl σ L) (sph σ L)) (spl σ' L) (sph σ' L)) ∨ (r = 0 ∧ sp_no (fun _ => 0) (fun lo hi => sp_sub lo hi (spl σ L) (sph σ L))))) := by
    intro m
    induction m with
    | zero =>
      intro i n hi hn hne
      obtain ⟨n, rfl⟩ : ∃ z, n = z + 1 := ⟨n - 1, by omega⟩
      have : i = 20 := by omega
      subst this
      unfold f_X0_narrow_2
      refine wp_ift ((nle (by decide) (by decide)).mpr (Nat.le_refl 20)) (wp_c (s_nG hb h1 h2) (fun _ σ1 hs => ?_))
      obtain ⟨g1, g2, g3, g4, g5⟩ := hs
      have e1 : la σ1 L = la σ L := by show (fun d => (σ1 (L + 1) d).toInt) = _; rw [g1 _ (by omega)]
      have e2 : lb σ1 L = lb σ L := by show (fun d => (σ1 (L + 2) d).toInt) = _; rw [g1 _ (by omega)]
      refine wp_lt (wp_lt (wp_if (fun q => ?_) (fun q => ?_)))
      · have q : lR σ1 L ≤ hR σ1 L := ti_le.mp q
        refine wp_c (s_nD (by rw [e1, e2]; exact hb) (by omega) (by omega)) (fun _ σ2 ht => wp_zr (Or.inr rfl) ⟨fun r q1 q2 q3 => (ht.1 r q2 q3).trans (g1 r q1), Or.inl ⟨rfl, ?_⟩⟩)
        rw [e1, e2] at ht
        have eL : σ2 L = σ1 L := ht.1 L (by omega) (by omega)
        have hc := sp_core (a := la σ L) (b := lb σ L) (lr0 := lR σ L) (hr0 := hR σ L) (lr := lR σ1 L) (hr := hR σ1 L) (A1 := sf1 (la σ L) (lR σ1 L)) (A2 := fun k => sfk (sf1 (la σ L) (lR σ1 L)) (hR σ1 L) (19 - k)) (B1 := sg1 (lb σ L) (hR σ1 L)) (B2 := fun k => sgk (sg1 (lb σ L) (hR σ1 L)) (lR σ1 L) (19 - k)) hne q g4 g5 rfl (fun d _ => rfl) rfl
          (fun d hd => by
            have e3 : 19 - d = (19 - (d + 1)) + 1 := by omega
            have e4 : 18 - (19 - (d + 1)) = d := by omega
            show sfk _ _ (19 - d) = _
            rw [e3, sfk, e4]) rfl (fun d _ => rfl) rfl
          (fun d hd => by
            have e3 : 19 - d = (19 - (d + 1)) + 1 := by omega
            have e4 : 18 - (19 - (d + 1)) = d := by omega
            show sgk _ _ (19 - d) = _
            rw [e3, sgk, e4])
        have f1 : ∀ k, k ≤ 20 → spl σ2 L k = sp_j (fun k => sfk (sf1 (la σ L) (lR σ1 L)) (hR σ1 L) (19 - k)) (lR σ1 L) k := by
          intro k hk
          by_cases ek : k = 20
          · subst ek
            show sp_j _ _ 20 = _
            rw [sp_jr, sp_jr]
            show (σ2 L 2).toInt = _
            rw [eL]
          · show sp_j _ _ k = _
            rw [sp_jd (by omega), sp_jd (by omega)]
            exact (ht.2 k (by omega)).1
        have f2 : ∀ k, k ≤ 20 → sph σ2 L k = sp_j (fun k => sgk (sg1 (lb σ L) (hR σ1 L)) (lR σ1 L) (19 - k)) (hR σ1 L) k := by
          intro k hk
          by_cases ek : k = 20
          · subst ek
            show sp_j _ _ 20 = _
            rw [sp_jr, sp_jr]
            show (σ2 L 3).toInt = _
            rw [eL]
          · show sp_j _ _ k = _
            rw [sp_jd (by omega), sp_jd (by omega)]
            exact (ht.2 k (by omega)).2
        exact sp_cl_ext hc f1 f2
      · have q : ¬ lR σ1 L ≤ hR σ1 L := fun z => q (ti_le.mpr z)
        refine wp_zr (Or.inl rfl) ⟨fun r q1 q2 q3 => g1 r q1, Or.inr ⟨rfl, sp_core_no (show hR σ1 L < lR σ1 L by omega) g4 g5⟩⟩
    | succ m ih =>
      intro i n hi hn hne
      obtain ⟨n, rfl⟩ : ∃ z, n = z + 1 := ⟨n - 1, by omega⟩
      unfold f_X0_narrow_2
      refine wp_iff (fun q => ?_) ?_
      · have := (nle (a := 20) (by decide) (by omega)).mp q
        omega
      refine wp_rd i rfl (by omega) (by decide) (wp_rd i rfl (by omega) (by decide) (wp_if (fun q => ?_) (fun q => ?_)))
      · refine wp_lt ?_
        rw [nI_1]
        refine ih (i + 1) n (by omega) (by omega) (fun d hd => ?_)
        by_cases ed : d = i
        · subst ed
          exact ti_le.mp q
        · exact hne d (by omega)
      · have q : ¬ la σ L i ≤ lb σ L i := fun z => q (ti_le.mpr z)
        refine wp_zr (Or.inl rfl) ⟨fL.rf, Or.inr ⟨rfl, sp_core_no2 (d := i) (by omega) ?_⟩⟩
        show sp_j (lb σ L) _ i < sp_j (la σ L) _ i
        rw [sp_jd (by omega), sp_jd (by omega)]
        omega
  unfold f_X0_narrow
  exact key 20 0 FU_ (by decide) (by rw [FU_v]; omega) (fun d hd => absurd hd (Nat.not_lt_zero d))
