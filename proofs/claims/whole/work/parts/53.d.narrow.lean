/-! NARROW of the reference -/
abbrev cl (σ : bd_S) : Nat → Int := fun k => (σ 79 k).toInt
abbrev ch (σ : bd_S) : Nat → Int := fun k => (σ 80 k).toInt
abbrev cg (σ : bd_S) : Nat → Int := fun k => (σ 81 k).toInt
def mu (f : Nat → Int) : Nat → Int
  | 0 => 0
  | n + 1 => mu f n + f n
theorem mu_le {f g : Nat → Int} : ∀ n : Nat, (∀ k, k < n → f k ≤ g k) → mu f n ≤ mu g n := by
  intro n
  induction n with
  | zero => intro _; exact Int.le_refl _
  | succ n ih => intro h; have h1 := ih (fun k hk => h k (by omega)); have h2 := h n (by omega); unfold mu; omega
theorem mu_lt {f g : Nat → Int} {d : Nat} (hd : f d < g d) : ∀ n : Nat, d < n → (∀ k, k < n → f k ≤ g k) → mu f n < mu g n := by
  intro n
  induction n with
  | zero => intro h; omega
  | succ n ih =>
    intro h hh
    have h2 := hh n (by omega)
    unfold mu
    by_cases e : d = n
    · subst e
      have h1 := mu_le (f := f) (g := g) d (fun k hk => hh k (by omega))
      omega
    · have h1 := ih (by omega) (fun k hk => hh k (by omega))
      omega
def mm (σ : bd_S) : Int := mu (fun k => ch σ k - cl σ k) 21
def fN (σ σ' : bd_S) : Prop := (∀ r, r ≠ 55 → r ≠ 79 → r ≠ 80 → σ' r = σ r) ∧ ∀ k, k ≠ 29 → σ' 55 k = σ 55 k
theorem fN.rf {σ : bd_S} : fN σ σ := ⟨fun _ _ _ _ => rfl, fun _ _ => rfl⟩
theorem fN.tr {σ σ' σ'' : bd_S} (h : fN σ σ') (h' : fN σ' σ'') : fN σ σ'' := ⟨fun r q1 q2 q3 => (h'.1 r q1 q2 q3).trans (h.1 r q1 q2 q3), fun k q => (h'.2 k q).trans (h.2 k q)⟩
def Mo (σ σ' : bd_S) : Prop := ∀ k, cl σ k ≤ cl σ' k ∧ ch σ' k ≤ ch σ k
theorem Mo.rf {σ : bd_S} : Mo σ σ := fun _ => ⟨Int.le_refl _, Int.le_refl _⟩
theorem Mo.tr {σ σ' σ'' : bd_S} (h : Mo σ σ') (h' : Mo σ' σ'') : Mo σ σ'' := fun k => ⟨Int.le_trans (h k).1 (h' k).1, Int.le_trans (h' k).2 (h k).2⟩
def Nst (σ σ' : bd_S) : Prop := fN σ σ' ∧ Mo σ σ' ∧ (σ' = σ ∨ (σ' 55 29 = 1 ∧ mm σ' < mm σ))
theorem Nst.rf {σ : bd_S} : Nst σ σ := ⟨fN.rf, Mo.rf, Or.inl rfl⟩
theorem Nst.le {σ σ' : bd_S} (h : Nst σ σ') : mm σ' ≤ mm σ := by
  rcases h.2.2 with q | q
  · rw [q]; exact Int.le_refl _
  · omega
theorem Nst.tr {σ σ' σ'' : bd_S} (h : Nst σ σ') (h' : Nst σ' σ'') : Nst σ σ'' := by
  refine ⟨h.1.tr h'.1, h.2.1.tr h'.2.1, ?_⟩
  have h1 := h.le
  have h2 := h'.le
  rcases h'.2.2 with q | q
  · rw [q]; exact h.2.2
  · exact Or.inr ⟨q.1, by omega⟩
theorem Nst.eq {σ σ' σ'' : bd_S} (h : Nst σ σ') (h' : Nst σ' σ'') (e : σ'' = σ) : σ' = σ := by
  rcases h.2.2 with q | q
  · exact q
  · have := h'.le
    rw [e] at this
    omega
theorem s_within22 {d : Nat} {y : Int32} {σ : bd_S} (hd : d ≤ 20) : wp (f_X3_within_22 (nI d) y σ) (fun _ σ' => Nst σ σ' ∧ (∀ k, cl σ' k = cl σ k) ∧ (∀ k, ch σ' k = if k = d then min (ch σ d) y.toInt else ch σ k)) := by
  unfold f_X3_within_22
  refine wp_rd d rfl (by omega) (by decide) (wp_if (fun h => ?_) (fun h => ?_))
  · have h : ch σ d ≤ y.toInt := ti_le.mp h
    refine wp_some ⟨Nst.rf, fun k => rfl, fun k => ?_⟩
    by_cases e : k = d
    · subst e; rw [if_pos rfl]; omega
    · rw [if_neg e]
  · have h : ¬ ch σ d ≤ y.toInt := fun q => h (ti_le.mpr q)
    refine wp_wr d rfl (by omega) (by decide) (wp_lt (wp_some ?_))
    have e1 : ∀ k, cl (bd_st (bd_st σ 80 d y) 55 29 1) k = cl σ k := fun k => by
      show (bd_st _ 55 29 1 79 k).toInt = _
      rw [st_ne (by decide), st_ne (by decide)]
    have e2 : ∀ k, ch (bd_st (bd_st σ 80 d y) 55 29 1) k = if k = d then min (ch σ d) y.toInt else ch σ k := fun k => by
      show (bd_st _ 55 29 1 80 k).toInt = _
      rw [st_ne (by decide)]
      by_cases e : k = d
      · subst e; rw [st_same, if_pos rfl]; omega
      · rw [st_off e, if_neg e]
    have e3 : Mo σ (bd_st (bd_st σ 80 d y) 55 29 1) := fun k => by
      rw [e1, e2]
      by_cases e : k = d
      · subst e; rw [if_pos rfl]; omega
      · rw [if_neg e]; omega
    refine ⟨⟨⟨fun r q1 q2 q3 => ?_, fun k q => ?_⟩, e3, Or.inr ⟨st_same, ?_⟩⟩, e1, e2⟩
    · rw [st_ne q1, st_ne q3]
    · rw [st_off q, st_ne (by decide)]
    · refine mu_lt (d := d) ?_ 21 (by omega) (fun k _ => ?_)
      · show ch _ d - cl _ d < ch σ d - cl σ d
        rw [e1, e2, if_pos rfl]
        omega
      · have := e3 k
        show ch _ k - cl _ k ≤ ch σ k - cl σ k
        omega
theorem s_within {d : Nat} {x y : Int32} {σ : bd_S} (hd : d ≤ 20) : wp (f_X3_within (nI d) x y σ) (fun _ σ' => Nst σ σ' ∧ (∀ k, cl σ' k = if k = d then max (cl σ d) x.toInt else cl σ k) ∧ (∀ k, ch σ' k = if k = d then min (ch σ d) y.toInt else ch σ k)) := by
  unfold f_X3_within
  refine wp_rd d rfl (by omega) (by decide) (wp_if (fun h => ?_) (fun h => ?_))
  · have h : x.toInt ≤ cl σ d := ti_le.mp h
    refine wp_mono (s_within22 hd) (fun _ σ' hs => ⟨hs.1, fun k => ?_, hs.2.2⟩)
    rw [hs.2.1]
    by_cases e : k = d
    · subst e; rw [if_pos rfl]; omega
    · rw [if_neg e]
  · have h : ¬ x.toInt ≤ cl σ d := fun q => h (ti_le.mpr q)
    refine wp_wr d rfl (by omega) (by decide) (wp_lt (wp_mono (s_within22 hd) (fun _ σ' hs => ?_)))
    have e1 : ∀ k, ch (bd_st (bd_st σ 79 d x) 55 29 1) k = ch σ k := fun k => by
      show (bd_st _ 55 29 1 80 k).toInt = _
      rw [st_ne (by decide), st_ne (by decide)]
    have e2 : ∀ k, cl (bd_st (bd_st σ 79 d x) 55 29 1) k = if k = d then max (cl σ d) x.toInt else cl σ k := fun k => by
      show (bd_st _ 55 29 1 79 k).toInt = _
      rw [st_ne (by decide)]
      by_cases e : k = d
      · subst e; rw [st_same, if_pos rfl]; omega
      · rw [st_off e, if_neg e]
    have e3 : Mo σ (bd_st (bd_st σ 79 d x) 55 29 1) := fun k => by
      rw [e1, e2]
      by_cases e : k = d
      · subst e; rw [if_pos rfl]; omega
      · rw [if_neg e]; omega
    have e4 : Nst σ (bd_st (bd_st σ 79 d x) 55 29 1) := by
      refine ⟨⟨fun r q1 q2 q3 => ?_, fun k q => ?_⟩, e3, Or.inr ⟨st_same, ?_⟩⟩
      · rw [st_ne q1, st_ne q2]
      · rw [st_off q, st_ne (by decide)]
      · refine mu_lt (d := d) ?_ 21 (by omega) (fun k _ => ?_)
        · show ch _ d - cl _ d < ch σ d - cl σ d
          rw [e1, e2, if_pos rfl]
          omega
        · have := e3 k
          show ch _ k - cl _ k ≤ ch σ k - cl σ k
          omega
    refine ⟨e4.tr hs.1, fun k => ?_, fun k => ?_⟩
    · rw [hs.2.1, e2]
    · rw [hs.2.2, e1, e1]
theorem s_downT {x y : Int32} {σ : bd_S} (hy : 0 < y.toInt) : wp (f_X3_down x y σ) (fun r σ' => σ' = σ ∧ (-1000000000 ≤ x.toInt ∧ x.toInt ≤ 1000000000 → r.toInt = x.toInt / y.toInt)) := by
  by_cases h : -1000000000 ≤ x.toInt ∧ x.toInt ≤ 1000000000
  · exact wp_mono (s_down hy h) (fun r σ' q => ⟨q.1, fun _ => q.2⟩)
  · unfold f_X3_down
    exact wp_dv (fl_ne hy) (wp_lt (wp_if (fun _ => wp_some ⟨rfl, fun q => absurd q h⟩) (fun _ => wp_lt (wp_some ⟨rfl, fun q => absurd q h⟩))))
theorem s_upT {x y : Int32} {σ : bd_S} (hy : 0 < y.toInt) : wp (f_X3_up x y σ) (fun r σ' => σ' = σ ∧ (-1000000000 ≤ x.toInt ∧ x.toInt ≤ 1000000000 → r.toInt = -(-x.toInt / y.toInt))) := by
  by_cases h : -1000000000 ≤ x.toInt ∧ x.toInt ≤ 1000000000
  · exact wp_mono (s_up hy h) (fun r σ' q => ⟨q.1, fun _ => q.2⟩)
  · unfold f_X3_up
    exact wp_lt (wp_c (s_downT hy) (fun r σ' q => wp_lt (wp_some ⟨q.1, fun z => absurd z h⟩)))
theorem ex_n {n b : Int32} (hb : -100 ≤ b.toInt ∧ b.toInt ≤ 100) (hn : 0 ≤ n.toInt ∧ n.toInt ≤ 20) : (n * b).toInt = n.toInt * b.toInt ∧ -2000 ≤ n.toInt * b.toInt ∧ n.toInt * b.toInt ≤ 2000 := by
  have h1 := sp_mle hn.1 hb.1
  have h2 := sp_mle hn.1 hb.2
  exact ⟨fb_mulI (by omega) (by omega), by omega, by omega⟩
theorem ex_p {a n b g : Int32} (ha : -200000 ≤ a.toInt ∧ a.toInt ≤ 200000) (hb : -100 ≤ b.toInt ∧ b.toInt ≤ 100) (hn : 0 ≤ n.toInt ∧ n.toInt ≤ 20) (hg : -2000 ≤ g.toInt ∧ g.toInt ≤ 2000) : (a + n * b + g).toInt = a.toInt + n.toInt * b.toInt + g.toInt := by
  obtain ⟨h1, h2, h3⟩ := ex_n hb hn
  have h4 : (a + n * b).toInt = a.toInt + n.toInt * b.toInt := by rw [fb_addI, h1] <;> rw [h1] <;> omega
  rw [fb_addI, h4] <;> rw [h4] <;> omega
theorem ex_m {a n b g : Int32} (ha : -200000 ≤ a.toInt ∧ a.toInt ≤ 200000) (hb : -100 ≤ b.toInt ∧ b.toInt ≤ 100) (hn : 0 ≤ n.toInt ∧ n.toInt ≤ 20) (hg : -2000 ≤ g.toInt ∧ g.toInt ≤ 2000) : (a - n * b - g).toInt = a.toInt - n.toInt * b.toInt - g.toInt := by
  obtain ⟨h1, h2, h3⟩ := ex_n hb hn
  have h4 : (a - n * b).toInt = a.toInt - n.toInt * b.toInt := by rw [fb_subI, h1] <;> rw [h1] <;> omega
  rw [fb_subI, h4] <;> rw [h4] <;> omega
theorem ex_s {a b g : Int32} (ha : -200000 ≤ a.toInt ∧ a.toInt ≤ 200000) (hb : -200000 ≤ b.toInt ∧ b.toInt ≤ 200000) (hg : -2000 ≤ g.toInt ∧ g.toInt ≤ 2000) : (a - b - g).toInt = a.toInt - b.toInt - g.toInt ∧ -1000000000 ≤ (a - b - g).toInt ∧ (a - b - g).toInt ≤ 1000000000 := by
  have h4 : (a - b).toInt = a.toInt - b.toInt := by rw [fb_subI] <;> omega
  have h5 : (a - b - g).toInt = a.toInt - b.toInt - g.toInt := by rw [fb_subI, h4] <;> rw [h4] <;> omega
  rw [h5]
  exact ⟨rfl, by omega, by omega⟩
def snd (g : Nat → Int) (σ σ' : bd_S) : Prop := ∀ lo hi, sp_nar g lo hi → sp_ne lo hi → sp_sub lo hi (cl σ) (ch σ) → sp_sub lo hi (cl σ') (ch σ')
theorem snd.rf {g : Nat → Int} {σ : bd_S} : snd g σ σ := fun _ _ _ _ h => h
theorem snd.tr {g : Nat → Int} {σ σ' σ'' : bd_S} (h : snd g σ σ') (h' : snd g σ' σ'') : snd g σ σ'' := fun lo hi q1 q2 q3 => h' lo hi q1 q2 (h lo hi q1 q2 q3)
def Bn (σ : bd_S) : Prop := (∀ k, k < 20 → -200000 ≤ cl σ k ∧ ch σ k ≤ 200000) ∧ (-100 ≤ cl σ 20 ∧ ch σ 20 ≤ 100) ∧ ∀ k, k < 20 → -1000 ≤ cg σ k ∧ cg σ k ≤ 1000
theorem Bn.mo {σ σ' : bd_S} (h : Bn σ) (q : Mo σ σ') (e : σ' 81 = σ 81) : Bn σ' := by
  refine ⟨fun k hk => ?_, ?_, fun k hk => ?_⟩
  · have := h.1 k hk; have := q k; omega
  · have := h.2.1; have := q 20; omega
  · show -1000 ≤ (σ' 81 k).toInt ∧ (σ' 81 k).toInt ≤ 1000
    rw [e]; exact h.2.2 k hk
def nar1 (g lo hi : Nat → Int) (i j : Nat) : Prop :=
  lo i + ((j : Int) - i) * lo 20 + (g j - g i) ≤ lo j ∧ hi j ≤ hi i + ((j : Int) - i) * hi 20 + (g j - g i) ∧
  lo j - ((j : Int) - i) * hi 20 - (g j - g i) ≤ lo i ∧ hi i ≤ hi j - ((j : Int) - i) * lo 20 - (g j - g i) ∧
  lo j - hi i - (g j - g i) ≤ ((j : Int) - i) * lo 20 ∧ ((j : Int) - i) * hi 20 ≤ hi j - lo i - (g j - g i)
/-- what stands within the bounds -/
theorem Bn.at {σ : bd_S} (h : Bn σ) (hne : sp_ne (cl σ) (ch σ)) {k : Nat} (hk : k < 20) : (-200000 ≤ (σ 79 k).toInt ∧ (σ 79 k).toInt ≤ 200000) ∧ (-200000 ≤ (σ 80 k).toInt ∧ (σ 80 k).toInt ≤ 200000) := by
  have h1 := h.1 k hk
  have h2 : cl σ k ≤ ch σ k := hne k (by omega)
  have e1 : cl σ k = (σ 79 k).toInt := rfl
  have e2 : ch σ k = (σ 80 k).toInt := rfl
  omega
theorem Bn.rt {σ : bd_S} (h : Bn σ) (hne : sp_ne (cl σ) (ch σ)) : (-100 ≤ (σ 79 20).toInt ∧ (σ 79 20).toInt ≤ 100) ∧ (-100 ≤ (σ 80 20).toInt ∧ (σ 80 20).toInt ≤ 100) := by
  have h1 := h.2.1
  have h2 : cl σ 20 ≤ ch σ 20 := hne 20 (by omega)
  have e1 : cl σ 20 = (σ 79 20).toInt := rfl
  have e2 : ch σ 20 = (σ 80 20).toInt := rfl
  omega
theorem ne_of_sub {lo hi a b : Nat → Int} (hne : sp_ne lo hi) (h : sp_sub lo hi a b) : sp_ne a b := fun k hk => by
  have h1 := hne k hk
  have h2 := h k hk
  omega
