/-! AGREES, WEIGHT of the reference -/
def q5 (σs σ : bd_S) : Prop := ∀ r k, ¬ (r = 55 ∧ (k = 34 ∨ k = 35)) → σ r k = σs r k
theorem q5.tr {σ σ' σ'' : bd_S} (h : q5 σ σ') (h' : q5 σ' σ'') : q5 σ σ'' := fun r k q => (h' r k q).trans (h r k q)
theorem q5.u {σ0 σ σ' : bd_S} (hU : qU σ0 σ) (h : q5 σ σ') : qU σ0 σ' := fun r k q => (h r k (fun z => q (by unfold qS; omega))).trans (hU r k q)
theorem q5.R {σ0 σ σ' : bd_S} {s : Nat} (hR : RR σ0 s 3 σ) (h : q5 σ σ') : RR σ0 s 3 σ' := fun c hc => (hR c hc).cg ⟨h 82 c (by omega), h 83 c (by omega), h 84 c (by omega)⟩
theorem ag_76 {σs σ : bd_S} {K : Int32 → Int32 → Int32 → bd_S → Option (Int32 × bd_S)} {P : Int32 → bd_S → Prop} {c : Nat} {x2 v x1 : Int32} (hc : c < 3) (h5 : q5 σs σ) (hk : ∀ σ', q5 σs σ' → (σ' 55 34) = v → (σ' 55 35).toInt = min (σ 55 35).toInt (σs 83 c).toInt → wp (K (nI (c + 1)) x2 x1 σ') P) : wp (f_X3_agrees_76 K x2 (nI c) x1 v σ) P := by
  have e83 : bd_st σ 55 34 v 83 c = σs 83 c := by rw [st_ne (by decide)]; exact h5 83 c (by omega)
  have e35 : bd_st σ 55 34 v 55 35 = σ 55 35 := st_off (by decide)
  have f5 : ∀ y, q5 σs (bd_st (bd_st σ 55 34 v) 55 35 y) := fun y r k q => by
    rw [st_all, if_neg (by omega), st_all, if_neg (by omega)]; exact h5 r k q
  have e34 : ∀ y, bd_st (bd_st σ 55 34 v) 55 35 y 55 34 = v := fun y => by rw [st_off (by decide), st_same]
  unfold f_X3_agrees_76
  refine wp_lt (wp_rd c rfl hc (by decide) (wp_lt (wp_if (fun q => wp_lt (wp_lt (wp_lt ?_))) (fun q => wp_rd c rfl hc (by decide) (wp_lt (wp_lt ?_))))))
  · rw [e83, e35] at q
    have q := ti_le.mp q
    rw [nI_1]
    refine hk _ (f5 _) (e34 _) ?_
    rw [st_same, e35]
    omega
  · rw [e83, e35] at q
    have q : ¬ (σ 55 35).toInt ≤ (σs 83 c).toInt := fun z => q (ti_le.mpr z)
    rw [nI_1]
    refine hk _ (f5 _) (e34 _) ?_
    rw [st_same, e83]
    omega
theorem ag_48 {σs σ : bd_S} {K : Int32 → Int32 → Int32 → bd_S → Option (Int32 × bd_S)} {P : Int32 → bd_S → Prop} {c : Nat} {t0 x1 : Int32} (hc : c < 3) (h5 : q5 σs σ) (hk : ∀ σ', q5 σs σ' → (σ' 55 34).toInt = max (σ 55 34).toInt (σs 82 c).toInt → (σ' 55 35).toInt = min (σ 55 35).toInt (σs 83 c).toInt → wp (K (nI (c + 1)) t0 x1 σ') P) : wp (f_X3_agrees_48 K (nI c) x1 t0 σ) P := by
  have e82 : σ 82 c = σs 82 c := h5 82 c (by omega)
  unfold f_X3_agrees_48
  refine wp_rd c rfl hc (by decide) (wp_lt (wp_if (fun q => wp_lt ?_) (fun q => wp_rd c rfl hc (by decide) ?_)))
  · have q := ti_le.mp q
    rw [e82] at q
    refine ag_76 hc h5 (fun σ' h1 h2 h3 => hk σ' h1 ?_ h3)
    rw [h2]
    omega
  · have q : ¬ (σ 82 c).toInt ≤ (σ 55 34).toInt := fun z => q (ti_le.mpr z)
    rw [e82] at q
    refine ag_76 hc h5 (fun σ' h1 h2 h3 => hk σ' h1 ?_ h3)
    rw [h2, e82]
    omega
def hG (σ : bd_S) (t n : Nat) : Prop := ∀ j, j < n → bi t j = 1 → ¬ (σ 84 j).toInt = 0
theorem ag_16 {σs : bd_S} {t : Nat} (ht : t < 8) {K : Int32 → bd_S → Option (Int32 × bd_S)} {P : Int32 → bd_S → Prop} (hk : ∀ σ' (x : Int32), q5 σs σ' → (σ' 55 34).toInt = fM (-100000000) (fun c => (σs 82 c).toInt) t 3 → (σ' 55 35).toInt = fm 100000000 (fun c => (σs 83 c).toInt) t 3 → (x = 1 ∧ hG σs t 3 ∨ x = 0 ∧ ¬ hG σs t 3) → wp (K x σ') P) :
    ∀ (m c n : Nat) (x : Int32) (σ : bd_S), c + m = 3 → m < n → q5 σs σ → (σ 55 34).toInt = fM (-100000000) (fun c => (σs 82 c).toInt) t c → (σ 55 35).toInt = fm 100000000 (fun c => (σs 83 c).toInt) t c → (x = 1 ∧ hG σs t c ∨ x = 0 ∧ ¬ hG σs t c) → wp (f_X3_agrees_16 K n (nI c) x (nI t) σ) P := by
  intro m
  induction m with
  | zero =>
    intro c n x σ hc hn h5 h34 h35 hx
    obtain ⟨n, rfl⟩ : ∃ z, n = z + 1 := ⟨n - 1, by omega⟩
    have : c = 3 := by omega
    subst this
    unfold f_X3_agrees_16
    exact wp_ift ((nle (by decide) (by decide)).mpr (Nat.le_refl 3)) (hk σ x h5 h34 h35 hx)
  | succ m ih =>
    intro c n x σ hc hn h5 h34 h35 hx
    obtain ⟨n, rfl⟩ : ∃ z, n = z + 1 := ⟨n - 1, by omega⟩
    have hc3 : c < 3 := by omega
    have hb := bi_1 t ht c hc3
    have e84 : σ 84 c = σs 84 c := h5 84 c (by omega)
    have z0 : ∀ y : Int32, y = 0 ↔ y.toInt = 0 := fun y => ti_eq
    unfold f_X3_agrees_16
    refine wp_iff (fun q => ?_) (wp_lt (wp_lt ?_))
    · have := (nle (a := 3) (by decide) (by omega)).mp q
      omega
    rw [b_sh t ht c hc3]
    have go : bi t c = 1 → ∀ x' : Int32, (x' = 1 ∧ hG σs t (c + 1) ∨ x' = 0 ∧ ¬ hG σs t (c + 1)) → wp (f_X3_agrees_48 (f_X3_agrees_16 K n) (nI c) (nI t) x' σ) P := fun hbit x' hx' => by
      refine ag_48 hc3 h5 (fun σ' g1 g2 g3 => ih (c + 1) n x' σ' (by omega) (by omega) g1 ?_ ?_ hx')
      · rw [g2, h34, fM_y hbit]
      · rw [g3, h35, fm_y hbit]
    refine wp_if (fun q => ?_) (fun q => wp_lt ?_)
    · have hbit := hb.mp q
      rcases hx with ⟨rfl, hg⟩ | ⟨rfl, hg⟩
      · refine wp_iff (by decide) (wp_rd c rfl hc3 (by decide) (wp_if (fun q => ?_) (fun q => ?_)))
        · rw [e84, z0] at q
          exact go hbit 0 (Or.inr ⟨rfl, fun z => z c (by omega) hbit q⟩)
        · rw [e84, z0] at q
          refine go hbit 1 (Or.inl ⟨rfl, fun j hj b => ?_⟩)
          by_cases e : j = c
          · subst e; exact q
          · exact hg j (by omega) b
      · exact wp_ift rfl (go hbit 0 (Or.inr ⟨rfl, fun z => hg (fun j hj => z j (by omega))⟩))
    · have hbit : ¬ bi t c = 1 := fun z => q (hb.mpr z)
      have key : hG σs t (c + 1) ↔ hG σs t c := by
        refine ⟨fun z j hj => z j (by omega), fun z j hj b => ?_⟩
        by_cases e : j = c
        · subst e; exact absurd b hbit
        · exact z j (by omega) b
      rw [nI_1]
      refine ih (c + 1) n x σ (by omega) (by omega) h5 ?_ ?_ ?_
      · rw [h34, fM_n hbit]
      · rw [h35, fm_n hbit]
      · rw [key]; exact hx
def AG (σ : bd_S) (t : Nat) : Prop := hG σ t 3 ∧ fM (-100000000) (fun c => (σ 82 c).toInt) t 3 ≤ fm 100000000 (fun c => (σ 83 c).toInt) t 3
theorem s_agrees {σ : bd_S} {t : Nat} (ht : t < 8) : wp (f_X3_agrees (nI t) σ) (fun r σ' => q5 σ σ' ∧ (σ' 55 34).toInt = fM (-100000000) (fun c => (σ 82 c).toInt) t 3 ∧ (σ' 55 35).toInt = fm 100000000 (fun c => (σ 83 c).toInt) t 3 ∧ (r = 1 ∧ AG σ t ∨ r = 0 ∧ ¬ AG σ t)) := by
  unfold f_X3_agrees
  refine wp_lt (wp_lt ?_)
  refine ag_16 (σs := σ) ht (fun σ' x g1 g2 g3 g4 => ?_) 3 0 FU_ 1 _ (by decide) (by rw [FU_v]; omega) (fun r k q => ?_) ?_ ?_ (Or.inl ⟨rfl, fun j hj => absurd hj (Nat.not_lt_zero j)⟩)
  · rcases g4 with ⟨rfl, g4⟩ | ⟨rfl, g4⟩
    · refine wp_iff (by decide) (wp_lt (wp_lt (wp_if (fun q => wp_zr (Or.inl rfl) ⟨g1, g2, g3, Or.inr ⟨rfl, fun z => ?_⟩⟩) (fun q => wp_zr (Or.inr rfl) ⟨g1, g2, g3, Or.inl ⟨rfl, g4, ?_⟩⟩))))
      · have q := ti_lt.mp q
        rw [g2, g3] at q
        have := z.2
        omega
      · have q : ¬ (σ' 55 35).toInt < (σ' 55 34).toInt := fun z => q (ti_lt.mpr z)
        rw [g2, g3] at q
        omega
    · exact wp_ift rfl (wp_zr (Or.inl rfl) ⟨g1, g2, g3, Or.inr ⟨rfl, fun z => g4 z.1⟩⟩)
  · rw [st_all, if_neg (by omega), st_all, if_neg (by omega)]
  · rw [st_off (by decide), st_same]; rfl
  · rw [st_same]; rfl
theorem fM_3 (a : Int) (p : Nat → Int) (t : Nat) : fM a p t 3 = if bi t 2 = 1 then max (if bi t 1 = 1 then max (if bi t 0 = 1 then max a (p 0) else a) (p 1) else (if bi t 0 = 1 then max a (p 0) else a)) (p 2) else (if bi t 1 = 1 then max (if bi t 0 = 1 then max a (p 0) else a) (p 1) else (if bi t 0 = 1 then max a (p 0) else a)) := rfl
theorem fm_3 (a : Int) (p : Nat → Int) (t : Nat) : fm a p t 3 = if bi t 2 = 1 then min (if bi t 1 = 1 then min (if bi t 0 = 1 then min a (p 0) else a) (p 1) else (if bi t 0 = 1 then min a (p 0) else a)) (p 2) else (if bi t 1 = 1 then min (if bi t 0 = 1 then min a (p 0) else a) (p 1) else (if bi t 0 = 1 then min a (p 0) else a)) := rfl
theorem hG_3 {σ : bd_S} {t : Nat} : hG σ t 3 ↔ ((bi t 0 = 1 → ¬ (σ 84 0).toInt = 0) ∧ (bi t 1 = 1 → ¬ (σ 84 1).toInt = 0) ∧ (bi t 2 = 1 → ¬ (σ 84 2).toInt = 0)) := by
  constructor
  · intro h; exact ⟨h 0 (by decide), h 1 (by decide), h 2 (by decide)⟩
  · rintro ⟨h0, h1, h2⟩ j hj
    have : j = 0 ∨ j = 1 ∨ j = 2 := by omega
    rcases this with rfl | rfl | rfl
    · exact h0
    · exact h1
    · exact h2
theorem agr_R {σ0 σ : bd_S} {s t : Nat} (hR : RR σ0 s 3 σ) : AG σ t ↔ agr σ0 s t := by
  have h0 := hR 0 (by decide)
  have h1 := hR 1 (by decide)
  have h2 := hR 2 (by decide)
  unfold AG agr
  rw [hG_3, fM_3, fM_3, fm_3, fm_3]
  unfold RR1 at h0 h1 h2
  generalize (σ 84 0).toInt = a0 at *
  generalize (σ 84 1).toInt = a1 at *
  generalize (σ 84 2).toInt = a2 at *
  generalize (σ 82 0).toInt = u0 at *
  generalize (σ 82 1).toInt = u1 at *
  generalize (σ 82 2).toInt = u2 at *
  generalize (σ 83 0).toInt = v0 at *
  generalize (σ 83 1).toInt = v1 at *
  generalize (σ 83 2).toInt = v2 at *
  generalize plc σ0 s 0 = p0 at *
  generalize plc σ0 s 1 = p1 at *
  generalize plc σ0 s 2 = p2 at *
  generalize pgc σ0 s 0 = g0 at *
  generalize pgc σ0 s 1 = g1 at *
  generalize pgc σ0 s 2 = g2 at *
  by_cases b0 : bi t 0 = 1 <;> by_cases b1 : bi t 1 = 1 <;> by_cases b2 : bi t 2 = 1 <;> simp only [b0, b1, b2, if_true, if_false, forall_const, true_implies, false_implies, true_and, and_true] <;> rcases h0 with h0 | h0 <;> rcases h1 with h1 | h1 <;> rcases h2 with h2 | h2 <;> omega
/-- the places that a set shares, told by both -/
theorem shr_R {σ0 σ : bd_S} {s t : Nat} (ht : t < 8) (h0 : ¬ t = 0) (hR : RR σ0 s 3 σ) (hA : agr σ0 s t) : fM (-100000000) (fun c => (σ 82 c).toInt) t 3 = fM (-1000000) (plc σ0 s) t 3 ∧ fm 100000000 (fun c => (σ 83 c).toInt) t 3 = fm 1000000 (pgc σ0 s) t 3 := by
  have hg := (hG_3.mp ((agr_R hR).mpr hA).1)
  have hb := bi_some t ht h0
  have h0 := hR 0 (by decide)
  have h1 := hR 1 (by decide)
  have h2 := hR 2 (by decide)
  rw [fM_3, fM_3, fm_3, fm_3]
  unfold RR1 at h0 h1 h2
  generalize (σ 84 0).toInt = a0 at *
  generalize (σ 84 1).toInt = a1 at *
  generalize (σ 84 2).toInt = a2 at *
  generalize (σ 82 0).toInt = u0 at *
  generalize (σ 82 1).toInt = u1 at *
  generalize (σ 82 2).toInt = u2 at *
  generalize (σ 83 0).toInt = v0 at *
  generalize (σ 83 1).toInt = v1 at *
  generalize (σ 83 2).toInt = v2 at *
  generalize plc σ0 s 0 = p0 at *
  generalize plc σ0 s 1 = p1 at *
  generalize plc σ0 s 2 = p2 at *
  generalize pgc σ0 s 0 = g0 at *
  generalize pgc σ0 s 1 = g1 at *
  generalize pgc σ0 s 2 = g2 at *
  clear hA hR
  by_cases b0 : bi t 0 = 1 <;> by_cases b1 : bi t 1 = 1 <;> by_cases b2 : bi t 2 = 1 <;> simp only [b0, b1, b2, if_true, if_false, true_implies, false_implies, true_and, and_true, or_false, false_or, or_self] at hg hb ⊢ <;> omega
theorem s_weightOf {σ0 σ : bd_S} (hI : Inv σ0) {s t : Nat} (hs : s < 4) (ht : t < 8) (hU : qU σ0 σ) (hR : RR σ0 s 3 σ) : wp (f_X3_weightOf (nI s) (nI t) σ) (fun r σ' => q5 σ σ' ∧ r = nI (Wt σ0 s t)) := by
  have key : ∀ (σs : bd_S), qU σ0 σs → ∀ (m c n : Nat), c + m = 3 → m < n → wp (f_X3_weightOf_15 n (nI c) (nI (prW σ0 s t c)) (nI s) (nI t) σs) (fun r σ' => σ' = σs ∧ r = nI (prW σ0 s t 3)) := by
    intro σs hU m
    induction m with
    | zero =>
      intro c n hc hn
      obtain ⟨n, rfl⟩ : ∃ z, n = z + 1 := ⟨n - 1, by omega⟩
      have : c = 3 := by omega
      subst this
      unfold f_X3_weightOf_15
      exact wp_ift ((nle (by decide) (by decide)).mpr (Nat.le_refl 3)) (wp_some ⟨rfl, rfl⟩)
    | succ m ih =>
      intro c n hc hn
      obtain ⟨n, rfl⟩ : ∃ z, n = z + 1 := ⟨n - 1, by omega⟩
      have hc3 : c < 3 := by omega
      have hb := bi_1 t ht c hc3
      have hf := fl_e hI hs hc3
      have e74 : σs 74 (3 * s + c) = nI (fl σ0 s c) := by rw [hU 74 (3 * s + c) (by unfold qS; omega)]; exact hf.1
      unfold f_X3_weightOf_15
      refine wp_iff (fun q => ?_) (wp_lt (wp_lt ?_))
      · have := (nle (a := 3) (by decide) (by omega)).mp q
        omega
      rw [ix3]
      refine wp_rd (3 * s + c) rfl (by omega) (by decide) (wp_lt (wp_lt ?_))
      rw [b_sh t ht c hc3, e74]
      refine wp_if (fun q => wp_lt (wp_lt (wp_lt ?_))) (fun q => wp_lt (wp_lt ?_))
      · rw [nI_1, show (10 : Int32) = nI 10 from rfl, pk_sub (by omega), pk_mul]
        have z := ih (c + 1) n (by omega) (by omega)
        have e := pr_y (σ := σ0) (s := s) (hb.mp q)
        rw [e] at z
        exact z
      · rw [nI_1, pk_mul]
        have z := ih (c + 1) n (by omega) (by omega)
        have e := pr_n (σ := σ0) (s := s) (fun z => q (hb.mpr z))
        rw [e] at z
        exact z
  unfold f_X3_weightOf
  refine wp_c (s_agrees ht) (fun r σ1 h => ?_)
  obtain ⟨h5, -, -, h⟩ := h
  rcases h with ⟨rfl, h⟩ | ⟨rfl, h⟩
  · have h := (agr_R hR).mp h
    rw [Wt_y h]
    exact wp_iff (by decide) (wp_mono (key σ1 (q5.u hU h5) 3 0 FU_ (by decide) (by rw [FU_v]; omega)) (fun r σ' z => ⟨by rw [z.1]; exact h5, z.2⟩))
  · have h : ¬ agr σ0 s t := fun z => h ((agr_R hR).mpr z)
    rw [Wt_n h]
    exact wp_ift rfl (wp_some ⟨h5, rfl⟩)
