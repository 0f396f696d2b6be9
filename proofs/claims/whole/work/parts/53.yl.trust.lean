/-! PLACES AND TRUST: what both come to -/
def bi (t c : Nat) : Nat := t / 2 ^ c % 2
def fM (a : Int) (p : Nat → Int) (t : Nat) : Nat → Int
  | 0 => a
  | c + 1 => if bi t c = 1 then max (fM a p t c) (p c) else fM a p t c
def fm (a : Int) (p : Nat → Int) (t : Nat) : Nat → Int
  | 0 => a
  | c + 1 => if bi t c = 1 then min (fm a p t c) (p c) else fm a p t c
theorem fM_y {a : Int} {p : Nat → Int} {t c : Nat} (h : bi t c = 1) : fM a p t (c + 1) = max (fM a p t c) (p c) := if_pos h
theorem fM_n {a : Int} {p : Nat → Int} {t c : Nat} (h : ¬ bi t c = 1) : fM a p t (c + 1) = fM a p t c := if_neg h
theorem fm_y {a : Int} {p : Nat → Int} {t c : Nat} (h : bi t c = 1) : fm a p t (c + 1) = min (fm a p t c) (p c) := if_pos h
theorem fm_n {a : Int} {p : Nat → Int} {t c : Nat} (h : ¬ bi t c = 1) : fm a p t (c + 1) = fm a p t c := if_neg h
theorem fM_cg {a : Int} {p q : Nat → Int} {t : Nat} : ∀ n, (∀ c, c < n → p c = q c) → fM a p t n = fM a q t n := by
  intro n
  induction n with
  | zero => intro _; rfl
  | succ n ih =>
    intro h
    have e := ih (fun c hc => h c (by omega))
    by_cases b : bi t n = 1
    · rw [fM_y b, fM_y b, e, h n (by omega)]
    · rw [fM_n b, fM_n b, e]
theorem fm_cg {a : Int} {p q : Nat → Int} {t : Nat} : ∀ n, (∀ c, c < n → p c = q c) → fm a p t n = fm a q t n := by
  intro n
  induction n with
  | zero => intro _; rfl
  | succ n ih =>
    intro h
    have e := ih (fun c hc => h c (by omega))
    by_cases b : bi t n = 1
    · rw [fm_y b, fm_y b, e, h n (by omega)]
    · rw [fm_n b, fm_n b, e]
theorem b_sh : ∀ t, t < 8 → ∀ c, c < 3 → nI t >>> (nI c &&& 31) &&& 1 = nI (bi t c) := by decide +kernel
theorem bi_1 : ∀ t, t < 8 → ∀ c, c < 3 → (nI (bi t c) = 1 ↔ bi t c = 1) := by decide +kernel
theorem bi_some : ∀ t, t < 8 → ¬ t = 0 → bi t 0 = 1 ∨ bi t 1 = 1 ∨ bi t 2 = 1 := by decide +kernel
theorem bi_0 : ∀ c, c < 3 → ¬ bi 0 c = 1 := by decide +kernel
theorem s_bitO {σ : bd_S} {t c : Nat} (ht : t < 8) (hc : c < 3) : f_X2_bitOf (nI t) (nI c) σ = some (nI (bi t c), σ) := by
  unfold f_X2_bitOf bd_lt
  dsimp only
  rw [b_sh t ht c hc]
/-- the places, ends far apart the wrong way where nothing is known -/
def gP (σ : bd_S) (s c : Nat) : Prop := gone σ s c 99 (s63 σ)
noncomputable def plc (σ : bd_S) (s c : Nat) : Int := @ite _ (gP σ s c) (Classical.propDecidable _) 1000000 (((σ 76 (3 * s + c)).toInt - Hi σ s c 99 (s63 σ) (nv (σ 75 s))) / 4)
noncomputable def pgc (σ : bd_S) (s c : Nat) : Int := @ite _ (gP σ s c) (Classical.propDecidable _) (-1000000) (-(-((σ 76 (3 * s + c)).toInt - Lo σ s c 99 (s63 σ) (nv (σ 75 s))) / 4))
theorem plc_y {σ : bd_S} {s c : Nat} (h : gP σ s c) : plc σ s c = 1000000 ∧ pgc σ s c = -1000000 := ⟨if_pos h, if_pos h⟩
theorem plc_n {σ : bd_S} {s c : Nat} (h : ¬ gP σ s c) : plc σ s c = ((σ 76 (3 * s + c)).toInt - Hi σ s c 99 (s63 σ) (nv (σ 75 s))) / 4 ∧ pgc σ s c = -(-((σ 76 (3 * s + c)).toInt - Lo σ s c 99 (s63 σ) (nv (σ 75 s))) / 4) := ⟨if_neg h, if_neg h⟩
def agr (σ : bd_S) (s t : Nat) : Prop := fM (-1000000) (plc σ s) t 3 ≤ fm 1000000 (pgc σ s) t 3
def fl (σ : bd_S) (s c : Nat) : Nat := nv (σ 74 (3 * s + c))
def prW (σ : bd_S) (s t : Nat) : Nat → Nat
  | 0 => 1
  | c + 1 => prW σ s t c * (if bi t c = 1 then 10 - fl σ s c else fl σ s c)
theorem pr_y {σ : bd_S} {s t c : Nat} (h : bi t c = 1) : prW σ s t (c + 1) = prW σ s t c * (10 - fl σ s c) := congrArg (fun z => prW σ s t c * z) (if_pos h)
theorem pr_n {σ : bd_S} {s t c : Nat} (h : ¬ bi t c = 1) : prW σ s t (c + 1) = prW σ s t c * fl σ s c := congrArg (fun z => prW σ s t c * z) (if_neg h)
noncomputable def Wt (σ : bd_S) (s t : Nat) : Nat := @ite _ (agr σ s t) (Classical.propDecidable _) (prW σ s t 3) 0
theorem Wt_y {σ : bd_S} {s t : Nat} (h : agr σ s t) : Wt σ s t = prW σ s t 3 := if_pos h
theorem Wt_n {σ : bd_S} {s t : Nat} (h : ¬ agr σ s t) : Wt σ s t = 0 := if_neg h
theorem fl_e {σ : bd_S} (hI : Inv σ) {s c : Nat} (hs : s < 4) (hc : c < 3) : σ 74 (3 * s + c) = nI (fl σ s c) ∧ 1 ≤ fl σ s c ∧ fl σ s c ≤ 9 := by
  obtain ⟨-, -, e3, -⟩ := hI.2.2.2.2 s hs
  obtain ⟨-, -, -, -, h1, h2⟩ := e3 c hc
  unfold fl nv
  refine ⟨ti_eq.mpr ?_, by omega, by omega⟩
  rw [ti_nI (by omega)]
  omega
theorem pr_bd {σ : bd_S} (hI : Inv σ) {s t : Nat} (hs : s < 4) : ∀ c, c ≤ 3 → 1 ≤ prW σ s t c ∧ prW σ s t c ≤ 9 ^ c := by
  intro c
  induction c with
  | zero => intro _; exact ⟨Nat.le_refl 1, Nat.le_refl 1⟩
  | succ c ih =>
    intro hc
    have h := ih (by omega)
    have hf := (fl_e hI hs (show c < 3 by omega)).2
    have key : ∀ f, 1 ≤ f → f ≤ 9 → 1 ≤ prW σ s t c * f ∧ prW σ s t c * f ≤ 9 ^ (c + 1) := fun f h1 h2 => by
      refine ⟨Nat.mul_le_mul h.1 h1, ?_⟩
      rw [Nat.pow_succ]
      exact Nat.mul_le_mul h.2 h2
    unfold prW
    split
    · exact key _ (by omega) (by omega)
    · exact key _ hf.1 hf.2
theorem Wt_le {σ : bd_S} (hI : Inv σ) {s t : Nat} (hs : s < 4) : Wt σ s t ≤ 729 := by
  by_cases h : agr σ s t
  · rw [Wt_y h]; exact (pr_bd hI hs 3 (Nat.le_refl 3)).2
  · rw [Wt_n h]; exact Nat.zero_le _
theorem agr_0 {σ : bd_S} {s : Nat} : agr σ s 0 := by
  unfold agr
  rw [fM_n (c := 2) (bi_0 2 (by decide)), fM_n (c := 1) (bi_0 1 (by decide)), fM_n (c := 0) (bi_0 0 (by decide)), fm_n (c := 2) (bi_0 2 (by decide)), fm_n (c := 1) (bi_0 1 (by decide)), fm_n (c := 0) (bi_0 0 (by decide))]
  show (-1000000 : Int) ≤ 1000000
  decide
theorem Wt_0 {σ : bd_S} (hI : Inv σ) {s : Nat} (hs : s < 4) : 1 ≤ Wt σ s 0 := by
  rw [Wt_y agr_0]; exact (pr_bd hI hs 3 (Nat.le_refl 3)).1
/-! the class's -/
def RC (σ0 : bd_S) (s n : Nat) (σ : bd_S) : Prop := ∀ c, c < n → (σ 17 c).toInt = plc σ0 s c ∧ (σ 18 c).toInt = pgc σ0 s c
theorem s_leastShared {σ : bd_S} {t : Nat} (ht : t < 8) : wp (f_X2_leastShared (nI t) σ) (fun r σ' => σ' = σ ∧ r.toInt = fM (-1000000) (fun c => (σ 17 c).toInt) t 3) := by
  have key : ∀ (m c n : Nat) (x : Int32), c + m = 3 → m < n → x.toInt = fM (-1000000) (fun c => (σ 17 c).toInt) t c → wp (f_X2_leastShared_5 n (nI c) x (nI t) σ) (fun r σ' => σ' = σ ∧ r.toInt = fM (-1000000) (fun c => (σ 17 c).toInt) t 3) := by
    intro m
    induction m with
    | zero =>
      intro c n x hc hn hx
      obtain ⟨n, rfl⟩ : ∃ z, n = z + 1 := ⟨n - 1, by omega⟩
      have : c = 3 := by omega
      subst this
      unfold f_X2_leastShared_5
      exact wp_ift ((nle (by decide) (by decide)).mpr (Nat.le_refl 3)) (wp_some ⟨rfl, hx⟩)
    | succ m ih =>
      intro c n x hc hn hx
      obtain ⟨n, rfl⟩ : ∃ z, n = z + 1 := ⟨n - 1, by omega⟩
      have hc3 : c < 3 := by omega
      have hb := bi_1 t ht c hc3
      unfold f_X2_leastShared_5
      refine wp_iff (fun q => ?_) (wp_e (s_bitO ht hc3) (wp_if (fun q => ?_) (fun q => ?_)))
      · have := (nle (a := 3) (by decide) (by omega)).mp q
        omega
      · refine wp_rd c rfl hc3 (by decide) (wp_lt (wp_lt ?_))
        rw [nI_1]
        refine ih (c + 1) n _ (by omega) (by omega) ?_
        rw [ti_max, hx, fM_y (hb.mp q)]
      · refine wp_lt ?_
        rw [nI_1]
        refine ih (c + 1) n _ (by omega) (by omega) ?_
        rw [hx, fM_n (fun z => q (hb.mpr z))]
  unfold f_X2_leastShared
  exact key 3 0 FU_ (-1000000) (by decide) (by rw [FU_v]; omega) rfl
theorem s_greatestShared {σ : bd_S} {t : Nat} (ht : t < 8) : wp (f_X2_greatestShared (nI t) σ) (fun r σ' => σ' = σ ∧ r.toInt = fm 1000000 (fun c => (σ 18 c).toInt) t 3) := by
  have key : ∀ (m c n : Nat) (x : Int32), c + m = 3 → m < n → x.toInt = fm 1000000 (fun c => (σ 18 c).toInt) t c → wp (f_X2_greatestShared_5 n (nI c) x (nI t) σ) (fun r σ' => σ' = σ ∧ r.toInt = fm 1000000 (fun c => (σ 18 c).toInt) t 3) := by
    intro m
    induction m with
    | zero =>
      intro c n x hc hn hx
      obtain ⟨n, rfl⟩ : ∃ z, n = z + 1 := ⟨n - 1, by omega⟩
      have : c = 3 := by omega
      subst this
      unfold f_X2_greatestShared_5
      exact wp_ift ((nle (by decide) (by decide)).mpr (Nat.le_refl 3)) (wp_some ⟨rfl, hx⟩)
    | succ m ih =>
      intro c n x hc hn hx
      obtain ⟨n, rfl⟩ : ∃ z, n = z + 1 := ⟨n - 1, by omega⟩
      have hc3 : c < 3 := by omega
      have hb := bi_1 t ht c hc3
      unfold f_X2_greatestShared_5
      refine wp_iff (fun q => ?_) (wp_e (s_bitO ht hc3) (wp_if (fun q => ?_) (fun q => ?_)))
      · have := (nle (a := 3) (by decide) (by omega)).mp q
        omega
      · refine wp_rd c rfl hc3 (by decide) (wp_lt (wp_lt ?_))
        rw [nI_1]
        refine ih (c + 1) n _ (by omega) (by omega) ?_
        rw [ti_min, hx, fm_y (hb.mp q)]
      · refine wp_lt ?_
        rw [nI_1]
        refine ih (c + 1) n _ (by omega) (by omega) ?_
        rw [hx, fm_n (fun z => q (hb.mpr z))]
  unfold f_X2_greatestShared
  exact key 3 0 FU_ 1000000 (by decide) (by rw [FU_v]; omega) rfl
theorem s_prod {σ0 σ : bd_S} (hI : Inv σ0) {s t : Nat} (hs : s < 4) (ht : t < 8) (hU : qU σ0 σ) : ∀ (m c n : Nat), c + m = 3 → m < n → wp (f_X2_weigh_20 n (nI c) (nI (prW σ0 s t c)) (19 + 9 * s) (nI t) σ) (fun r σ' => σ' = σ ∧ r = nI (prW σ0 s t 3)) := by
  intro m
  induction m with
  | zero =>
    intro c n hc hn
    obtain ⟨n, rfl⟩ : ∃ z, n = z + 1 := ⟨n - 1, by omega⟩
    have : c = 3 := by omega
    subst this
    unfold f_X2_weigh_20
    exact wp_ift ((nle (by decide) (by decide)).mpr (Nat.le_refl 3)) (wp_some ⟨rfl, rfl⟩)
  | succ m ih =>
    intro c n hc hn
    obtain ⟨n, rfl⟩ : ∃ z, n = z + 1 := ⟨n - 1, by omega⟩
    have hc3 : c < 3 := by omega
    have hb := bi_1 t ht c hc3
    obtain ⟨-, -, e3, -⟩ := hI.2.2.2.2 s hs
    have hf := fl_e hI hs hc3
    have e7 : σ (19 + 9 * s + 7) c = nI (fl σ0 s c) := by
      rw [hU (19 + 9 * s + 7) c (by unfold qS; omega), (e3 c hc3).2.2.2.1]
      exact hf.1
    unfold f_X2_weigh_20
    refine wp_iff (fun q => ?_) (wp_e (s_bitO ht hc3) (wp_if (fun q => ?_) (fun q => ?_)))
    · have := (nle (a := 3) (by decide) (by omega)).mp q
      omega
    · refine wp_rd c rfl hc3 (by decide) (wp_lt (wp_lt (wp_lt ?_)))
      rw [e7, nI_1, show (10 : Int32) = nI 10 from rfl, pk_sub (by omega), pk_mul]
      have z := ih (c + 1) n (by omega) (by omega)
      have e := pr_y (σ := σ0) (s := s) (hb.mp q)
      rw [e] at z
      exact z
    · refine wp_rd c rfl hc3 (by decide) (wp_lt (wp_lt ?_))
      rw [e7, nI_1, pk_mul]
      have z := ih (c + 1) n (by omega) (by omega)
      have e := pr_n (σ := σ0) (s := s) (fun z => q (hb.mpr z))
      rw [e] at z
      exact z
theorem s_weigh {σ0 σ : bd_S} (hI : Inv σ0) {s t : Nat} (hs : s < 4) (ht : t < 8) (hU : qU σ0 σ) (hR : RC σ0 s 3 σ) : wp (f_X2_weigh (19 + 9 * s) (nI t) σ) (fun r σ' => σ' = σ ∧ r = nI (Wt σ0 s t)) := by
  have e1 : fM (-1000000) (fun c => (σ 17 c).toInt) t 3 = fM (-1000000) (plc σ0 s) t 3 := fM_cg 3 (fun c hc => (hR c hc).1)
  have e2 : fm 1000000 (fun c => (σ 18 c).toInt) t 3 = fm 1000000 (pgc σ0 s) t 3 := fm_cg 3 (fun c hc => (hR c hc).2)
  unfold f_X2_weigh
  refine wp_c (s_leastShared ht) (fun a σ1 h1 => ?_)
  obtain ⟨rfl, h1⟩ := h1
  refine wp_c (s_greatestShared ht) (fun b σ2 h2 => ?_)
  obtain ⟨rfl, h2⟩ := h2
  rw [e1] at h1
  rw [e2] at h2
  refine wp_if (fun q => ?_) (fun q => ?_)
  · have q := ti_le.mp q
    rw [h1, h2] at q
    rw [Wt_y q]
    exact s_prod hI hs ht hU 3 0 FU_ (by decide) (by rw [FU_v]; omega)
  · have q : ¬ agr σ0 s t := fun z => q (ti_le.mpr (by rw [h1, h2]; exact z))
    rw [Wt_n q]
    exact wp_some ⟨rfl, rfl⟩
theorem s_learnF {σ0 σ : bd_S} {s c : Nat} (hI : Inv σ0) (hU : qU σ0 σ) (hs : s < 4) (hc : c < 3) : wp (f_X2_learn (19 + 9 * s) (nI c) σ) (fun r σ' => fL 7 σ σ' ∧ LA σ0 s c 99 (s63 σ0) r (spl σ' 7) (sph σ' 7)) := by
  obtain ⟨e1, e2, e3, -⟩ := hI.2.2.2.2 s hs
  unfold f_X2_learn
  refine wp_c (s_learnBut (σ0 := σ0) (w := 99) (sl := s63 σ0) hs hc e1 hI.2.1 e2 e3 hI.qL (hI.qC hU.v) (fun k => (hI.2.2.1.2.2.2.1 k).2) hU.v (fun d hd => m1_nI hd) (fun d hd => ?_) (by decide)) (fun r σ' h => wp_zr ?_ ⟨h.1, h.2.a⟩)
  · rw [if_neg (fun q => by have := (m1_nI hd).mp q; omega)]
    omega
  · rcases h.2 with ⟨q, -⟩ | ⟨q, -⟩
    · exact Or.inr q
    · exact Or.inl q
theorem s_findPlaces {σ0 σ : bd_S} (hI : Inv σ0) {s : Nat} (hs : s < 4) (hU : qU σ0 σ) : wp (f_X2_findPlaces (19 + 9 * s) σ) (fun _ σ' => qU σ0 σ' ∧ RC σ0 s 3 σ') := by
  obtain ⟨-, -, -, eH, -⟩ := hI.2.2.2.2 s hs
  obtain ⟨h10, ⟨d, hd, h75⟩, h76⟩ := eH
  have hnv : nv (σ0 75 s) = d := by rw [h75]; exact nv_nI (by omega)
  have key : ∀ (m c n : Nat) (σ : bd_S), c + m = 3 → m < n → qU σ0 σ → RC σ0 s c σ → wp (f_X2_findPlaces_2 n (nI c) (19 + 9 * s) σ) (fun _ σ' => qU σ0 σ' ∧ RC σ0 s 3 σ') := by
    intro m
    induction m with
    | zero =>
      intro c n σ hc hn hU hR
      obtain ⟨n, rfl⟩ : ∃ z, n = z + 1 := ⟨n - 1, by omega⟩
      have : c = 3 := by omega
      subst this
      unfold f_X2_findPlaces_2
      exact wp_ift ((nle (by decide) (by decide)).mpr (Nat.le_refl 3)) (wp_some ⟨hU, hR⟩)
    | succ m ih =>
      intro c n σ hc hn hU hR
      obtain ⟨n, rfl⟩ : ∃ z, n = z + 1 := ⟨n - 1, by omega⟩
      have hc3 : c < 3 := by omega
      have hR0 : ∀ σ1, (∀ j, j < c → (σ1 17 j).toInt = plc σ0 s j ∧ (σ1 18 j).toInt = pgc σ0 s j) → ∀ x y : Int32, x.toInt = plc σ0 s c → y.toInt = pgc σ0 s c → RC σ0 s (c + 1) (bd_st (bd_st σ1 17 c x) 18 c y) := fun σ1 h x y hx hy j hj => by
        by_cases e : j = c
        · subst e
          rw [st_same, st_ne (by decide), st_same]
          exact ⟨hx, hy⟩
        · rw [st_off e, st_ne (show (18 : Nat) ≠ 17 by decide), st_ne (show (17 : Nat) ≠ 18 by decide), st_off e]
          exact h j (by omega)
      have hUx : ∀ σ1, qU σ0 σ1 → ∀ x y : Int32, qU σ0 (bd_st (bd_st σ1 17 c x) 18 c y) := fun σ1 u x y r k q => by
        unfold qS at q
        rw [st_ne (by omega), st_ne (by omega)]
        exact u r k (by unfold qS; omega)
      unfold f_X2_findPlaces_2
      refine wp_iff (fun q => ?_) ?_
      · have := (nle (a := 3) (by decide) (by omega)).mp q
        omega
      refine wp_c (s_learnF hI hU hs hc3) (fun r σ1 q => ?_)
      obtain ⟨fr, q⟩ := q
      have u : qU σ0 σ1 := hU.tr (fr.u (Or.inr rfl))
      have pre : ∀ j, j < c → (σ1 17 j).toInt = plc σ0 s j ∧ (σ1 18 j).toInt = pgc σ0 s j := fun j hj => by
        rw [fr 17 (by decide) (by decide) (by decide), fr 18 (by decide) (by decide) (by decide)]; exact hR j hj
      rcases q with ⟨rfl, g, L⟩ | ⟨rfl, g⟩
      · have hb := LH.b L hd
        have eL := L d (by omega)
        rw [spl_d hd, sph_d hd] at eL
        obtain ⟨h8, hx⟩ := h76 c hc3
        have p := plc_n g
        rw [hnv] at p
        have eLo : (σ1 8 d).toInt = Lo σ0 s c 99 (s63 σ0) d := eL.1.1
        have eHi : (σ1 9 d).toInt = Hi σ0 s c 99 (s63 σ0) d := eL.1.2
        refine wp_iff (by decide) (wp_rd c rfl hc3 (by decide) (wp_lt ?_))
        rw [u (19 + 9 * s + 8) c (by unfold qS; omega), u (19 + 9 * s) 10 (by unfold qS; omega), h8, h10, h75]
        refine wp_c (s_leastMiles hd hx hb.2) (fun v1 σ2 hv => ?_)
        obtain ⟨rfl, hv⟩ := hv
        refine wp_wr c rfl hc3 (by decide) (wp_rd c rfl hc3 (by decide) (wp_lt ?_))
        rw [st_ne (show 19 + 9 * s + 8 ≠ 17 by omega), st_ne (show 19 + 9 * s ≠ 17 by omega), u (19 + 9 * s + 8) c (by unfold qS; omega), u (19 + 9 * s) 10 (by unfold qS; omega), h8, h10, h75]
        refine wp_c (s_greatestMiles (σ := bd_st σ2 17 c v1) hd hx (by rw [st_ne (by decide)]; exact hb.1)) (fun v2 σ3 hv2 => ?_)
        obtain ⟨rfl, hv2⟩ := hv2
        rw [st_ne (by decide), eLo] at hv2
        rw [eHi] at hv
        refine wp_wr c rfl hc3 (by decide) (wp_lt ?_)
        rw [nI_1]
        exact ih (c + 1) n _ (by omega) (by omega) (hUx σ2 u v1 v2) (hR0 σ2 pre v1 v2 (hv.trans p.1.symm) (hv2.trans p.2.symm))
      · have p := plc_y g
        refine wp_ift rfl (wp_wr c rfl hc3 (by decide) (wp_wr c rfl hc3 (by decide) (wp_lt ?_)))
        rw [nI_1]
        exact ih (c + 1) n _ (by omega) (by omega) (hUx σ1 u _ _) (hR0 σ1 pre _ _ p.1.symm p.2.symm)
  unfold f_X2_findPlaces
  exact key 3 0 FU_ σ (by decide) (by rw [FU_v]; omega) hU (fun j hj => absurd hj (Nat.not_lt_zero j))
