/-! SLIPPED of the reference -/
def qG (σ0 : bd_S) (d : Nat) (v : Int) (σ : bd_S) : Prop := qR σ0 σ ∧ σ 55 30 = -6 ∧ ∀ k, k < 20 → (σ 63 k).toInt = slv σ0 d v k
theorem qG.tr {σ0 σ σ' : bd_S} {d : Nat} {v : Int} (h : qG σ0 d v σ) (hU : qU σ σ') : qG σ0 d v σ' :=
  ⟨h.1.tr hU, (hU 55 30 (by unfold qS; omega)).trans h.2.1, fun k hk => by rw [hU 63 k (by unfold qS; omega)]; exact h.2.2 k hk⟩
theorem ag_12 {σ0 σs : bd_S} (hI : Inv σ0) {d s : Nat} {v : Int} (hd : d < 20) (hs : s < 4) (hv : -60 ≤ v ∧ v ≤ 60) (hG : qG σ0 d v σs) {K : Int32 → Int32 → bd_S → Option (Int32 × bd_S)} {P : Int32 → bd_S → Prop}
    (hk : (∀ c, c < 3 → bears σ0 d v s c) → ∀ σ', qU σs σ' → wp (K (nI s) (nI d) σ') P) (hno : (∃ c, c < 3 ∧ ¬ bears σ0 d v s c) → ∀ σ', qU σs σ' → P 0 σ') : ∀ (m c n : Nat) (σ : bd_S), c + m = 3 → m < n → qU σs σ → (∀ j, j < c → bears σ0 d v s j) → wp (f_X3_allGo_12 K n (nI c) (nI s) (nI d) σ) P := by
  intro m
  induction m with
  | zero =>
    intro c n σ hc hn hU hb
    obtain ⟨n, rfl⟩ : ∃ z, n = z + 1 := ⟨n - 1, by omega⟩
    have : c = 3 := by omega
    subst this
    unfold f_X3_allGo_12
    exact wp_ift ((nle (by decide) (by decide)).mpr (Nat.le_refl 3)) (hk hb σ hU)
  | succ m ih =>
    intro c n σ hc hn hU hb
    obtain ⟨n, rfl⟩ : ∃ z, n = z + 1 := ⟨n - 1, by omega⟩
    have hG' := hG.tr hU
    have go : ∀ σ', qU σs σ' → bears σ0 d v s c → wp (f_X3_allGo_12 K n (nI (c + 1)) (nI s) (nI d) σ') P := fun σ' u z => ih (c + 1) n σ' (by omega) (by omega) u (fun j hj => by
      by_cases e : j = c
      · subst e; exact z
      · exact hb j (by omega))
    unfold f_X3_allGo_12
    refine wp_iff (fun q => ?_) (wp_c (s_isSetBy hI hG'.1 hG'.2.1 hs (by omega) hd) (fun r σ' h => ?_))
    · have := (nle (a := 3) (by decide) (by omega)).mp q
      omega
    obtain ⟨rfl, h⟩ := h
    rcases h with ⟨rfl, ht⟩ | ⟨rfl, ht⟩
    · refine wp_iff (by decide) (wp_c (s_lay (w := 99) (sl := slv σ0 d v) (hI.qI hs (by omega)) hG'.1 (fun k hk => by rw [hG'.2.1]; exact m6_nI hk) hG'.2.2 (fun k _ => slv_bd hI hv k)) (fun r σ2 q => ?_))
      obtain ⟨u2, q⟩ := q
      rcases q.a with ⟨rfl, q', -⟩ | ⟨rfl, q'⟩
      · exact wp_iff (by decide) (wp_lt (by rw [nI_1]; exact go σ2 (hU.tr u2) (fun _ => q')))
      · exact wp_ift rfl (wp_zr (Or.inl rfl) (hno ⟨c, by omega, fun z => z ht q'⟩ σ2 (hU.tr u2)))
    · exact wp_ift rfl (wp_lt (by rw [nI_1]; exact go σ' hU (fun z => absurd z ht)))
theorem ag_2 {σ0 σs : bd_S} (hI : Inv σ0) {d nk : Nat} {v : Int} (hd : d < 20) (hn4 : nk ≤ 4) (hn12 : σs 55 12 = nI nk) (hv : -60 ≤ v ∧ v ≤ 60) (hG : qG σ0 d v σs) : ∀ (m s n : Nat) (σ : bd_S), s + m = nk → m < n → qU σs σ → (∀ j, j < s → ∀ c, c < 3 → bears σ0 d v j c) → wp (f_X3_allGo_2 n (nI s) (nI d) σ) (fun r σ' => qU σs σ' ∧ ((r = 1 ∧ okv σ0 nk d v) ∨ (r = 0 ∧ ¬ okv σ0 nk d v))) := by
  intro m
  induction m with
  | zero =>
    intro s n σ hs hn hU hb
    obtain ⟨n, rfl⟩ : ∃ z, n = z + 1 := ⟨n - 1, by omega⟩
    have : s = nk := by omega
    subst this
    unfold f_X3_allGo_2
    refine wp_lt ?_
    rw [hU 55 12 (by unfold qS; omega), hn12]
    exact wp_ift ((nle (by omega) (by omega)).mpr (Nat.le_refl _)) (wp_zr (Or.inr rfl) ⟨hU, Or.inl ⟨rfl, hb⟩⟩)
  | succ m ih =>
    intro s n σ hs hn hU hb
    obtain ⟨n, rfl⟩ : ∃ z, n = z + 1 := ⟨n - 1, by omega⟩
    unfold f_X3_allGo_2
    refine wp_lt ?_
    rw [hU 55 12 (by unfold qS; omega), hn12]
    refine wp_iff (fun q => ?_) (ag_12 hI hd (by omega) hv hG (fun hall σ' u => wp_lt ?_) (fun hno σ' u => ⟨u, Or.inr ⟨rfl, fun z => ?_⟩⟩) 3 0 FU_ σ (by decide) (by rw [FU_v]; omega) hU (fun j hj => absurd hj (Nat.not_lt_zero j)))
    · have := (nle (by omega) (by omega)).mp q
      omega
    · rw [nI_1]
      refine ih (s + 1) n σ' (by omega) (by omega) u (fun j hj => ?_)
      by_cases e : j = s
      · subst e; exact hall
      · exact hb j (by omega)
    · obtain ⟨c, hc, h⟩ := hno
      exact h (z s (by omega) c hc)
theorem s_allGo {σ0 σ : bd_S} (hI : Inv σ0) {d nk : Nat} {v : Int} (hd : d < 20) (hn4 : nk ≤ 4) (hn12 : σ 55 12 = nI nk) (hv : -60 ≤ v ∧ v ≤ 60) (hG : qG σ0 d v σ) : wp (f_X3_allGo (nI d) σ) (fun r σ' => qU σ σ' ∧ ((r = 1 ∧ okv σ0 nk d v) ∨ (r = 0 ∧ ¬ okv σ0 nk d v))) :=
  ag_2 hI hd hn4 hn12 hv hG nk 0 FU_ σ (by omega) (by rw [FU_v]; omega) qU.rf (fun j hj => absurd hj (Nat.not_lt_zero j))
def qWd (σ σ' : bd_S) (d : Nat) : Prop := ∀ r k, ¬ qS r k → ¬ (r = 63 ∧ k = d) → σ' r k = σ r k
theorem qWd.g {σ0 σ : bd_S} (hI : Inv σ0) {d : Nat} (hW : qWd σ0 σ d) {t : Int32} {v : Int} (ht : t.toInt = v) : qG σ0 d v (bd_st σ 63 d t) := by
  refine ⟨fun r k q => ?_, ?_, fun k hk => ?_⟩
  · rw [st_ne (by omega)]
    exact hW r k (by unfold qS; omega) (by omega)
  · rw [st_ne (by decide), hW 55 30 (by unfold qS; omega) (by omega)]
    exact hI.1.2.2.2.2.2.2.1
  · unfold slv
    by_cases e : k = d
    · subst e; rw [st_same, if_pos rfl]; exact ht
    · rw [st_off e, if_neg e, hW 63 k (by unfold qS; omega) (by omega)]; rfl
theorem sl_R {σ0 : bd_S} (hI : Inv σ0) {d nk : Nat} (hd : d < 20) (hn : hS σ0 nk) {ε : Int} {x2 x3 : Int32} (hε : ε = if x2 = 0 then 1 else -1) {K : Int32 → Int32 → Int32 → bd_S → Option (Int32 × bd_S)} {P : Int32 → bd_S → Prop}
    (hk0 : (∀ k, k < 121 → ¬ okv σ0 nk d (vf ε k)) → ∀ σ', qWd σ0 σ' d → wp (K (-100000005) x3 (nI d) σ') P) (hk1 : ∀ k, k < 121 → (∀ k', k' < k → ¬ okv σ0 nk d (vf ε k')) → okv σ0 nk d (vf ε k) → ∀ (y : Int32) (σ' : bd_S), y.toInt = vf ε k → qWd σ0 σ' d → wp (K y x3 (nI d) σ') P) :
    ∀ (m k n : Nat) (σ : bd_S), k + m = 121 → m < n → qWd σ0 σ d → (∀ k', k' < k → ¬ okv σ0 nk d (vf ε k')) → wp (f_X3_slipped_34 K n (nI k) (-100000005) x3 (nI d) x2 σ) P := by
  intro m
  induction m with
  | zero =>
    intro k n σ hk hn' hW hno
    obtain ⟨n, rfl⟩ : ∃ z, n = z + 1 := ⟨n - 1, by omega⟩
    have : k = 121 := by omega
    subst this
    unfold f_X3_slipped_34
    exact wp_ift ((nle (by decide) (by decide)).mpr (Nat.le_refl 121)) (hk0 hno σ hW)
  | succ m ih =>
    intro k n σ hk hn' hW hno
    obtain ⟨n, rfl⟩ : ∃ z, n = z + 1 := ⟨n - 1, by omega⟩
    have hk1' : k < 121 := by omega
    have hv := vf_in (ε := ε) hk1'
    have e60 : (60 : Int32).toInt = 60 := rfl
    have step : ∀ t : Int32, t.toInt = vf ε k → wp (f_X3_slipped_65 (f_X3_slipped_34 K n) (nI k) (-100000005) x3 (nI d) x2 t σ) P := fun t ht => by
      unfold f_X3_slipped_65
      have hG := hW.g hI ht
      have h12 : bd_st σ 63 d t 55 12 = nI nk := by rw [st_ne (by decide), hW 55 12 (by unfold qS; omega) (by omega)]; exact hn.2.2
      refine wp_wr d rfl hd (by decide) (wp_c (s_allGo hI hd hn.1 h12 hv hG) (fun r σ' h => ?_))
      obtain ⟨u, h⟩ := h
      have hW' : qWd σ0 σ' d := fun r k q1 q2 => by rw [u r k q1, st_all, if_neg q2]; exact hW r k q1 q2
      rcases h with ⟨rfl, h⟩ | ⟨rfl, h⟩
      · refine wp_iff (by decide) (wp_lt ?_)
        rw [nI_1]
        obtain ⟨n, rfl⟩ : ∃ z, n = z + 1 := ⟨n - 1, by omega⟩
        have z := hk1 k hk1' hno h t σ' ht hW'
        unfold f_X3_slipped_34
        refine wp_if (fun _ => z) (fun _ => wp_iff (fun e => ?_) z)
        rw [e] at ht
        have : (-100000005 : Int32).toInt = -100000005 := rfl
        omega
      · refine wp_ift rfl (wp_lt ?_)
        rw [nI_1]
        refine ih (k + 1) n σ' (by omega) (by omega) hW' (fun k' hk' => ?_)
        by_cases e : k' = k
        · subst e; exact h
        · exact hno k' (by omega)
    unfold f_X3_slipped_34
    refine wp_iff (fun q => ?_) (wp_ift rfl (wp_if (fun q => wp_lt (step _ ?_)) (fun q => wp_lt (step _ ?_))))
    · have := (nle (a := 121) (by decide) (by omega)).mp q
      omega
    · rw [if_pos q] at hε
      subst hε
      unfold vf
      rw [if_pos rfl, fb_subI, ti_nI (by omega), e60] <;> rw [ti_nI (by omega), e60] <;> omega
    · rw [if_neg q] at hε
      subst hε
      unfold vf
      rw [if_neg (by decide), fb_subI, ti_nI (by omega), e60] <;> rw [ti_nI (by omega), e60] <;> omega
def slA (σ : bd_S) (nk d : Nat) (ε : Int) (r : Int32) : Prop := (r = -100000005 ∧ ∀ k, k < 121 → ¬ okv σ nk d (vf ε k)) ∨ ∃ k, k < 121 ∧ (∀ k', k' < k → ¬ okv σ nk d (vf ε k')) ∧ okv σ nk d (vf ε k) ∧ r.toInt = vf ε k
theorem slA.uq {σ : bd_S} {nk d : Nat} {ε : Int} {r r' : Int32} (h : slA σ nk d ε r) (h' : slA σ nk d ε r') : r = r' := by
  rcases h with ⟨e, h⟩ | ⟨k, h1, h2, h3, h4⟩
  · rcases h' with ⟨e', -⟩ | ⟨k', h1', -, h3', -⟩
    · exact e.trans e'.symm
    · exact absurd h3' (h k' h1')
  · rcases h' with ⟨-, h'⟩ | ⟨k', h1', h2', h3', h4'⟩
    · exact absurd h3 (h' k h1)
    · rcases Nat.lt_trichotomy k k' with q | q | q
      · exact absurd h3 (h2' k q)
      · subst q; exact ti_eq.mpr (h4.trans h4'.symm)
      · exact absurd h3' (h2 k' q)
theorem s_slippedR {σ0 σ : bd_S} (hI : Inv σ0) {d nk : Nat} (hd : d < 20) (hn : hS σ0 nk) {y : Int32} (hy : okE y) (hU : qU σ0 σ) : wp (f_X3_slipped (nI d) y σ) (fun r σ' => qU σ0 σ' ∧ slA σ0 nk d (if y = 0 then 1 else -1) r) := by
  have hdd : okD (nI d) := by unfold okD; rw [ti_nI (by omega)]; omega
  unfold f_X3_slipped
  refine wp_e (isDay_t hdd) (wp_iff (by decide) (wp_e (isEnd_t hy) (wp_iff (by decide) (wp_rd d rfl hd (by decide) ?_))))
  rw [hU 63 d (by unfold qS; omega)]
  have fin : ∀ (r : Int32) (σ' : bd_S), qWd σ0 σ' d → slA σ0 nk d (if y = 0 then 1 else -1) r → wp (bd_wr σ' 63 (nI d) 20 (σ0 63 d) (fun s104 => some (r, s104))) (fun r σ' => qU σ0 σ' ∧ slA σ0 nk d (if y = 0 then 1 else -1) r) := fun r σ' hW h => by
    refine wp_wr d rfl hd (by decide) (wp_some ⟨fun r' k q => ?_, h⟩)
    rw [st_all]
    by_cases e : r' = 63 ∧ k = d
    · obtain ⟨rfl, rfl⟩ := e
      rw [if_pos ⟨rfl, rfl⟩]
    · rw [if_neg e]
      exact hW r' k q e
  exact sl_R hI hd hn rfl (fun h σ' hW => fin _ σ' hW (Or.inl ⟨rfl, h⟩)) (fun k h1 h2 h3 t σ' ht hW => fin _ σ' hW (Or.inr ⟨k, h1, h2, h3, ht⟩)) 121 0 FU_ σ (by decide) (by rw [FU_v]; omega) (fun r k q _ => hU r k q) (fun j hj => absurd hj (Nat.not_lt_zero j))
theorem s_43 {σ0 σ : bd_S} {d nk : Nat} {ε : Int} {r : Int32} (hU : qU σ0 σ) (h : ffA σ0 nk d ε r) : wp (f_X2_slipped_43 r σ) (fun r σ' => qU σ0 σ' ∧ slA σ0 nk d ε r) := by
  obtain ⟨k, h1, h2, h3, h4⟩ := h
  have e60 : (60 : Int32).toInt = 60 := rfl
  unfold f_X2_slipped_43
  by_cases hk : k < 121
  · have hv := vf_in (ε := ε) hk
    exact wp_e (bey_t rfl (by rw [e60, h4]; exact hv)) (wp_ift rfl (wp_some ⟨hU, Or.inr ⟨k, hk, h2, h3 hk, h4⟩⟩))
  · have hv := vf_out (ε := ε) hk
    have e : k = 121 := by omega
    subst e
    exact wp_e (bey_f rfl (by rw [e60, h4]; exact hv)) (wp_iff (by decide) (wp_some ⟨hU, Or.inl ⟨rfl, h2⟩⟩))
theorem p_slipped {σ : bd_S} (hI : Inv σ) (x y : Int32) : Pr (f_X2_slipped x y) (f_X3_slipped x y) σ := by
  obtain ⟨nk, hn⟩ := hI.hS
  unfold Pr
  by_cases h : okD x
  · by_cases g : okE y
    · obtain ⟨d, hd, rfl⟩ := h.n
      have C : wp (f_X2_slipped (nI d) y σ) (fun r σ' => qU σ σ' ∧ slA σ nk d (if y = 0 then 1 else -1) r) := by
        unfold f_X2_slipped
        refine wp_e (noDay_t h) (wp_ift rfl (wp_e (noEnd_t g) (wp_ift rfl (wp_if (fun q => ?_) (fun q => ?_)))))
        · rw [if_pos q]
          exact wp_c (s_first hI hd hn (Or.inl rfl) (x2 := -60) (x3 := 1) rfl rfl qU.rf) (fun r σ1 z => s_43 z.1 z.2)
        · rw [if_neg q]
          exact wp_c (s_first hI hd hn (Or.inr rfl) (x2 := 60) (x3 := -1) rfl rfl qU.rf) (fun r σ1 z => s_43 z.1 z.2)
      exact wp_mono C (fun r σ1 z => wp_mono (s_slippedR hI hd hn g z.1) (fun r' σ2 z' => ⟨z'.2.uq z.2, hI.u z'.1⟩))
    · unfold f_X2_slipped f_X3_slipped
      exact wp_e (noDay_t h) (wp_ift rfl (wp_e (noEnd_f g) (wp_iff (by decide) (wp_some (wp_e (isDay_t h) (wp_iff (by decide) (wp_e (isEnd_f g) (wp_ift rfl (wp_some ⟨rfl, hI⟩)))))))))
  · unfold f_X2_slipped f_X3_slipped
    exact wp_e (noDay_f h) (wp_iff (by decide) (wp_some (wp_e (isDay_f h) (wp_ift rfl (wp_some ⟨rfl, hI⟩)))))
