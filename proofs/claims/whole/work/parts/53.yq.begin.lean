/-! AT THE START -/
theorem in_122 {σ0 : bd_S} {K : bd_S → Option (Unit × bd_S)} {P : Unit → bd_S → Prop} (hk : ∀ σ : bd_S, (∀ r, r ≠ 13 → σ r = σ0 r) → (∀ k, σ 13 k = if k < 20 then 5 else σ0 13 k) → wp (K σ) P) : ∀ (m d n : Nat) (σ : bd_S), d + m = 20 → m < n → (∀ r, r ≠ 13 → σ r = σ0 r) → (∀ k, σ 13 k = if k < d then 5 else σ0 13 k) → wp (f_X2_init_122 K n (nI d) σ) P := by
  intro m
  induction m with
  | zero =>
    intro d n σ hd hn h1 h2
    obtain ⟨n, rfl⟩ : ∃ z, n = z + 1 := ⟨n - 1, by omega⟩
    have : d = 20 := by omega
    subst this
    unfold f_X2_init_122
    exact wp_ift ((nle (by decide) (by decide)).mpr (Nat.le_refl 20)) (hk σ h1 h2)
  | succ m ih =>
    intro d n σ hd hn h1 h2
    obtain ⟨n, rfl⟩ : ∃ z, n = z + 1 := ⟨n - 1, by omega⟩
    unfold f_X2_init_122
    refine wp_iff (fun q => ?_) (wp_wr d rfl (by omega) (by decide) (wp_lt ?_))
    · have := (nle (a := 20) (by decide) (by omega)).mp q
      omega
    rw [nI_1]
    refine ih (d + 1) n _ (by omega) (by omega) (fun r q => by rw [st_ne q]; exact h1 r q) (fun k => ?_)
    by_cases e : k = d
    · subst e; rw [st_same, if_pos (by omega)]
    · rw [st_off e, h2 k]
      by_cases e' : k < d
      · rw [if_pos e', if_pos (by omega)]
      · rw [if_neg e', if_neg (by omega)]
theorem in_240 {σ0 : bd_S} {K : bd_S → Option (Unit × bd_S)} {P : Unit → bd_S → Prop} (hk : ∀ σ : bd_S, (∀ r, r ≠ 65 → σ r = σ0 r) → (∀ k, σ 65 k = if k < 20 then 5 else σ0 65 k) → wp (K σ) P) : ∀ (m d n : Nat) (σ : bd_S), d + m = 20 → m < n → (∀ r, r ≠ 65 → σ r = σ0 r) → (∀ k, σ 65 k = if k < d then 5 else σ0 65 k) → wp (f_X3_init_240 K n (nI d) σ) P := by
  intro m
  induction m with
  | zero =>
    intro d n σ hd hn h1 h2
    obtain ⟨n, rfl⟩ : ∃ z, n = z + 1 := ⟨n - 1, by omega⟩
    have : d = 20 := by omega
    subst this
    unfold f_X3_init_240
    exact wp_ift ((nle (by decide) (by decide)).mpr (Nat.le_refl 20)) (hk σ h1 h2)
  | succ m ih =>
    intro d n σ hd hn h1 h2
    obtain ⟨n, rfl⟩ : ∃ z, n = z + 1 := ⟨n - 1, by omega⟩
    unfold f_X3_init_240
    refine wp_iff (fun q => ?_) (wp_wr d rfl (by omega) (by decide) (wp_lt ?_))
    · have := (nle (a := 20) (by decide) (by omega)).mp q
      omega
    rw [nI_1]
    refine ih (d + 1) n _ (by omega) (by omega) (fun r q => by rw [st_ne q]; exact h1 r q) (fun k => ?_)
    by_cases e : k = d
    · subst e; rw [st_same, if_pos (by omega)]
    · rw [st_off e, h2 k]
      by_cases e' : k < d
      · rw [if_pos e', if_pos (by omega)]
      · rw [if_neg e', if_neg (by omega)]
theorem in_261 {σ0 : bd_S} {K : bd_S → Option (Unit × bd_S)} {P : Unit → bd_S → Prop} (hk : ∀ σ : bd_S, (∀ r, r ≠ 74 → σ r = σ0 r) → (∀ k, σ 74 k = if k < 12 then 1 else σ0 74 k) → wp (K σ) P) : ∀ (m d n : Nat) (σ : bd_S), d + m = 12 → m < n → (∀ r, r ≠ 74 → σ r = σ0 r) → (∀ k, σ 74 k = if k < d then 1 else σ0 74 k) → wp (f_X3_init_261 K n (nI d) σ) P := by
  intro m
  induction m with
  | zero =>
    intro d n σ hd hn h1 h2
    obtain ⟨n, rfl⟩ : ∃ z, n = z + 1 := ⟨n - 1, by omega⟩
    have : d = 12 := by omega
    subst this
    unfold f_X3_init_261
    exact wp_ift ((nle (by decide) (by decide)).mpr (Nat.le_refl 12)) (hk σ h1 h2)
  | succ m ih =>
    intro d n σ hd hn h1 h2
    obtain ⟨n, rfl⟩ : ∃ z, n = z + 1 := ⟨n - 1, by omega⟩
    unfold f_X3_init_261
    refine wp_iff (fun q => ?_) (wp_wr d rfl (by omega) (by decide) (wp_lt ?_))
    · have := (nle (a := 12) (by decide) (by omega)).mp q
      omega
    rw [nI_1]
    refine ih (d + 1) n _ (by omega) (by omega) (fun r q => by rw [st_ne q]; exact h1 r q) (fun k => ?_)
    by_cases e : k = d
    · subst e; rw [st_same, if_pos (by omega)]
    · rw [st_off e, h2 k]
      by_cases e' : k < d
      · rw [if_pos e', if_pos (by omega)]
      · rw [if_neg e', if_neg (by omega)]
theorem in_169 {σ0 : bd_S} {K : bd_S → Option (Unit × bd_S)} {P : Unit → bd_S → Prop} (hk : ∀ σ : bd_S, (∀ r, r ≠ 15 → r ≠ 16 → σ r = σ0 r) → (∀ k, σ 15 k = (if k < 4 then -99999 else σ0 15 k) ∧ σ 16 k = (if k < 4 then 99999 else σ0 16 k)) → wp (K σ) P) : ∀ (m d n : Nat) (σ : bd_S), d + m = 4 → m < n → (∀ r, r ≠ 15 → r ≠ 16 → σ r = σ0 r) → (∀ k, σ 15 k = (if k < d then -99999 else σ0 15 k) ∧ σ 16 k = (if k < d then 99999 else σ0 16 k)) → wp (f_X2_init_169 K n (nI d) σ) P := by
  intro m
  induction m with
  | zero =>
    intro d n σ hd hn h1 h2
    obtain ⟨n, rfl⟩ : ∃ z, n = z + 1 := ⟨n - 1, by omega⟩
    have : d = 4 := by omega
    subst this
    unfold f_X2_init_169
    exact wp_ift ((nle (by decide) (by decide)).mpr (Nat.le_refl 4)) (hk σ h1 h2)
  | succ m ih =>
    intro d n σ hd hn h1 h2
    obtain ⟨n, rfl⟩ : ∃ z, n = z + 1 := ⟨n - 1, by omega⟩
    unfold f_X2_init_169
    refine wp_iff (fun q => ?_) (wp_wr d rfl (by omega) (by decide) (wp_wr d rfl (by omega) (by decide) (wp_lt ?_)))
    · have := (nle (a := 4) (by decide) (by omega)).mp q
      omega
    rw [nI_1]
    refine ih (d + 1) n _ (by omega) (by omega) (fun r q q' => by rw [st_ne q', st_ne q]; exact h1 r q q') (fun k => ?_)
    rw [st_ne (show (15 : Nat) ≠ 16 by decide)]
    by_cases e : k = d
    · subst e; rw [st_same, st_same, if_pos (by omega), if_pos (by omega)]; exact ⟨rfl, rfl⟩
    · rw [st_off e, st_off e, st_ne (show (16 : Nat) ≠ 15 by decide), (h2 k).1, (h2 k).2]
      by_cases e' : k < d
      · rw [if_pos e', if_pos e', if_pos (show k < d + 1 by omega), if_pos (show k < d + 1 by omega)]; exact ⟨rfl, rfl⟩
      · rw [if_neg e', if_neg e', if_neg (show ¬ k < d + 1 by omega), if_neg (show ¬ k < d + 1 by omega)]; exact ⟨rfl, rfl⟩
theorem in_282 {σ0 : bd_S} {K : bd_S → Option (Unit × bd_S)} {P : Unit → bd_S → Prop} (hk : ∀ σ : bd_S, (∀ r, r ≠ 77 → r ≠ 78 → σ r = σ0 r) → (∀ k, σ 77 k = (if k < 4 then -99999 else σ0 77 k) ∧ σ 78 k = (if k < 4 then 99999 else σ0 78 k)) → wp (K σ) P) : ∀ (m d n : Nat) (σ : bd_S), d + m = 4 → m < n → (∀ r, r ≠ 77 → r ≠ 78 → σ r = σ0 r) → (∀ k, σ 77 k = (if k < d then -99999 else σ0 77 k) ∧ σ 78 k = (if k < d then 99999 else σ0 78 k)) → wp (f_X3_init_282 K n (nI d) σ) P := by
  intro m
  induction m with
  | zero =>
    intro d n σ hd hn h1 h2
    obtain ⟨n, rfl⟩ : ∃ z, n = z + 1 := ⟨n - 1, by omega⟩
    have : d = 4 := by omega
    subst this
    unfold f_X3_init_282
    exact wp_ift ((nle (by decide) (by decide)).mpr (Nat.le_refl 4)) (hk σ h1 h2)
  | succ m ih =>
    intro d n σ hd hn h1 h2
    obtain ⟨n, rfl⟩ : ∃ z, n = z + 1 := ⟨n - 1, by omega⟩
    unfold f_X3_init_282
    refine wp_iff (fun q => ?_) (wp_wr d rfl (by omega) (by decide) (wp_wr d rfl (by omega) (by decide) (wp_lt ?_)))
    · have := (nle (a := 4) (by decide) (by omega)).mp q
      omega
    rw [nI_1]
    refine ih (d + 1) n _ (by omega) (by omega) (fun r q q' => by rw [st_ne q', st_ne q]; exact h1 r q q') (fun k => ?_)
    rw [st_ne (show (77 : Nat) ≠ 78 by decide)]
    by_cases e : k = d
    · subst e; rw [st_same, st_same, if_pos (by omega), if_pos (by omega)]; exact ⟨rfl, rfl⟩
    · rw [st_off e, st_off e, st_ne (show (78 : Nat) ≠ 77 by decide), (h2 k).1, (h2 k).2]
      by_cases e' : k < d
      · rw [if_pos e', if_pos e', if_pos (show k < d + 1 by omega), if_pos (show k < d + 1 by omega)]; exact ⟨rfl, rfl⟩
      · rw [if_neg e', if_neg e', if_neg (show ¬ k < d + 1 by omega), if_neg (show ¬ k < d + 1 by omega)]; exact ⟨rfl, rfl⟩
def D1 (σ1 : bd_S) : Prop := (∀ k, k < 20 → σ1 2 k = -600 ∧ σ1 3 k = 600) ∧ (σ1 1 2 = -20 ∧ σ1 1 3 = 20) ∧ (∀ k, σ1 13 k = if k < 20 then 5 else sx_s0 13 k) ∧ ∀ r, r ≠ 1 → r ≠ 2 → r ≠ 3 → r ≠ 13 → σ1 r = sx_s0 r
theorem s_begin1 : wp (f_X2_init_108 (fun s => some ((), s)) sx_s0) (fun _ σ1 => D1 σ1) := by
  unfold f_X2_init_108
  refine wp_c s_open (fun _ σa h => ?_)
  obtain ⟨a1, a2, a3, a4, -⟩ := h
  refine in_122 (σ0 := σa) (fun σ h1 h2 => wp_some ⟨fun k hk => ?_, ⟨?_, ?_⟩, fun k => ?_, fun r q1 q2 q3 q4 => ?_⟩) 20 0 FU_ σa (by decide) (by rw [FU_v]; omega) (fun _ _ => rfl) (fun k => by rw [if_neg (Nat.not_lt_zero k)])
  · rw [h1 2 (by decide), h1 3 (by decide)]; exact a2 k hk
  · rw [h1 1 (by decide)]; exact a3
  · rw [h1 1 (by decide)]; exact a4
  · rw [h2 k, a1 13 (by decide) (by decide) (by decide)]
  · rw [h1 r q4, a1 r q1 q2 q3]
theorem s_begin2 {σ1 : bd_S} : wp (f_X2_init_167 (fun s => some ((), s)) σ1) (fun _ σ2 => (∀ r, r ≠ 15 → r ≠ 16 → σ2 r = σ1 r) ∧ (∀ k, σ2 15 k = (if k < 4 then -99999 else σ1 15 k) ∧ σ2 16 k = (if k < 4 then 99999 else σ1 16 k))) := by
  unfold f_X2_init_167
  exact in_169 (σ0 := σ1) (fun σ h1 h2 => wp_some ⟨h1, h2⟩) 4 0 FU_ σ1 (by decide) (by rw [FU_v]; omega) (fun _ _ _ => rfl) (fun k => by rw [if_neg (Nat.not_lt_zero k), if_neg (Nat.not_lt_zero k)]; exact ⟨rfl, rfl⟩)
theorem sx_z {r k : Nat} (h0 : r ≠ 0) (h1 : r ≠ 26) (h2 : r ≠ 35) (h3 : r ≠ 44) (h4 : r ≠ 53) (h5 : r ≠ 55) : sx_s0 r k = 0 := by
  unfold sx_s0
  rw [if_neg h0, if_neg h1, if_neg h2, if_neg h3, if_neg h4, if_neg h5]
theorem sx_f {s c : Nat} (hs : s < 4) (hc : c < 3) : sx_s0 (19 + 9 * s + 7) c = 1 := by
  have h1 : s = 0 ∨ s = 1 ∨ s = 2 ∨ s = 3 := by omega
  have h2 : c = 0 ∨ c = 1 ∨ c = 2 := by omega
  rcases h1 with rfl | rfl | rfl | rfl <;> rcases h2 with rfl | rfl | rfl <;> rfl
/-- the widest spans of all are narrow -/
theorem box_cl {σ : bd_S} : sp_cl (fun _ => 0) (AdO σ 0) (sp_j (fun _ => -600) (-20)) (sp_j (fun _ => 600) 20) := by
  refine ⟨⟨fun k _ => ⟨Int.le_refl _, Int.le_refl _⟩, fun k hk => absurd hk (Nat.not_lt_zero k)⟩, fun i j hij hj => ?_, fun k hk => ?_, fun lo hi h _ _ => h.1⟩
  · rw [sp_jd (show i < 20 by omega), sp_jd (show i < 20 by omega), sp_jd hj, sp_jd hj, sp_jr, sp_jr]
    dsimp only
    omega
  · unfold sp_j
    by_cases e : k = 20
    · rw [if_pos e, if_pos e]; decide
    · rw [if_neg e, if_neg e]
      show (-600 : Int) ≤ 600
      decide
