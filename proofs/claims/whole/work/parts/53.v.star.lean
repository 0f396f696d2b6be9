/-! STARS -/
theorem wp_cp {α : Type} {σ : bd_S} {r1 r2 : Nat} {k : bd_S → Option (α × bd_S)} {P : α → bd_S → Prop} (h : wp (k (bd_sr σ r2 (fun j => if j < 20 then σ r1 j else σ r2 j))) P) : wp (bd_cp σ r1 0 r2 0 20 20 k) P := by
  unfold bd_cp
  have e0 : (0 : Int32).toNatClampNeg = 0 := rfl
  have e20 : (20 : Int32).toNatClampNeg = 20 := rfl
  rw [if_neg (by decide), e0, e20]
  have : va_cpy (σ r1) (σ r2) 0 0 20 = (fun j => if j < 20 then σ r1 j else σ r2 j) := by
    funext j
    unfold va_cpy
    by_cases e : j < 20
    · rw [if_pos (by omega), if_pos e]; congr 1; omega
    · rw [if_neg (by omega), if_neg e]
  rw [this]
  exact h
theorem s_copy {L0 L1 : Nat} {σ : bd_S} (hd : L0 + 2 < L1 ∨ L1 + 2 < L0) : wp (f_X0_copyFrom L0 L1 σ) (fun _ σ' => fL L0 σ σ' ∧ (∀ k, k < 20 → σ' (L0 + 1) k = σ (L1 + 1) k ∧ σ' (L0 + 2) k = σ (L1 + 2) k) ∧ σ' L0 2 = σ L1 2 ∧ σ' L0 3 = σ L1 3 ∧ ∀ k, k ≠ 2 → k ≠ 3 → σ' L0 k = σ L0 k) := by
  unfold f_X0_copyFrom
  refine wp_cp (wp_cp (wp_lt (wp_lt (wp_lt (wp_lt (wp_some ⟨fun r q1 q2 q3 => ?_, fun k hk => ?_, ?_, ?_, fun k q1 q2 => ?_⟩))))))
  · rw [st_ne q1, st_ne q1, bd_sr_ne _ _ q3, bd_sr_ne _ _ q2]
  · rw [st_ne (by omega), st_ne (by omega), st_ne (by omega), st_ne (by omega), bd_sr_ne _ _ (show L0 + 1 ≠ L0 + 2 by omega), bd_sr_self, bd_sr_self, bd_sr_ne _ _ (show L1 + 2 ≠ L0 + 1 by omega)]
    exact ⟨if_pos hk, if_pos hk⟩
  · rw [st_off (by decide), st_same, bd_sr_ne _ _ (by omega), bd_sr_ne _ _ (by omega)]
  · rw [st_same, st_ne (by omega), bd_sr_ne _ _ (by omega), bd_sr_ne _ _ (by omega)]
  · rw [st_off q2, st_off q1, bd_sr_ne _ _ (by omega), bd_sr_ne _ _ (by omega)]
/-- the stars' marks, as the reference keeps them -/
def qT (σ : bd_S) (n : Nat) : Prop := n ≤ 20 ∧ ∀ k, k < n → (∃ d, d < 20 ∧ σ 56 k = nI d) ∧ -600 ≤ (σ 57 k).toInt ∧ (σ 57 k).toInt ≤ 600 ∧ 0 ≤ (σ 58 k).toInt ∧ (σ 58 k).toInt ≤ 9
theorem s_off11 {σ0 : bd_S} {K : bd_S → Option (Int32 × bd_S)} {P : Int32 → bd_S → Prop} (hk : ∀ σ, (∀ r, r ≠ 81 → σ r = σ0 r) → (∀ k, k < 20 → σ 81 k = 0) → wp (K σ) P) : ∀ (m d n : Nat) (σ : bd_S), d + m = 20 → m < n → (∀ r, r ≠ 81 → σ r = σ0 r) → (∀ k, k < d → σ 81 k = 0) → wp (f_X3_layOffs_11 K n (nI d) σ) P := by
  intro m
  induction m with
  | zero =>
    intro d n σ hd hn h1 h2
    obtain ⟨n, rfl⟩ : ∃ z, n = z + 1 := ⟨n - 1, by omega⟩
    have : d = 20 := by omega
    subst this
    unfold f_X3_layOffs_11
    exact wp_ift ((nle (by decide) (by decide)).mpr (Nat.le_refl 20)) (hk σ h1 h2)
  | succ m ih =>
    intro d n σ hd hn h1 h2
    obtain ⟨n, rfl⟩ : ∃ z, n = z + 1 := ⟨n - 1, by omega⟩
    unfold f_X3_layOffs_11
    refine wp_iff (fun q => ?_) (wp_wr d rfl (by omega) (by decide) (wp_lt ?_))
    · have := (nle (a := 20) (by decide) (by omega)).mp q
      omega
    rw [nI_1]
    refine ih (d + 1) n _ (by omega) (by omega) (fun r q => by rw [st_ne q]; exact h1 r q) (fun k hk => ?_)
    by_cases e : k = d
    · subst e; exact st_same
    · rw [st_off e]; exact h2 k (by omega)
theorem s_off32 {σ0 σs : bd_S} {N : Nat} {K : bd_S → Option (Int32 × bd_S)} {P : Int32 → bd_S → Prop} (hT : qT σ0 N) (h0 : σs 55 0 = nI N) (e : ∀ r, 56 ≤ r → r ≤ 58 → σs r = σ0 r) (hk : ∀ σ, Nst σs σ → (∀ lo hi, sp_sub lo hi (cl σ) (ch σ) ↔ AdO σ0 N lo hi) → wp (K σ) P) :
    ∀ (m k n : Nat) (σ : bd_S), k + m = N → m < n → Nst σs σ → (∀ lo hi, sp_sub lo hi (cl σ) (ch σ) ↔ AdO σ0 k lo hi) → wp (f_X3_layOffs_32 K n (nI k) σ) P := by
  intro m
  induction m with
  | zero =>
    intro k n σ hk' hn h1 h2
    obtain ⟨n, rfl⟩ : ∃ z, n = z + 1 := ⟨n - 1, by omega⟩
    have : k = N := by omega
    subst this
    unfold f_X3_layOffs_32
    refine wp_lt ?_
    rw [h1.1.2 0 (by decide), h0]
    exact wp_ift ((nle (by have := hT.1; omega) (by have := hT.1; omega)).mpr (Nat.le_refl _)) (hk σ h1 h2)
  | succ m ih =>
    intro k n σ hk' hn h1 h2
    obtain ⟨n, rfl⟩ : ∃ z, n = z + 1 := ⟨n - 1, by omega⟩
    have hN := hT.1
    obtain ⟨⟨d, hd, t1⟩, t2, t3, t4, t5⟩ := hT.2 k (by omega)
    have f : ∀ r, 56 ≤ r → r ≤ 58 → σ r = σ0 r := fun r q1 q2 => (h1.1.1 r (by omega) (by omega) (by omega)).trans (e r q1 q2)
    unfold f_X3_layOffs_32
    refine wp_lt ?_
    rw [h1.1.2 0 (by decide), h0]
    refine wp_iff (fun q => ?_) (wp_rd k rfl (by omega) (by decide) (wp_rd k rfl (by omega) (by decide) (wp_rd k rfl (by omega) (by decide) (wp_lt (wp_rd k rfl (by omega) (by decide) (wp_rd k rfl (by omega) (by decide) (wp_lt ?_)))))))
    · have := (nle (by omega) (by omega)).mp q
      omega
    rw [f 56 (by decide) (by decide), f 57 (by decide) (by decide), f 58 (by decide) (by decide), t1]
    refine wp_c (s_within (by omega)) (fun _ σ2 hw => wp_lt ?_)
    rw [nI_1]
    have y1 : (σ0 57 k - σ0 58 k).toInt = (σ0 57 k).toInt - (σ0 58 k).toInt := by rw [fb_subI] <;> omega
    have y2 : (σ0 57 k + σ0 58 k).toInt = (σ0 57 k).toInt + (σ0 58 k).toInt := by rw [fb_addI] <;> omega
    rw [y1, y2] at hw
    refine ih (k + 1) n σ2 (by omega) (by omega) (h1.tr hw.1) (fun lo hi => ?_)
    rw [sp_sub_cut (by omega) (fun k _ => hw.2.1 k) (fun k _ => hw.2.2 k), h2 lo hi]
    have ed : nv (σ0 56 k) = d := by rw [t1]; exact nv_nI (by omega)
    unfold AdO
    rw [and_assoc]
    refine and_congr_right fun _ => ⟨fun z j hj => ?_, fun z => ⟨fun j hj => z j (by omega), ?_⟩⟩
    · by_cases ej : j = k
      · subst ej; rw [ed]; exact z.2
      · exact z.1 j (by omega)
    · have := z k (by omega)
      rw [ed] at this
      exact this
