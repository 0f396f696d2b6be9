def oO (σ : bd_S) (k : Nat) : Int := (σ 59 k).toInt
def oP (σ : bd_S) (k : Nat) : Int := (σ 60 k).toInt
theorem s_89 {σ0 : bd_S} : ∀ (m k n : Nat) (σ : bd_S), k + m = 21 → m < n → (∀ r, r ≠ 59 → r ≠ 60 → σ r = σ0 r) → (∀ j, j < k → σ 59 j = σ0 79 j ∧ σ 60 j = σ0 80 j) → wp (f_X3_layOffs_89 n (nI k) 1 σ) (fun r σ' => r = 1 ∧ (∀ r, r ≠ 59 → r ≠ 60 → σ' r = σ0 r) ∧ ∀ j, j ≤ 20 → σ' 59 j = σ0 79 j ∧ σ' 60 j = σ0 80 j) := by
  intro m
  induction m with
  | zero =>
    intro k n σ hk hn h1 h2
    obtain ⟨n, rfl⟩ : ∃ z, n = z + 1 := ⟨n - 1, by omega⟩
    have : k = 21 := by omega
    subst this
    unfold f_X3_layOffs_89
    exact wp_ift ((nle (by decide) (by decide)).mpr (Nat.le_refl 21)) (wp_zr (Or.inr rfl) ⟨rfl, h1, fun j hj => h2 j (by omega)⟩)
  | succ m ih =>
    intro k n σ hk hn h1 h2
    obtain ⟨n, rfl⟩ : ∃ z, n = z + 1 := ⟨n - 1, by omega⟩
    unfold f_X3_layOffs_89
    refine wp_iff (fun q => ?_) (wp_iff (by decide) (wp_rd k rfl (by omega) (by decide) (wp_wr k rfl (by omega) (by decide) (wp_rd k rfl (by omega) (by decide) (wp_wr k rfl (by omega) (by decide) (wp_lt ?_))))))
    · have := (nle (a := 21) (by decide) (by omega)).mp q
      omega
    rw [nI_1]
    refine ih (k + 1) n _ (by omega) (by omega) (fun r q1 q2 => by rw [st_ne q2, st_ne q1]; exact h1 r q1 q2) (fun j hj => ?_)
    rw [st_ne (show (59 : Nat) ≠ 60 by decide)]
    by_cases e : j = k
    · subst e
      rw [st_same, st_same, st_ne (show (80 : Nat) ≠ 59 by decide), h1 79 (by decide) (by decide), h1 80 (by decide) (by decide)]
      exact ⟨rfl, rfl⟩
    · rw [st_off e, st_off e, st_ne (show (60 : Nat) ≠ 59 by decide)]
      exact h2 j (by omega)
/-- what laying the stars answers -/
def LO (σ : bd_S) (N : Nat) (r : Int32) (σ' : bd_S) : Prop := (∀ r k, ¬ qS r k → r ≠ 59 → r ≠ 60 → σ' r k = σ r k) ∧ ((r = 1 ∧ sp_cl (fun _ => 0) (AdO σ N) (oO σ') (oP σ')) ∨ (r = 0 ∧ sp_no (fun _ => 0) (AdO σ N) ∧ σ' 59 = σ 59 ∧ σ' 60 = σ 60))
theorem s_layOffs {σ : bd_S} {N : Nat} (hT : qT σ N) (h0 : σ 55 0 = nI N) (h81 : σ 81 0 = 0) : wp (f_X3_layOffs σ) (LO σ N) := by
  unfold f_X3_layOffs
  refine wp_c s_start (fun _ σ1 h1 => ?_)
  obtain ⟨f1, f2⟩ := h1
  refine s_off11 (σ0 := σ1) (fun σ2 g1 g2 => ?_) 20 0 FU_ σ1 (by decide) (by rw [FU_v]; omega) (fun _ _ => rfl) (fun k hk => absurd hk (Nat.not_lt_zero k))
  have E1 : ∀ k, k ≤ 20 → cl σ2 k = sp_j (fun _ => -600) (-20) k ∧ ch σ2 k = sp_j (fun _ => 600) 20 k := fun k hk => by
    have h := f2 k hk
    show (σ2 79 k).toInt = _ ∧ (σ2 80 k).toInt = _
    rw [g1 79 (by decide), g1 80 (by decide), h.1, h.2]
    unfold sp_j
    by_cases e : k = 20
    · rw [if_pos e, if_pos e, if_pos e, if_pos e]; exact ⟨rfl, rfl⟩
    · rw [if_neg e, if_neg e, if_neg e, if_neg e]; exact ⟨rfl, rfl⟩
  have hg : ∀ k, k < 20 → cg σ2 k = 0 := fun k hk => by
    show (σ2 81 k).toInt = 0
    rw [g2 k hk]; rfl
  have B2 : Bn σ2 := by
    refine ⟨fun k hk => ?_, ?_, fun k hk => ?_⟩
    · have h := E1 k (by omega)
      rw [sp_jd hk, sp_jd hk] at h
      omega
    · have h := E1 20 (by omega)
      rw [sp_jr, sp_jr] at h
      omega
    · rw [hg k hk]; omega
  have U2 : ∀ r k, ¬ qS r k → σ2 r k = σ r k := fun r k q => by
    unfold qS at q
    by_cases e : r = 81
    · subst e
      have : k = 0 := by omega
      subst this
      rw [g2 0 (by decide), h81]
    · rw [g1 r e, f1 r (by omega) (by omega)]
  refine s_off32 (σ0 := σ) (N := N) hT (by rw [U2 55 0 (by unfold qS; omega)]; exact h0) (fun r q1 q2 => funext fun k => U2 r k (by unfold qS; omega)) (fun σ3 b1 b2 => ?_) N 0 FU_ σ2 (by omega) (by rw [FU_v]; have := hT.1; omega) Nst.rf (fun lo hi => ?_)
  · refine wp_c (s_narrowR (B2.mo b1.2.1 (b1.1.1 81 (by decide) (by decide) (by decide)))) (fun r σ4 h => ?_)
    obtain ⟨d1, d2⟩ := h
    rw [b1.cg] at d2
    have U4 : ∀ r k, ¬ qS r k → σ4 r k = σ r k := fun r k q => (d1.v r k q).trans ((b1.1.v r k q).trans (U2 r k q))
    rcases d2 with ⟨rfl, d2⟩ | ⟨rfl, d2⟩
    · refine wp_mono (s_89 (σ0 := σ4) 21 0 FU_ σ4 (by decide) (by rw [FU_v]; omega) (fun _ _ _ => rfl) (fun k hk => absurd hk (Nat.not_lt_zero k))) (fun r σ5 q => ?_)
      obtain ⟨rfl, q1, q2⟩ := q
      refine ⟨fun r k z1 z2 z3 => by rw [q1 r z2 z3]; exact U4 r k z1, Or.inl ⟨rfl, ?_⟩⟩
      have c := sp_cl_g hg (sp_cl_ext d2 (lo' := oO σ5) (hi' := oP σ5) (fun k hk => by show (σ5 59 k).toInt = _; rw [(q2 k hk).1]) (fun k hk => by show (σ5 60 k).toInt = _; rw [(q2 k hk).2]))
      exact sp_cl_congr (fun lo hi _ _ => b2 lo hi) c
    · obtain ⟨n, hn⟩ : ∃ n, FU_ = n + 1 := ⟨9999999, rfl⟩
      rw [hn]
      unfold f_X3_layOffs_89
      refine wp_iff (by decide) (wp_ift rfl (wp_zr (Or.inl rfl) ⟨fun r k z1 _ _ => U4 r k z1, Or.inr ⟨rfl, sp_no_congr (fun lo hi _ _ => b2 lo hi) (sp_no_g hg d2), ?_, ?_⟩⟩))
      · exact funext fun k => U4 59 k (by unfold qS; omega)
      · exact funext fun k => U4 60 k (by unfold qS; omega)
  · unfold AdO
    constructor
    · intro z
      refine ⟨fun k hk => ?_, fun k hk => absurd hk (Nat.not_lt_zero k)⟩
      rw [← (E1 k hk).1, ← (E1 k hk).2]
      exact z k hk
    · rintro ⟨z, -⟩ k hk
      rw [(E1 k hk).1, (E1 k hk).2]
      exact z k hk
