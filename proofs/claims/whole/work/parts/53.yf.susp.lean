/-! SUSPECTS -/
def csA (σ : bd_S) (d s c : Nat) : Prop := gone σ s c 99 (s63 σ) ∧ ¬ gone σ s c d (s63 σ)
theorem gone_w {σ : bd_S} (hI : Inv σ) {s c d : Nat} {sl : Nat → Int} (hs : s < 4) (h : ¬ isSet σ s c d) : gone σ s c 99 sl ↔ gone σ s c d sl := by
  have hN := (hI.2.2.2.2 s hs).1.2.2
  have key : ∀ lo hi, Adm0 σ s c 99 sl lo hi ↔ Adm0 σ s c d sl lo hi := fun lo hi => by
    unfold Adm0 Adn
    refine and_congr_right fun _ => ⟨fun z k hk q1 q2 => z k hk q1 ?_, fun z k hk q1 q2 => z k hk q1 ?_⟩
    · have r2 := (hN k hk).2.1.1
      rcases q2 with q2 | q2
      · exact Or.inl q2
      · exact Or.inr ⟨by omega, q2.2⟩
    · rcases q2 with q2 | q2
      · exact Or.inl q2
      · by_cases h3 : σ 69 (12 * s + k) = 3
        · exact Or.inl h3
        · exact Or.inr ⟨fun e => h ⟨k, hk, q1, h3, e, Or.inr q2.2⟩, q2.2⟩
  unfold gone
  exact ⟨fun z => sp_no_congr (fun lo hi _ _ => key lo hi) z, fun z => sp_no_congr (fun lo hi _ _ => (key lo hi).symm) z⟩
noncomputable def csT (σ : bd_S) (d s c n : Nat) : Nat := @ite _ (csA σ d s c) (Classical.propDecidable _) (n + 1) n
theorem csT_y {σ : bd_S} {d s c n : Nat} (h : csA σ d s c) : csT σ d s c n = n + 1 := if_pos h
theorem csT_n {σ : bd_S} {d s c n : Nat} (h : ¬ csA σ d s c) : csT σ d s c n = n := if_neg h
noncomputable def csI (σ : bd_S) (d s n : Nat) : Nat → Nat
  | 0 => n
  | c + 1 => csT σ d s c (csI σ d s n c)
noncomputable def csO (σ : bd_S) (d : Nat) : Nat → Nat
  | 0 => 0
  | s + 1 => csI σ d s (csO σ d s) 3
theorem csI_le {σ : bd_S} {d s n : Nat} : ∀ c, csI σ d s n c ≤ n + c := by
  intro c
  induction c with
  | zero => exact Nat.le_refl _
  | succ c ih =>
    unfold csI
    by_cases z : csA σ d s c
    · rw [csT_y z]; omega
    · rw [csT_n z]; omega
theorem csO_le {σ : bd_S} {d : Nat} : ∀ s, csO σ d s ≤ 3 * s := by
  intro s
  induction s with
  | zero => exact Nat.le_refl _
  | succ s ih =>
    have := csI_le (σ := σ) (d := d) (s := s) (n := csO σ d s) 3
    unfold csO
    omega
theorem cs_C {σ0 : bd_S} (hI : Inv σ0) {d s : Nat} (hd : d < 20) (hs : s < 4) {n0 : Nat} {K : Int32 → Int32 → Int32 → bd_S → Option (Int32 × bd_S)} {P : Int32 → bd_S → Prop}
    (hk : ∀ σ', qU σ0 σ' → wp (K (nI s) (nI (csI σ0 d s n0 3)) (nI d) σ') P) : ∀ (m c n : Nat) (σ : bd_S), c + m = 3 → m < n → qU σ0 σ → wp (f_X2_countSuspects_15 K n (nI c) (nI s) (nI (csI σ0 d s n0 c)) (nI d) σ) P := by
  obtain ⟨e1, e2, e3, -⟩ := hI.2.2.2.2 s hs
  intro m
  induction m with
  | zero =>
    intro c n σ hc hn hU
    obtain ⟨n, rfl⟩ : ∃ z, n = z + 1 := ⟨n - 1, by omega⟩
    have : c = 3 := by omega
    subst this
    unfold f_X2_countSuspects_15
    exact wp_ift ((nle (by decide) (by decide)).mpr (Nat.le_refl 3)) (hk σ hU)
  | succ m ih =>
    intro c n σ hc hn hU
    obtain ⟨n, rfl⟩ : ∃ z, n = z + 1 := ⟨n - 1, by omega⟩
    have skip : ∀ σ', qU σ0 σ' → ¬ csA σ0 d s c → wp (f_X2_countSuspects_15 K n (nI (c + 1)) (nI s) (nI (csI σ0 d s n0 c)) (nI d) σ') P := fun σ' hU' z => by
      have e : csI σ0 d s n0 (c + 1) = csI σ0 d s n0 c := by show csT σ0 d s c _ = _; rw [csT_n z]
      rw [← e]
      exact ih (c + 1) n σ' (by omega) (by omega) hU'
    unfold f_X2_countSuspects_15
    refine wp_iff (fun q => ?_) (wp_rs s rfl hs (wp_c (s_isSetOn hI hU.v hs (by omega) hd) (fun r σ' h => ?_)))
    · have := (nle (a := 3) (by decide) (by omega)).mp q
      omega
    obtain ⟨rfl, h⟩ := h
    rcases h with ⟨rfl, ht⟩ | ⟨rfl, ht⟩
    · refine wp_iff (by decide) (wp_rs s rfl hs (l_C hI hs (by omega) (fun g σ1 u => ?_) (fun g σ1 u L => ?_) hU))
      · refine wp_ift rfl (wp_rs s rfl hs (wp_c (s_learnBut (σ0 := σ0) (w := d) (sl := s63 σ0) hs (by omega) e1 hI.2.1 e2 e3 hI.qL (hI.qC u.v) (fun k => (hI.2.2.1.2.2.2.1 k).2) u.v (fun k hk => neq (by omega) (by omega)) (fun k hk => ?_) (by decide)) (fun r σ2 q => ?_)))
        · rw [if_neg (fun q => by have := (m1_nI hk).mp q; omega)]
          omega
        · have u2 : qU σ0 σ2 := u.tr (q.1.u (Or.inr rfl))
          rcases q.2.a with ⟨rfl, q', -⟩ | ⟨rfl, q'⟩
          · refine wp_iff (by decide) (wp_lt (wp_lt ?_))
            rw [nI_1, nI_1]
            have e : csI σ0 d s n0 (c + 1) = csI σ0 d s n0 c + 1 := by show csT σ0 d s c _ = _; rw [csT_y ⟨g, q'⟩]
            rw [← e]
            exact ih (c + 1) n σ2 (by omega) (by omega) u2
          · exact wp_ift rfl (wp_lt (by rw [nI_1]; exact skip σ2 u2 (fun z => z.2 q')))
      · exact wp_iff (by decide) (wp_lt (by rw [nI_1]; exact skip σ1 u (fun z => g z.1)))
    · exact wp_ift rfl (wp_lt (by rw [nI_1]; exact skip σ' hU (fun z => z.2 ((gone_w hI hs ht).mp z.1))))
