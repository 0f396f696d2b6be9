def bdc (σ : bd_S) : Prop := ∀ d, d < 20 → (-150000 ≤ la σ 7 d ∧ la σ 7 d ≤ 150000) ∧ (-150000 ≤ lb σ 7 d ∧ lb σ 7 d ≤ 150000)
theorem nAB_bd {σ0 : bd_S} {q : Nat} {sl : Nat → Int} (hN : qN σ0 q) (hL : qL σ0) (hb : ∀ d, d < 20 → -180 ≤ sl d ∧ sl d ≤ 180) : (-150000 ≤ nA σ0 sl q ∧ nA σ0 sl q ≤ 150000) ∧ (-150000 ≤ nB σ0 sl q ∧ nB σ0 sl q ≤ 150000) := by
  have h1 := lt_bd hL hN.1.1 (hb _ hN.1.1)
  obtain ⟨n1, n2, n3, n4⟩ := hN
  unfold nA nB
  by_cases h3 : σ0 69 q = 3
  · rw [if_pos h3, if_pos h3]; omega
  · have h4 := n4 h3
    have h5 := qN.b ⟨n1, n2, n3, n4⟩ h3
    rw [if_neg h3, if_neg h3]; omega
/-- a cut of the third line -/
def qX (σ σ' : bd_S) (d : Nat) (A B : Int) : Prop := (∀ r, r ≠ 8 → r ≠ 9 → σ' r = σ r) ∧ (∀ k, la σ' 7 k = if k = d then max (la σ 7 d) A else la σ 7 k) ∧ (∀ k, lb σ' 7 k = if k = d then min (lb σ 7 d) B else lb σ 7 k)
theorem qX.sp {σ σ' : bd_S} {d : Nat} {A B : Int} (hd : d < 20) (h : qX σ σ' d A B) : (∀ k, k ≤ 20 → spl σ' 7 k = if k = d then max (spl σ 7 d) A else spl σ 7 k) ∧ (∀ k, k ≤ 20 → sph σ' 7 k = if k = d then min (sph σ 7 d) B else sph σ 7 k) := by
  obtain ⟨h0, h1, h2⟩ := h
  have e7 : σ' 7 = σ 7 := h0 7 (by decide) (by decide)
  refine ⟨fun k hk => ?_, fun k hk => ?_⟩
  · show sp_j (la σ' 7) (lR σ' 7) k = if k = d then max (sp_j (la σ 7) (lR σ 7) d) A else sp_j (la σ 7) (lR σ 7) k
    by_cases e : k = 20
    · subst e
      rw [if_neg (by omega), sp_jr, sp_jr]
      show (σ' 7 2).toInt = _
      rw [e7]
    · have hk' : k < 20 := by omega
      rw [sp_jd (a := la σ' 7) hk', sp_jd (a := la σ 7) hk', sp_jd hd, h1]
  · show sp_j (lb σ' 7) (hR σ' 7) k = if k = d then min (sp_j (lb σ 7) (hR σ 7) d) B else sp_j (lb σ 7) (hR σ 7) k
    by_cases e : k = 20
    · subst e
      rw [if_neg (by omega), sp_jr, sp_jr]
      show (σ' 7 3).toInt = _
      rw [e7]
    · have hk' : k < 20 := by omega
      rw [sp_jd (a := lb σ' 7) hk', sp_jd (a := lb σ 7) hk', sp_jd hd, h2]
theorem qX.bd {σ σ' : bd_S} {d : Nat} {A B : Int} (h : qX σ σ' d A B) (hA : -150000 ≤ A ∧ A ≤ 150000) (hB : -150000 ≤ B ∧ B ≤ 150000) (hb : bdc σ) : bdc σ' := fun k hk => by
  have z := hb k hk
  rw [h.2.1, h.2.2]
  by_cases e : k = d
  · subst e; rw [if_pos rfl, if_pos rfl]; omega
  · rw [if_neg e, if_neg e]; exact z
theorem s_108 {σ0 σ : bd_S} {K : Int32 → Nat → Int32 → Int32 → Int32 → Int32 → bd_S → Option (Int32 × bd_S)} {P : Int32 → bd_S → Prop} {s k d : Nat} {x2 x3 x4 x5 t0 : Int32} (hs : s < 4) (hk : k < 12) (hd : d < 20) (hL : qL σ0) (hC : qC σ0 σ) {F T : Int} (hF : (σ (19 + 9 * s + 4) k).toInt = F) (hT : (σ (19 + 9 * s + 5) k).toInt = T) (bF : -150000 ≤ F ∧ F ≤ 150000) (bT : -150000 ≤ T ∧ T ≤ 150000) (b0 : -120 ≤ t0.toInt ∧ t0.toInt ≤ 120)
    (hk' : ∀ σ', qX σ σ' d (F - glt σ0 (s63 σ0) d - t0.toInt) (T - llt σ0 (s63 σ0) d - t0.toInt) → wp (K (nI (k + 1)) (19 + 9 * s) x2 x3 x4 x5 σ') P) : wp (f_X2_learnBut_108 K (nI d) (nI k) (19 + 9 * s) x2 x3 x4 x5 t0 σ) P := by
  have h6 := hC.2.2.2.1 d
  have hB := lt_bd (sl := s63 σ0) hL hd (by show -180 ≤ (σ0 63 d).toInt ∧ (σ0 63 d).toInt ≤ 180; omega)
  unfold f_X2_learnBut_108
  refine wp_rd k rfl hk (by decide) (wp_c (s_greatestLate hd hL hC) (fun l1 σ' hl1 => ?_))
  obtain ⟨rfl, hl1⟩ := hl1
  refine wp_lt (wp_lt (wp_rd k rfl hk (by decide) (wp_c (s_leastLate hd hL hC) (fun l2 σ' hl2 => ?_))))
  obtain ⟨rfl, hl2⟩ := hl2
  have x1 : (σ' (19 + 9 * s + 4) k - l1).toInt = F - glt σ0 (s63 σ0) d := by rw [fb_subI, hF, hl1] <;> rw [hF, hl1] <;> omega
  have x2' : (σ' (19 + 9 * s + 4) k - l1 - t0).toInt = F - glt σ0 (s63 σ0) d - t0.toInt := by rw [fb_subI, x1] <;> rw [x1] <;> omega
  have x3' : (σ' (19 + 9 * s + 5) k - l2).toInt = T - llt σ0 (s63 σ0) d := by rw [fb_subI, hT, hl2] <;> rw [hT, hl2] <;> omega
  have x4' : (σ' (19 + 9 * s + 5) k - l2 - t0).toInt = T - llt σ0 (s63 σ0) d - t0.toInt := by rw [fb_subI, x3'] <;> rw [x3'] <;> omega
  refine wp_lt (wp_lt (wp_c (s_cut hd) (fun _ σ2 hw => wp_lt ?_)))
  rw [nI_1]
  rw [x2', x4'] at hw
  exact hk' σ2 hw
theorem s_14 {σ0 σs : bd_S} {s c w : Nat} {sl : Nat → Int} {x3 x4 x5 : Int32} (hs : s < 4) (hc : c < 3) (hE : IE σ0 s) (hB : IB σ0) (hF : IF σ0 s) (hL : qL σ0) (hC : qC σ0 σs) (hV : qV σ0 σs) (hw : ∀ d, d < 20 → (nI d = x3 ↔ d = w)) (hsl : ∀ d, d < 20 → sl d = s63 σ0 d + (if nI d = x4 then x5.toInt else 0)) (h5 : -120 ≤ x5.toInt ∧ x5.toInt ≤ 120)
    {K : Nat → Int32 → bd_S → Option (Int32 × bd_S)} {P : Int32 → bd_S → Prop}
    (hk : ∀ σ, fL 7 σs σ → σ 7 = σs 7 → bdc σ → (∀ lo hi, sp_sub lo hi (spl σ 7) (sph σ 7) ↔ Adm0 σ0 s c w sl lo hi) → wp (K (19 + 9 * s) (nI c) σ) P) :
    ∀ (m k n : Nat) (σ : bd_S), k + m = nts σ0 s → m < n → fL 7 σs σ → σ 7 = σs 7 → bdc σ → (∀ lo hi, sp_sub lo hi (spl σ 7) (sph σ 7) ↔ Adn σ0 s c w sl k lo hi) → wp (f_X2_learnBut_14 K n (nI k) (19 + 9 * s) (nI c) x3 x4 x5 σ) P := by
  have hb : ∀ d, d < 20 → -180 ≤ sl d ∧ sl d ≤ 180 := fun d hd => by
    have h6 := hC.2.2.2.1 d
    have e : s63 σ0 d = (σ0 63 d).toInt := rfl
    rw [hsl d hd]
    split <;> omega
  obtain ⟨⟨hn1, hn2⟩, hn3, hN⟩ := hE
  intro m
  induction m with
  | zero =>
    intro k n σ hk' hn' f1 f2 f3 f4
    obtain ⟨n, rfl⟩ : ∃ z, n = z + 1 := ⟨n - 1, by omega⟩
    have : k = nts σ0 s := by omega
    subst this
    have hVs : qV σ0 σ := hV.tr (f1.u (Or.inr rfl))
    unfold f_X2_learnBut_14
    refine wp_lt ?_
    rw [hVs.at (r := 19 + 9 * s) (by omega), hn3, hn2]
    exact wp_ift ((nle (by omega) (by omega)).mpr (Nat.le_refl _)) (hk σ f1 f2 f3 f4)
  | succ m ih =>
    intro k n σ hk' hn' f1 f2 f3 f4
    obtain ⟨n, rfl⟩ : ∃ z, n = z + 1 := ⟨n - 1, by omega⟩
    have hVs : qV σ0 σ := hV.tr (f1.u (Or.inr rfl))
    have hCs : qC σ0 σ := hC.v (f1.u (Or.inr rfl)).v
    have hkn : k < nts σ0 s := by omega
    have hk12 : k < 12 := by omega
    have hR := hN k hkn
    have hNk := hR.n
    have hAB := nAB_bd hNk hL hb
    obtain ⟨⟨n1, n2⟩, n3, n4, n5⟩ := hNk
    have skip : σ0 67 (12 * s + k) ≠ nI c ∨ ¬ cnt σ0 s (12 * s + k) w → wp (f_X2_learnBut_14 K n (nI (k + 1)) (19 + 9 * s) (nI c) x3 x4 x5 σ) P := fun h => by
      refine ih (k + 1) n σ (by omega) (by omega) f1 f2 f3 (fun lo hi => ?_)
      rw [f4 lo hi]
      unfold Adn
      refine and_congr_right fun _ => ⟨fun z j hj q1 q2 => ?_, fun z j hj q1 q2 => z j (by omega) q1 q2⟩
      by_cases e : j = k
      · subst e
        rcases h with h | h
        · exact absurd q1 h
        · exact absurd q2 h
      · exact z j (by omega) q1 q2
    have take : σ0 67 (12 * s + k) = nI c → cnt σ0 s (12 * s + k) w → ∀ σ', qX σ σ' (dy σ0 (12 * s + k)) (nA σ0 sl (12 * s + k)) (nB σ0 sl (12 * s + k)) → wp (f_X2_learnBut_14 K n (nI (k + 1)) (19 + 9 * s) (nI c) x3 x4 x5 σ') P := fun g1 g2 σ' h => by
      refine ih (k + 1) n σ' (by omega) (by omega) (f1.tr (fun r q1 q2 q3 => h.1 r q2 q3)) ((h.1 7 (by decide) (by decide)).trans f2) (h.bd hAB.1 hAB.2 f3) (fun lo hi => ?_)
      rw [sp_sub_cut (by omega) (h.sp n1).1 (h.sp n1).2, f4 lo hi]
      unfold Adn
      rw [and_assoc]
      refine and_congr_right fun _ => ⟨fun z j hj q1 q2 => ?_, fun z => ⟨fun j hj q1 q2 => z j (by omega) q1 q2, z k (by omega) g1 g2⟩⟩
      by_cases e : j = k
      · subst e; exact z.2
      · exact z.1 j (by omega) q1 q2
    have cnt0 : cnt σ0 s (12 * s + k) w → cn0 σ0 s (12 * s + k) := fun z => by
      rcases z with z | z
      · exact Or.inl z
      · exact Or.inr z.2
    unfold f_X2_learnBut_14
    refine wp_lt ?_
    rw [hVs.at (r := 19 + 9 * s) (by omega), hn3, hn2]
    refine wp_iff (fun q => ?_) (wp_rd k rfl hk12 (by decide) ?_)
    · have := (nle (by omega) (by omega)).mp q
      omega
    rw [hVs.at (r := 19 + 9 * s + 1) (by omega), hR.1]
    refine wp_if (fun g1 => ?_) (fun g1 => wp_lt (by rw [nI_1]; exact skip (Or.inl g1)))
    refine wp_c (s_counts hs hk12 hR hB hF hVs) (fun r σ' h => ?_)
    obtain ⟨rfl, h⟩ := h
    rcases h with ⟨rfl, g2⟩ | ⟨rfl, g2⟩
    · refine wp_iff (by decide) (wp_rd k rfl hk12 (by decide) (wp_rd k rfl hk12 (by decide) ?_))
      have hR' := hR
      obtain ⟨r1, -, r3, r4, -, -, -, r8, r9⟩ := hR'
      have d3 : σ' (19 + 9 * s + 3) k = σ0 (19 + 9 * s + 3) k := hVs.at (by omega)
      have d2 : σ' (19 + 9 * s + 2) k = nI (dy σ0 (12 * s + k)) := by rw [hVs.at (by omega), r3, n2]
      have d4 : (σ' (19 + 9 * s + 4) k).toInt = (σ0 (19 + 9 * s + 4) k).toInt := by rw [hVs.at (by omega)]
      have d5 : (σ' (19 + 9 * s + 5) k).toInt = (σ0 (19 + 9 * s + 5) k).toInt := by rw [hVs.at (by omega)]
      rw [d3, d2]
      refine wp_if (fun h0 => ?_) (fun h0 => ?_)
      · have h3 := r4.mp h0
        refine wp_rd k rfl hk12 (by decide) (wp_rd k rfl hk12 (by decide) (wp_c (s_cut n1) (fun _ σ2 hw2 => wp_lt ?_)))
        rw [nI_1]
        refine take g1 (Or.inl h3) σ2 ?_
        have y1 : (σ' (19 + 9 * s + 4) k).toInt = nA σ0 sl (12 * s + k) := by
          rw [d4, r8]; unfold nA; rw [if_pos h3, if_pos h3]
        have y2 : (σ' (19 + 9 * s + 5) k).toInt = nB σ0 sl (12 * s + k) := by
          rw [d5, r9]; unfold nB; rw [if_pos h3, if_pos h3]
        rw [y1, y2] at hw2
        exact hw2
      · have h3 : σ0 69 (12 * s + k) ≠ 3 := fun z => h0 (r4.mpr z)
        have n6 := n5 h3
        have hbb := qN.b ⟨⟨n1, n2⟩, n3, n4, n5⟩ h3
        have g3 : σ0 64 (dy σ0 (12 * s + k)) = 0 ∨ σ0 72 (20 * s + dy σ0 (12 * s + k)) = 0 := by
          rcases g2 with z | z
          · exact absurd z h3
          · exact z
        have F1 : (σ' (19 + 9 * s + 4) k).toInt = (σ0 71 (12 * s + k)).toInt - ltN σ0 (12 * s + k) := by rw [d4, r8, if_neg h3]
        have F2 : (σ' (19 + 9 * s + 5) k).toInt = (σ0 71 (12 * s + k)).toInt - snN σ0 (12 * s + k) := by rw [d5, r9, if_neg h3]
        have e := hsl _ n1
        refine wp_if (fun hx => ?_) (fun hx => ?_)
        · refine wp_lt ?_
          rw [nI_1]
          refine skip (Or.inr (fun z => ?_))
          rcases z with z | z
          · exact h3 z
          · exact z.1 ((hw _ n1).mp hx)
        · have g4 : cnt σ0 s (12 * s + k) w := Or.inr ⟨fun z => hx ((hw _ n1).mpr z), g3⟩
          refine wp_if (fun hy => ?_) (fun hy => ?_)
          · rw [if_pos hy] at e
            refine s_108 hs hk12 n1 hL hCs F1 F2 (by omega) (by omega) h5 (fun σ2 h2 => take g1 g4 σ2 ?_)
            have y1 : (σ0 71 (12 * s + k)).toInt - ltN σ0 (12 * s + k) - glt σ0 (s63 σ0) (dy σ0 (12 * s + k)) - x5.toInt = nA σ0 sl (12 * s + k) := by
              unfold nA glt; rw [if_neg h3, e]; omega
            have y2 : (σ0 71 (12 * s + k)).toInt - snN σ0 (12 * s + k) - llt σ0 (s63 σ0) (dy σ0 (12 * s + k)) - x5.toInt = nB σ0 sl (12 * s + k) := by
              unfold nB llt; rw [if_neg h3, e]; omega
            rw [y1, y2] at h2
            exact h2
          · rw [if_neg hy] at e
            refine s_108 hs hk12 n1 hL hCs F1 F2 (by omega) (by omega) (by decide) (fun σ2 h2 => take g1 g4 σ2 ?_)
            have z0 : (0 : Int32).toInt = 0 := rfl
            have y1 : (σ0 71 (12 * s + k)).toInt - ltN σ0 (12 * s + k) - glt σ0 (s63 σ0) (dy σ0 (12 * s + k)) - (0 : Int32).toInt = nA σ0 sl (12 * s + k) := by
              unfold nA glt; rw [if_neg h3, e, z0]; omega
            have y2 : (σ0 71 (12 * s + k)).toInt - snN σ0 (12 * s + k) - llt σ0 (s63 σ0) (dy σ0 (12 * s + k)) - (0 : Int32).toInt = nB σ0 sl (12 * s + k) := by
              unfold nB llt; rw [if_neg h3, e, z0]; omega
            rw [y1, y2] at h2
            exact h2
    · exact wp_ift rfl (wp_lt (by rw [nI_1]; exact skip (Or.inr (fun z => g2 (cnt0 z)))))
