/-! LAY of the reference -/
abbrev Adm0 (σ : bd_S) (s c w : Nat) (sl : Nat → Int) : (Nat → Int) → (Nat → Int) → Prop := Adn σ s c w sl (nts σ s)
theorem qV.at {σ σ' : bd_S} (h : qV σ σ') {r k : Nat} (q : r ≤ 3 ∨ (10 ≤ r ∧ r ≤ 16) ∨ (19 ≤ r ∧ r ≤ 54) ∨ (56 ≤ r ∧ r ≤ 62) ∨ (64 ≤ r ∧ r ≤ 78)) : σ' r k = σ r k := h r k (by unfold qS; omega) (by omega) (by omega)
theorem fN.v {σ σ' : bd_S} (h : fN σ σ') : qU σ σ' := fun r k q => by
  unfold qS at q
  by_cases e : r = 55
  · subst e; exact h.2 k (by omega)
  · rw [h.1 r e (by omega) (by omega)]
def qL (σ : bd_S) : Prop := (∀ d, d < 20 → -600 ≤ (σ 59 d).toInt ∧ (σ 59 d).toInt ≤ 600 ∧ -600 ≤ (σ 60 d).toInt ∧ (σ 60 d).toInt ≤ 600) ∧ (∀ k, 0 ≤ (σ 61 k).toInt ∧ (σ 61 k).toInt ≤ 50) ∧ (∀ k, 0 ≤ (σ 62 k).toInt ∧ (σ 62 k).toInt ≤ 50)
theorem lt_bd {σ : bd_S} {sl : Nat → Int} {d : Nat} (h : qL σ) (hd : d < 20) (hs : -180 ≤ sl d ∧ sl d ≤ 180) : (-2000 ≤ llt σ sl d ∧ llt σ sl d ≤ 2000) ∧ (-2000 ≤ glt σ sl d ∧ glt σ sl d ≤ 2000) ∧ (-600 ≤ mdo σ d ∧ mdo σ d ≤ 600) := by
  have h1 := h.1 d hd
  have h2 := h.2.1 0
  have h3 := h.2.1 1
  have h4 := h.2.2 0
  have h5 := h.2.2 1
  unfold llt glt mdo
  omega
theorem s_late65 {σ : bd_S} {m t : Int32} {d : Nat} {sl M T : Int} (hd : d < 20) (hm : m.toInt = M) (ht : t.toInt = T) (hs : (σ 63 d).toInt = sl) (b1 : -600 ≤ M ∧ M ≤ 600) (b2 : -2000 ≤ T ∧ T ≤ 2000) (b3 : -180 ≤ sl ∧ sl ≤ 180) : wp (f_X3_lateOf_65 m (nI d) t σ) (fun r σ' => σ' = σ ∧ r.toInt = M + T + sl) := by
  unfold f_X3_lateOf_65
  refine wp_lt (wp_rd d rfl hd (by decide) (wp_lt (wp_some ⟨rfl, ?_⟩)))
  have e1 : (m + t).toInt = M + T := by rw [fb_addI, hm, ht] <;> rw [hm, ht] <;> omega
  rw [fb_addI, e1, hs] <;> rw [e1, hs] <;> omega
theorem s_lateOf {σ0 σ : bd_S} {x : Int32} {d : Nat} {sl : Nat → Int} (hd : d < 20) (hL : qL σ0) (hV : qR σ0 σ) (hs : (σ 63 d).toInt = sl d) (hb : -180 ≤ sl d ∧ sl d ≤ 180) : wp (f_X3_lateOf (nI d) x σ) (fun r σ' => σ' = σ ∧ r.toInt = if x = 0 then llt σ0 sl d else glt σ0 sl d) := by
  have h1 := hL.1 d hd
  have h2 := hL.2.1 0
  have h3 := hL.2.1 1
  have h4 := hL.2.2 0
  have h5 := hL.2.2 1
  have hB := lt_bd hL hd hb
  have e1 : (σ 59 d + σ 60 d).toInt = (σ0 59 d).toInt + (σ0 60 d).toInt := by
    rw [hV.at (by decide), hV.at (by decide)]
    rw [fb_addI] <;> omega
  unfold f_X3_lateOf
  refine wp_rd d rfl (by omega) (by decide) (wp_rd d rfl (by omega) (by decide) (wp_lt (wp_c (s_down (by decide) (by rw [e1]; omega)) (fun m σ' hm => ?_))))
  obtain ⟨rfl, hm⟩ := hm
  rw [e1] at hm
  have hm : m.toInt = mdo σ0 d := hm
  refine wp_if (fun hx => ?_) (fun hx => ?_)
  · refine wp_rd 0 rfl (by decide) (by decide) (wp_rd 1 rfl (by decide) (by decide) (wp_lt (wp_rd d rfl (by omega) (by decide) (wp_lt ?_))))
    have e2 : (σ' 61 0 + σ' 61 1).toInt = (σ0 61 0).toInt + (σ0 61 1).toInt := by
      rw [hV.at (by decide), hV.at (by decide)]
      rw [fb_addI] <;> omega
    have e3 : (σ' 61 0 + σ' 61 1 - σ' 60 d).toInt = (σ0 61 0).toInt + (σ0 61 1).toInt - (σ0 60 d).toInt := by
      rw [hV.at (r := 60) (by decide)]
      rw [fb_subI, e2] <;> rw [e2] <;> omega
    refine wp_mono (s_late65 hd hm e3 hs hB.2.2 (by omega) hb) (fun r σ2 hr => ⟨hr.1, ?_⟩)
    rw [hr.2, if_pos hx]
    unfold llt
    omega
  · refine wp_rd 0 rfl (by decide) (by decide) (wp_rd 1 rfl (by decide) (by decide) (wp_lt (wp_rd d rfl (by omega) (by decide) (wp_lt ?_))))
    have e2 : (σ' 62 0 + σ' 62 1).toInt = (σ0 62 0).toInt + (σ0 62 1).toInt := by
      rw [hV.at (by decide), hV.at (by decide)]
      rw [fb_addI] <;> omega
    have e3 : (σ' 62 0 + σ' 62 1 - σ' 59 d).toInt = (σ0 62 0).toInt + (σ0 62 1).toInt - (σ0 59 d).toInt := by
      rw [hV.at (r := 59) (by decide)]
      rw [fb_subI, e2] <;> rw [e2] <;> omega
    refine wp_mono (s_late65 hd hm e3 hs hB.2.2 (by omega) hb) (fun r σ2 hr => ⟨hr.1, ?_⟩)
    rw [hr.2, if_neg hx]
    unfold glt
    omega
/-- what the narrowing needs to know of a mark -/
def qN (σ : bd_S) (q : Nat) : Prop := (dy σ q < 20 ∧ σ 68 q = nI (dy σ q)) ∧ (σ 69 q = 0 ∨ σ 69 q = 1 ∨ σ 69 q = 2 ∨ σ 69 q = 3) ∧ (-9999 ≤ (σ 70 q).toInt ∧ (σ 70 q).toInt ≤ 9999 ∧ -99999 ≤ (σ 71 q).toInt ∧ (σ 71 q).toInt ≤ 99999) ∧ (σ 69 q ≠ 3 → 0 ≤ (σ 70 q).toInt ∧ (σ 70 q).toInt ≤ 30 ∧ -9999 ≤ (σ 71 q).toInt ∧ (σ 71 q).toInt ≤ 9999)
theorem NR.n {σ : bd_S} {s k q : Nat} (h : NR σ s k q) : qN σ q := ⟨h.2.1, h.2.2.2.2.1, h.2.2.2.2.2.1, h.2.2.2.2.2.2.1⟩
theorem s_doesCount {σ0 σ : bd_S} {s q w : Nat} (hs : s < 4) (hq : q < 48) (hN : qN σ0 q) (hV : qR σ0 σ) (hw : ∀ d, d < 20 → (nI d = σ 55 30 ↔ d = w)) : wp (f_X3_doesCount (nI s) (nI q) σ) (fun r σ' => σ' = σ ∧ ((r = 1 ∧ cnt σ0 s q w) ∨ (r = 0 ∧ ¬ cnt σ0 s q w))) := by
  obtain ⟨⟨n1, n2⟩, -, -, -⟩ := hN
  unfold f_X3_doesCount cnt
  refine wp_rd q rfl hq (by decide) (wp_rd q rfl hq (by decide) ?_)
  rw [hV.at (r := 68) (by decide), hV.at (r := 69) (by decide), n2]
  refine wp_if (fun h3 => wp_zr (Or.inr rfl) ⟨rfl, Or.inl ⟨rfl, Or.inl h3⟩⟩) (fun h3 => wp_lt (wp_if (fun h => ?_) (fun h => ?_)))
  · have e := (hw _ n1).mp h
    refine wp_zr (Or.inl rfl) ⟨rfl, Or.inr ⟨rfl, ?_⟩⟩
    rintro (z | ⟨z, -⟩)
    · exact h3 z
    · exact z e
  · have e : ¬ dy σ0 q = w := fun z => h ((hw _ n1).mpr z)
    refine wp_rd (dy σ0 q) rfl n1 (by decide) ?_
    rw [hV.at (r := 64) (by decide)]
    refine wp_if (fun h6 => wp_zr (Or.inr rfl) ⟨rfl, Or.inl ⟨rfl, Or.inr ⟨e, Or.inl h6⟩⟩⟩) (fun h6 => wp_lt (wp_lt (wp_rd (20 * s + dy σ0 q) ix20 (by omega) (by decide) ?_)))
    rw [hV.at (r := 72) (by decide)]
    refine wp_if (fun h7 => wp_zr (Or.inr rfl) ⟨rfl, Or.inl ⟨rfl, Or.inr ⟨e, Or.inr h7⟩⟩⟩) (fun h7 => wp_zr (Or.inl rfl) ⟨rfl, Or.inr ⟨rfl, ?_⟩⟩)
    rintro (z | ⟨-, z | z⟩)
    · exact h3 z
    · exact h6 z
    · exact h7 z
/-- one mark laid down -/
def qW (σ σ' : bd_S) (d : Nat) (A B : Int) : Prop := Nst σ σ' ∧ (∀ k, cl σ' k = if k = d then max (cl σ d) A else cl σ k) ∧ (∀ k, ch σ' k = if k = d then min (ch σ d) B else ch σ k)
theorem s_223 {σ0 σ : bd_S} {K : Int32 → Int32 → Int32 → bd_S → Option (Int32 × bd_S)} {P : Int32 → bd_S → Prop} {q k : Nat} {xs xc x8 t0 : Int32} {sl : Nat → Int} (hq : q < 48) (hN : qN σ0 q) (h3 : σ0 69 q ≠ 3) (hL : qL σ0) (hV : qR σ0 σ) (hs : (σ 63 (dy σ0 q)).toInt = sl (dy σ0 q)) (hb : -180 ≤ sl (dy σ0 q) ∧ sl (dy σ0 q) ≤ 180)
    (e1 : t0.toInt = ltN σ0 q) (e2 : x8.toInt = snN σ0 q) (b1 : -1000 ≤ ltN σ0 q ∧ ltN σ0 q ≤ 1000) (b2 : -1000 ≤ snN σ0 q ∧ snN σ0 q ≤ 1000)
    (hk : ∀ σ', qW σ σ' (dy σ0 q) (nA σ0 sl q) (nB σ0 sl q) → wp (K (nI (k + 1)) xs xc σ') P) : wp (f_X3_lay_223 K x8 (nI (dy σ0 q)) (nI q) (nI k) xs xc t0 σ) P := by
  obtain ⟨⟨n1, n2⟩, n3, n4, n5⟩ := hN
  have n6 := n5 h3
  have hB := lt_bd hL n1 hb
  unfold f_X3_lay_223
  refine wp_rd q rfl hq (by decide) (wp_c (s_lateOf n1 hL hV hs hb) (fun l1 σ' hl1 => ?_))
  obtain ⟨rfl, hl1⟩ := hl1
  rw [if_neg (by decide)] at hl1
  refine wp_lt (wp_lt (wp_rd q rfl hq (by decide) (wp_c (s_lateOf n1 hL hV hs hb) (fun l2 σ' hl2 => ?_))))
  obtain ⟨rfl, hl2⟩ := hl2
  rw [if_pos rfl] at hl2
  refine wp_lt (wp_lt (wp_c (s_within (by omega)) (fun _ σ2 hw => wp_lt ?_)))
  rw [nI_1]
  rw [hV.at (r := 71) (by decide)] at hw
  have x1 : (σ0 71 q - l1).toInt = (σ0 71 q).toInt - glt σ0 sl (dy σ0 q) := by rw [fb_subI, hl1] <;> rw [hl1] <;> omega
  have x2 : (σ0 71 q - l1 - t0).toInt = nA σ0 sl q := by
    unfold nA
    rw [if_neg h3, fb_subI, x1, e1] <;> rw [x1, e1] <;> omega
  have x3 : (σ0 71 q - l2).toInt = (σ0 71 q).toInt - llt σ0 sl (dy σ0 q) := by rw [fb_subI, hl2] <;> rw [hl2] <;> omega
  have x4 : (σ0 71 q - l2 - x8).toInt = nB σ0 sl q := by
    unfold nB
    rw [if_neg h3, fb_subI, x3, e2] <;> rw [x3, e2] <;> omega
  rw [x2, x4] at hw
  exact hk σ2 hw
theorem qN.b {σ : bd_S} {q : Nat} (h : qN σ q) (h3 : σ 69 q ≠ 3) : (-1000 ≤ ltN σ q ∧ ltN σ q ≤ 1000) ∧ (-1000 ≤ snN σ q ∧ snN σ q ≤ 1000) := by
  have n6 := h.2.2.2 h3
  unfold ltN snN
  split <;> (try split) <;> omega
theorem s_60 {σ0 σs : bd_S} {s c w : Nat} {sl : Nat → Int} (hs : s < 4) (hc : c < 3) (hL : qL σ0) (hn : nts σ0 s ≤ 12 ∧ σ0 66 s = nI (nts σ0 s)) (hN : ∀ k, k < nts σ0 s → qN σ0 (12 * s + k)) (hV : qR σ0 σs) (hw : ∀ d, d < 20 → (nI d = σs 55 30 ↔ d = w)) (hsl : ∀ d, d < 20 → (σs 63 d).toInt = sl d) (hb : ∀ d, d < 20 → -180 ≤ sl d ∧ sl d ≤ 180)
    (hB : Bn σs) : ∀ (m k n : Nat) (σ : bd_S), k + m = nts σ0 s → m < n → Nst σs σ → (∀ lo hi, sp_sub lo hi (cl σ) (ch σ) ↔ Adn σ0 s c w sl k lo hi) →
    wp (f_X3_lay_60 n (nI k) (nI s) (nI c) σ) (fun r σ' => fN σs σ' ∧ ((r = 1 ∧ sp_cl (cg σs) (Adm0 σ0 s c w sl) (cl σ') (ch σ')) ∨ (r = 0 ∧ sp_no (cg σs) (Adm0 σ0 s c w sl)))) := by
  intro m
  induction m with
  | zero =>
    intro k n σ hk hn' hI hA
    obtain ⟨n, rfl⟩ : ∃ z, n = z + 1 := ⟨n - 1, by omega⟩
    have : k = nts σ0 s := by omega
    subst this
    have hVs : qR σ0 σ := hV.tr hI.1.v
    unfold f_X3_lay_60
    refine wp_rd s rfl hs (by decide) ?_
    rw [hVs.at (r := 66) (by decide), hn.2]
    refine wp_ift ((nle (by omega) (by omega)).mpr (Nat.le_refl _)) (wp_c (s_narrowR (hB.mo hI.2.1 (hI.1.1 81 (by decide) (by decide) (by decide)))) (fun r σ' h => ?_))
    obtain ⟨h1, h2⟩ := h
    rw [hI.cg] at h2
    rcases h2 with ⟨rfl, h2⟩ | ⟨rfl, h2⟩
    · exact wp_zr (Or.inr rfl) ⟨hI.1.tr h1, Or.inl ⟨rfl, sp_cl_congr (fun lo hi _ _ => hA lo hi) h2⟩⟩
    · exact wp_zr (Or.inl rfl) ⟨hI.1.tr h1, Or.inr ⟨rfl, sp_no_congr (fun lo hi _ _ => hA lo hi) h2⟩⟩
  | succ m ih =>
    intro k n σ hk hn' hI hA
    obtain ⟨n, rfl⟩ : ∃ z, n = z + 1 := ⟨n - 1, by omega⟩
    have hVs : qR σ0 σ := hV.tr hI.1.v
    have hkn : k < nts σ0 s := by omega
    have hNk := hN k hkn
    have hq : 12 * s + k < 48 := by omega
    obtain ⟨⟨n1, n2⟩, n3, n4, n5⟩ := hNk
    have hws : ∀ d, d < 20 → (nI d = σ 55 30 ↔ d = w) := fun d hd => by rw [hI.1.2 30 (by decide)]; exact hw d hd
    have h63 : (σ 63 (dy σ0 (12 * s + k))).toInt = sl (dy σ0 (12 * s + k)) := by rw [hI.1.1 63 (by decide) (by decide) (by decide)]; exact hsl _ n1
    have hbd := hb _ n1
    have skip : σ0 67 (12 * s + k) ≠ nI c ∨ ¬ cnt σ0 s (12 * s + k) w → wp (f_X3_lay_60 n (nI (k + 1)) (nI s) (nI c) σ) (fun r σ' => fN σs σ' ∧ ((r = 1 ∧ sp_cl (cg σs) (Adm0 σ0 s c w sl) (cl σ') (ch σ')) ∨ (r = 0 ∧ sp_no (cg σs) (Adm0 σ0 s c w sl)))) := fun h => by
      refine ih (k + 1) n σ (by omega) (by omega) hI (fun lo hi => ?_)
      rw [hA lo hi]
      unfold Adn
      refine and_congr_right fun _ => ⟨fun z j hj q1 q2 => ?_, fun z j hj q1 q2 => z j (by omega) q1 q2⟩
      by_cases e : j = k
      · subst e
        rcases h with h | h
        · exact absurd q1 h
        · exact absurd q2 h
      · exact z j (by omega) q1 q2
    have take : σ0 67 (12 * s + k) = nI c → cnt σ0 s (12 * s + k) w → ∀ σ', qW σ σ' (dy σ0 (12 * s + k)) (nA σ0 sl (12 * s + k)) (nB σ0 sl (12 * s + k)) → wp (f_X3_lay_60 n (nI (k + 1)) (nI s) (nI c) σ') (fun r σ' => fN σs σ' ∧ ((r = 1 ∧ sp_cl (cg σs) (Adm0 σ0 s c w sl) (cl σ') (ch σ')) ∨ (r = 0 ∧ sp_no (cg σs) (Adm0 σ0 s c w sl)))) := fun g1 g2 σ' h => by
      refine ih (k + 1) n σ' (by omega) (by omega) (hI.tr h.1) (fun lo hi => ?_)
      rw [sp_sub_cut (by omega) (fun k _ => h.2.1 k) (fun k _ => h.2.2 k), hA lo hi]
      unfold Adn
      rw [and_assoc]
      refine and_congr_right fun _ => ⟨fun z j hj q1 q2 => ?_, fun z => ⟨fun j hj q1 q2 => z j (by omega) q1 q2, z k (by omega) g1 g2⟩⟩
      by_cases e : j = k
      · subst e; exact z.2
      · exact z.1 j (by omega) q1 q2
    unfold f_X3_lay_60
    refine wp_rd s rfl hs (by decide) ?_
    rw [hVs.at (r := 66) (by decide), hn.2]
    refine wp_iff (fun q => ?_) (wp_lt (wp_lt (wp_rd (12 * s + k) ix12 hq (by decide) ?_)))
    · have := (nle (by omega) (by omega)).mp q
      omega
    rw [hVs.at (r := 67) (by decide)]
    refine wp_if (fun g1 => ?_) (fun g1 => wp_lt (by rw [nI_1]; exact skip (Or.inl g1)))
    rw [ix12]
    refine wp_c (s_doesCount hs hq ⟨⟨n1, n2⟩, n3, n4, n5⟩ hVs hws) (fun r σ' h => ?_)
    obtain ⟨rfl, h⟩ := h
    rcases h with ⟨rfl, g2⟩ | ⟨rfl, g2⟩
    · refine wp_iff (by decide) (wp_rd (12 * s + k) rfl hq (by decide) (wp_rd (12 * s + k) rfl hq (by decide) (wp_rd (12 * s + k) rfl hq (by decide) ?_)))
      rw [hVs.at (r := 68) (by decide), hVs.at (r := 69) (by decide), hVs.at (r := 70) (by decide), n2]
      have T := take g1 g2
      refine wp_if (fun h3 => ?_) (fun h3 => ?_)
      · have e4 : (4 : Int32).toInt = 4 := rfl
        have y1 : (4 * σ0 70 (12 * s + k)).toInt = 4 * (σ0 70 (12 * s + k)).toInt := by rw [fb_mulI, e4] <;> rw [e4] <;> omega
        have y2 : (σ0 71 (12 * s + k) - 4 * σ0 70 (12 * s + k)).toInt = (σ0 71 (12 * s + k)).toInt - 4 * (σ0 70 (12 * s + k)).toInt := by rw [fb_subI, y1] <;> rw [y1] <;> omega
        have y3 : (σ0 71 (12 * s + k) - 4 * σ0 70 (12 * s + k) - 4).toInt = nA σ0 sl (12 * s + k) := by
          unfold nA
          rw [if_pos h3, fb_subI, y2, e4] <;> rw [y2, e4] <;> omega
        have y4 : (σ0 71 (12 * s + k) - 4 * σ0 70 (12 * s + k) + 4).toInt = nB σ0 sl (12 * s + k) := by
          unfold nB
          rw [if_pos h3, fb_addI, y2, e4] <;> rw [y2, e4] <;> omega
        refine wp_rd (12 * s + k) rfl hq (by decide) (wp_lt (wp_lt (wp_lt (wp_rd (12 * s + k) rfl hq (by decide) (wp_lt (wp_lt (wp_lt (wp_c (s_within (by omega)) (fun _ σ2 hw2 => wp_lt ?_)))))))))
        rw [nI_1]
        rw [hVs.at (r := 71) (by decide), y3, y4] at hw2
        exact T σ2 hw2
      · have hbb := qN.b ⟨⟨n1, n2⟩, n3, n4, n5⟩ h3
        have n6 := n5 h3
        have Z := fun (x8 t0 : Int32) (e1 : t0.toInt = ltN σ0 (12 * s + k)) (e2 : x8.toInt = snN σ0 (12 * s + k)) => s_223 (K := f_X3_lay_60 n) (k := k) (xs := nI s) (xc := nI c) hq ⟨⟨n1, n2⟩, n3, n4, n5⟩ h3 hL hVs h63 hbd e1 e2 hbb.1 hbb.2 T
        refine wp_if (fun h0 => ?_) (fun h0 => wp_if (fun h1 => ?_) (fun h1 => ?_))
        · unfold f_X3_lay_195
          refine wp_ift h0 (Z _ _ ?_ ?_)
          · unfold ltN; rw [h0]; rfl
          · unfold snN; rw [h0]; rfl
        · unfold f_X3_lay_195
          refine wp_iff h0 (wp_ift h1 (Z _ _ ?_ ?_))
          · unfold ltN; rw [h1]; rfl
          · unfold snN; rw [h1]; rfl
        · have h2 : σ0 69 (12 * s + k) = 2 := by
            rcases n3 with z | z | z | z
            · exact absurd z h0
            · exact absurd z h1
            · exact z
            · exact absurd z h3
          have e5 : (5 : Int32).toInt = 5 := rfl
          have e7 : (7 : Int32).toInt = 7 := rfl
          have e3 : (3 : Int32).toInt = 3 := rfl
          have y1 : (5 * σ0 70 (12 * s + k)).toInt = 5 * (σ0 70 (12 * s + k)).toInt := by rw [fb_mulI, e5] <;> rw [e5] <;> omega
          have y2 : (7 * σ0 70 (12 * s + k)).toInt = 7 * (σ0 70 (12 * s + k)).toInt := by rw [fb_mulI, e7] <;> rw [e7] <;> omega
          unfold f_X3_lay_195
          refine wp_lt (wp_lt (wp_iff h0 (wp_iff h1 (wp_lt (wp_lt (Z _ _ ?_ ?_))))))
          · unfold ltN
            rw [if_pos h2, fb_addI, y2, e3] <;> rw [y2, e3] <;> omega
          · unfold snN
            rw [if_pos h2, fb_subI, y1, e3] <;> rw [y1, e3] <;> omega
    · exact wp_ift rfl (wp_lt (by rw [nI_1]; exact skip (Or.inr g2)))
