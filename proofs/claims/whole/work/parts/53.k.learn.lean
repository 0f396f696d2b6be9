theorem mul5 {a b : Int} (ha : -5 ≤ a ∧ a ≤ 5) (hb : -5 ≤ b ∧ b ≤ 5) : -25 ≤ a * b ∧ a * b ≤ 25 := by
  rcases (show 0 ≤ a ∨ 0 ≤ -a by omega) with h | h
  · have h1 := sp_mle h hb.1
    have h2 := sp_mle h hb.2
    omega
  · have h1 := sp_mle h hb.1
    have h2 := sp_mle h hb.2
    rw [Int.neg_mul] at h1 h2
    rw [Int.neg_mul] at h1 h2
    omega
def gw (h : Int) (σ : bd_S) : Nat → Int
  | 0 => 0
  | d + 1 => gw h σ d + h * ((σ 65 d).toInt - 5)
theorem gw_gq {σ : bd_S} {s c : Nat} : ∀ d, gq σ s c d = gw (σ 73 (3 * s + c)).toInt σ d := by
  intro d
  induction d with
  | zero => rfl
  | succ d ih => unfold gq gw; rw [ih]
theorem gw_neg {h : Int} {σ : bd_S} : ∀ d, gw (-h) σ d = - gw h σ d := by
  intro d
  induction d with
  | zero => rfl
  | succ d ih => unfold gw; rw [ih, Int.neg_mul]; omega
theorem gw_bd {h : Int} {σ : bd_S} (hh : -5 ≤ h ∧ h ≤ 5) (hw : ∀ k, 0 ≤ (σ 65 k).toInt ∧ (σ 65 k).toInt ≤ 9) : ∀ d : Nat, -25 * (d : Int) ≤ gw h σ d ∧ gw h σ d ≤ 25 * (d : Int) := by
  intro d
  induction d with
  | zero => unfold gw; omega
  | succ d ih =>
    have h1 := hw d
    have h2 := mul5 hh (b := (σ 65 d).toInt - 5) (by omega)
    unfold gw
    omega
theorem gw_step {h w g : Int32} {z : Int} (hh : -5 ≤ h.toInt ∧ h.toInt ≤ 5) (hw : 0 ≤ w.toInt ∧ w.toInt ≤ 9) (hz : g.toInt = z) (hb : -1000 ≤ z ∧ z ≤ 1000) : (g + h * (w - 5)).toInt = z + h.toInt * (w.toInt - 5) := by
  have e5 : (5 : Int32).toInt = 5 := rfl
  have h0 : (w - 5).toInt = w.toInt - 5 := by rw [fb_subI] <;> rw [e5] <;> omega
  have h1 := mul5 hh (b := w.toInt - 5) (by omega)
  have h3 : (h * (w - 5)).toInt = h.toInt * (w.toInt - 5) := by rw [fb_mulI, h0] <;> rw [h0] <;> omega
  rw [fb_addI, h3, hz] <;> rw [h3, hz] <;> omega
def bdm (σ : bd_S) : Prop := ∀ d, d < 20 → (-1000000 ≤ la σ 7 d ∧ la σ 7 d ≤ 1000000) ∧ (-1000000 ≤ lb σ 7 d ∧ lb σ 7 d ≤ 1000000)
theorem s_addHeat {σ0 σs : bd_S} {x1 : Int32} (hh : -5 ≤ x1.toInt ∧ x1.toInt ≤ 5) (hw : ∀ k, 0 ≤ (σ0 65 k).toInt ∧ (σ0 65 k).toInt ≤ 9) (e13 : ∀ k, σs 13 k = σ0 65 k) : wp (f_X2_addHeat x1 σs) (fun _ σ' => fL 7 σs σ' ∧ σ' 7 = σs 7 ∧ (bdm σs → ∀ k, k < 20 → la σ' 7 k = la σs 7 k + gw x1.toInt σ0 k ∧ lb σ' 7 k = lb σs 7 k + gw x1.toInt σ0 k)) := by
  have key : ∀ (m d n : Nat) (x2 : Int32) (σ : bd_S), d + m = 20 → m < n → fL 7 σs σ → σ 7 = σs 7 → x2.toInt = gw x1.toInt σ0 d → (bdm σs → ∀ k, k < 20 → la σ 7 k = (if k < d then la σs 7 k + gw x1.toInt σ0 k else la σs 7 k) ∧ lb σ 7 k = (if k < d then lb σs 7 k + gw x1.toInt σ0 k else lb σs 7 k)) →
      wp (f_X2_addHeat_4 n (nI d) x2 x1 σ) (fun _ σ' => fL 7 σs σ' ∧ σ' 7 = σs 7 ∧ (bdm σs → ∀ k, k < 20 → la σ' 7 k = la σs 7 k + gw x1.toInt σ0 k ∧ lb σ' 7 k = lb σs 7 k + gw x1.toInt σ0 k)) := by
    intro m
    induction m with
    | zero =>
      intro d n x2 σ hd hn f1 f2 f3 f4
      obtain ⟨n, rfl⟩ : ∃ z, n = z + 1 := ⟨n - 1, by omega⟩
      have : d = 20 := by omega
      subst this
      unfold f_X2_addHeat_4
      refine wp_ift ((nle (by decide) (by decide)).mpr (Nat.le_refl 20)) (wp_some ⟨f1, f2, fun hb k hk => ?_⟩)
      have h := f4 hb k hk
      rw [if_pos hk, if_pos hk] at h
      exact h
    | succ m ih =>
      intro d n x2 σ hd hn f1 f2 f3 f4
      obtain ⟨n, rfl⟩ : ∃ z, n = z + 1 := ⟨n - 1, by omega⟩
      have hg := gw_bd hh hw d
      unfold f_X2_addHeat_4
      refine wp_iff (fun q => ?_) (wp_rd d rfl (by omega) (by decide) (wp_lt (wp_wr d rfl (by omega) (by decide) (wp_rd d rfl (by omega) (by decide) (wp_lt (wp_wr d rfl (by omega) (by decide) (wp_rd d rfl (by omega) (by decide) (wp_lt (wp_lt (wp_lt (wp_lt ?_)))))))))))
      · have := (nle (a := 20) (by decide) (by omega)).mp q
        omega
      rw [nI_1]
      refine ih (d + 1) n _ _ (by omega) (by omega) (fun r q1 q2 q3 => ?_) ?_ ?_ (fun hb k hk => ?_)
      · rw [st_ne q3, st_ne q2]; exact f1 r q1 q2 q3
      · rw [st_ne (by decide), st_ne (by decide)]; exact f2
      · rw [st_ne (by decide), st_ne (by decide), f1 13 (by decide) (by decide) (by decide), e13]
        exact gw_step hh (hw d) f3 (by omega)
      · have h := f4 hb k hk
        have hB := hb k hk
        show (bd_st (bd_st σ 8 d _) 9 d _ 8 k).toInt = _ ∧ (bd_st (bd_st σ 8 d _) 9 d _ 9 k).toInt = _
        rw [st_ne (show (8 : Nat) ≠ 9 by decide)]
        by_cases e : k = d
        · subst e
          rw [if_neg (by omega), if_neg (by omega)] at h
          rw [if_pos (by omega), if_pos (by omega), st_same, st_same, st_ne (show (9 : Nat) ≠ 8 by decide)]
          have h1 : (σ 8 k).toInt = la σs 7 k := h.1
          have h2 : (σ 9 k).toInt = lb σs 7 k := h.2
          constructor
          · rw [fb_addI, h1, f3] <;> rw [h1, f3] <;> omega
          · rw [fb_addI, h2, f3] <;> rw [h2, f3] <;> omega
        · rw [st_off e, st_off e, st_ne (show (9 : Nat) ≠ 8 by decide)]
          simp only [show (k < d + 1) = (k < d) from propext (by omega)]
          exact h
  unfold f_X2_addHeat
  refine key 20 0 FU_ 0 σs (by decide) (by rw [FU_v]; omega) fL.rf rfl rfl (fun _ k hk => ?_)
  rw [if_neg (by omega), if_neg (by omega)]
  exact ⟨rfl, rfl⟩
theorem spl_d {σ : bd_S} {L k : Nat} (h : k < 20) : spl σ L k = la σ L k := sp_jd h
theorem sph_d {σ : bd_S} {L k : Nat} (h : k < 20) : sph σ L k = lb σ L k := sp_jd h
theorem spl_r {σ : bd_S} {L : Nat} : spl σ L 20 = lR σ L := sp_jr _ _
theorem sph_r {σ : bd_S} {L : Nat} : sph σ L 20 = hR σ L := sp_jr _ _
/-- LEARN: the same as the reference's -/
theorem s_learnBut {σ0 σ : bd_S} {s c w : Nat} {sl : Nat → Int} {x3 x4 x5 : Int32} (hs : s < 4) (hc : c < 3) (hE : IE σ0 s) (hB : IB σ0) (hF : IF σ0 s) (hG : IG σ0 s) (hL : qL σ0) (hC : qC σ0 σ) (hwm : ∀ k, 0 ≤ (σ0 65 k).toInt ∧ (σ0 65 k).toInt ≤ 9) (hV : qV σ0 σ) (hw : ∀ d, d < 20 → (nI d = x3 ↔ d = w)) (hsl : ∀ d, d < 20 → sl d = s63 σ0 d + (if nI d = x4 then x5.toInt else 0)) (h5 : -120 ≤ x5.toInt ∧ x5.toInt ≤ 120) :
    wp (f_X2_learnBut (19 + 9 * s) (nI c) x3 x4 x5 σ) (fun r σ' => fL 7 σ σ' ∧ LR σ0 s c w sl r (spl σ' 7) (sph σ' 7)) := by
  obtain ⟨g1, g2, g3, -⟩ := hG c hc
  unfold f_X2_learnBut
  refine wp_c s_open (fun _ σ1 h1 => ?_)
  obtain ⟨a1, a2, a3, a4, -⟩ := h1
  have m9 : (-99999 : Int32).toInt = -99999 := rfl
  have hA1 : ∀ k, k < 20 → la σ1 7 k = -99999 ∧ lb σ1 7 k = 99999 := fun k hk => by
    have h := a2 k hk
    show (σ1 8 k).toInt = _ ∧ (σ1 9 k).toInt = _
    have h8 : σ1 8 k = -99999 := h.1
    have h9 : σ1 9 k = 99999 := h.2
    rw [h8, h9]
    exact ⟨rfl, rfl⟩
  have hR1 : lR σ1 7 = -99 ∧ hR σ1 7 = 99 := by
    show (σ1 7 2).toInt = _ ∧ (σ1 7 3).toInt = _
    rw [a3, a4]
    exact ⟨rfl, rfl⟩
  have U1 : qU σ σ1 := a1.u (Or.inr rfl)
  have e6 : ∀ σ2, qU σ σ2 → σ2 (19 + 9 * s + 6) c = σ0 73 (3 * s + c) := fun σ2 hU => by
    rw [hU.v.at (r := 19 + 9 * s + 6) (by omega), hV.at (r := 19 + 9 * s + 6) (by omega)]
    exact g1
  have e13 : ∀ σ2, qU σ σ2 → ∀ k, σ2 13 k = σ0 65 k := fun σ2 hU k => by
    rw [hU.v.at (r := 13) (by decide)]
    exact hC.2.2.2.2 k
  refine s_14 (σs := σ1) (w := w) (sl := sl) hs hc hE hB hF hL (hC.v U1.v) (hV.tr U1) hw hsl h5 (fun σ2 b1 b2 b3 b4 => ?_) (nts σ0 s) 0 FU_ σ1 (by omega) (by rw [FU_v]; have := hE.1.1; omega) fL.rf rfl (fun k hk => ?_) (fun lo hi => ?_)
  · have U2 : qU σ σ2 := U1.tr (b1.u (Or.inr rfl))
    have hneg : (-(σ2 (19 + 9 * s + 6) c)).toInt = -(σ0 73 (3 * s + c)).toInt := by rw [e6 σ2 U2, fb_negI (by omega)]
    refine wp_rd c rfl hc (by decide) (wp_lt (wp_c (s_addHeat (σ0 := σ0) (by rw [hneg]; omega) hwm (e13 σ2 U2)) (fun _ σ3 h3 => ?_)))
    obtain ⟨c1, c2, c3⟩ := h3
    have bm2 : bdm σ2 := fun k hk => by have := b3 k hk; omega
    have c3 := c3 bm2
    rw [hneg] at c3
    have U3 : qU σ σ3 := U2.tr (c1.u (Or.inr rfl))
    have hgb : ∀ k, k < 20 → -500 ≤ gw (σ0 73 (3 * s + c)).toInt σ0 k ∧ gw (σ0 73 (3 * s + c)).toInt σ0 k ≤ 500 := fun k hk => by
      have := gw_bd (h := (σ0 73 (3 * s + c)).toInt) (by omega) hwm k
      omega
    have hA3 : ∀ k, k < 20 → la σ3 7 k = la σ2 7 k - gw (σ0 73 (3 * s + c)).toInt σ0 k ∧ lb σ3 7 k = lb σ2 7 k - gw (σ0 73 (3 * s + c)).toInt σ0 k := fun k hk => by
      have h := c3 k hk
      rw [gw_neg] at h
      omega
    have hb3 : bdd (la σ3 7) (lb σ3 7) := fun k hk => by
      have h1 := hA3 k hk
      have h2 := b3 k hk
      have h3 := hgb k hk
      omega
    have e32 : σ3 7 = σ1 7 := c2.trans b2
    have hR3 : lR σ3 7 = -99 ∧ hR σ3 7 = 99 := by
      show (σ3 7 2).toInt = _ ∧ (σ3 7 3).toInt = _
      rw [e32]
      exact hR1
    have sL : ∀ k, k ≤ 20 → spl σ2 7 k = sh (gq σ0 s c) (spl σ3 7) k := fun k hk => by
      by_cases e : k = 20
      · subst e
        rw [sh_r, spl_r, spl_r]
        show (σ2 7 2).toInt = (σ3 7 2).toInt
        rw [c2]
      · have hk' : k < 20 := by omega
        rw [sh_d hk', spl_d hk', spl_d hk', gw_gq, (hA3 k hk').1]
        omega
    have sH : ∀ k, k ≤ 20 → sph σ2 7 k = sh (gq σ0 s c) (sph σ3 7) k := fun k hk => by
      by_cases e : k = 20
      · subst e
        rw [sh_r, sph_r, sph_r]
        show (σ2 7 3).toInt = (σ3 7 3).toInt
        rw [c2]
      · have hk' : k < 20 := by omega
        rw [sh_d hk', sph_d hk', sph_d hk', gw_gq, (hA3 k hk').2]
        omega
    refine wp_c (s_narrow hb3 (by omega) (by omega)) (fun r σ4 h4 => ?_)
    obtain ⟨d1, d2⟩ := h4
    have U4 : qU σ σ4 := U3.tr (d1.u (Or.inr rfl))
    have hpos : (σ4 (19 + 9 * s + 6) c).toInt = (σ0 73 (3 * s + c)).toInt := by rw [e6 σ4 U4]
    refine wp_rd c rfl hc (by decide) (wp_c (s_addHeat (σ0 := σ0) (by rw [hpos]; omega) hwm (e13 σ4 U4)) (fun _ σ5 h5' => ?_))
    obtain ⟨f1, f2, f3⟩ := h5'
    rw [hpos] at f3
    have F5 : fL 7 σ σ5 := (((a1.tr b1).tr c1).tr d1).tr f1
    rcases d2 with ⟨rfl, d2⟩ | ⟨rfl, d2⟩
    · have bm4 : bdm σ4 := fun k hk => by
        have q1 := d2.1 k (by omega)
        have q2 := d2.2.2.1 k (by omega)
        rw [spl_d hk, sph_d hk] at q1 q2
        rw [spl_d hk, sph_d hk] at q1
        have q3 := hb3 k hk
        omega
      have f3 := f3 bm4
      refine wp_zr (Or.inr rfl) ⟨F5, Or.inl ⟨rfl, ?_⟩⟩
      refine sp_cl_congr (fun lo hi _ _ => b4 lo hi) (sp_cl_ext (sh_cl sL sH d2) (fun k hk => ?_) (fun k hk => ?_))
      · by_cases e : k = 20
        · subst e
          rw [sh_r, spl_r, spl_r]
          show (σ5 7 2).toInt = (σ4 7 2).toInt
          rw [f2]
        · have hk' : k < 20 := by omega
          rw [sh_d hk', spl_d hk', spl_d hk', gw_gq, (f3 k hk').1]
      · by_cases e : k = 20
        · subst e
          rw [sh_r, sph_r, sph_r]
          show (σ5 7 3).toInt = (σ4 7 3).toInt
          rw [f2]
        · have hk' : k < 20 := by omega
          rw [sh_d hk', sph_d hk', sph_d hk', gw_gq, (f3 k hk').2]
    · refine wp_zr (Or.inl rfl) ⟨F5, Or.inr ⟨rfl, ?_⟩⟩
      exact sp_no_congr (fun lo hi _ _ => b4 lo hi) (sh_no sL sH d2)
  · have := hA1 k hk
    omega
  · unfold Adn
    have E1 : ∀ k, k ≤ 20 → spl σ1 7 k = sp_j (fun _ => -99999) (-99) k ∧ sph σ1 7 k = sp_j (fun _ => 99999) 99 k := fun k hk => by
      by_cases e : k = 20
      · subst e
        rw [spl_r, sph_r, sp_jr, sp_jr]
        exact hR1
      · have hk' : k < 20 := by omega
        rw [spl_d hk', sph_d hk', sp_jd hk', sp_jd hk']
        exact hA1 k hk'
    constructor
    · intro z
      refine ⟨fun k hk => ?_, fun k hk => absurd hk (Nat.not_lt_zero k)⟩
      rw [← (E1 k hk).1, ← (E1 k hk).2]
      exact z k hk
    · rintro ⟨z, -⟩ k hk
      rw [(E1 k hk).1, (E1 k hk).2]
      exact z k hk
