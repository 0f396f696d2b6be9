/-! TRUST of the reference -/
theorem s_layF {σ0 σ : bd_S} {s c w : Nat} {sl : Nat → Int} (hI : qI σ0 s c) (hV : qR σ0 σ) (hw : ∀ d, d < 20 → (nI d = σ 55 30 ↔ d = w)) (hsl : ∀ d, d < 20 → (σ 63 d).toInt = sl d) (hb : ∀ d, d < 20 → -180 ≤ sl d ∧ sl d ≤ 180) :
    wp (f_X3_lay (nI s) (nI c) σ) (fun r σ' => (qU σ σ' ∧ ∀ r, 82 ≤ r → r ≤ 84 → σ' r = σ r) ∧ LR σ0 s c w sl r (cl σ') (ch σ')) := by
  obtain ⟨⟨hs, hc⟩, hL, hn, hN, hh, hwm, h81⟩ := hI
  unfold f_X3_lay
  refine wp_c s_start (fun _ σ1 h1 => ?_)
  obtain ⟨f1, f2⟩ := h1
  have e73 : σ1 73 (3 * s + c) = σ0 73 (3 * s + c) := by rw [f1 73 (by decide) (by decide)]; exact hV.at (by decide)
  have e65 : ∀ k, σ1 65 k = σ0 65 k := fun k => by rw [f1 65 (by decide) (by decide)]; exact hV.at (by decide)
  have e81 : σ1 81 0 = 0 := by rw [f1 81 (by decide) (by decide), hV 81 0 (by decide)]; exact h81
  have eg : ∀ d, gq σ1 s c d = gq σ0 s c d := fun d => by
    induction d with
    | zero => rfl
    | succ d ih => unfold gq; rw [ih, e73, e65]
  refine s_lay_10 (σ0 := σ1) hs hc (by rw [e73]; exact hh) (fun k => by rw [e65]; exact hwm k) (fun σ2 g1 g2 => ?_) 19 1 FU_ σ1 (by decide) (by decide) (by rw [FU_v]; omega) (fun _ _ => rfl) (fun k hk => ?_)
  · have U1 : qU σ σ1 := fun r k q => by unfold qS at q; rw [f1 r (by omega) (by omega)]
    have U2 : qU σ1 σ2 := fun r k q => by
      unfold qS at q
      by_cases e : r = 81
      · subst e
        have k0 : k = 0 := by omega
        subst k0
        have h := g2 0 (by decide)
        have h : (σ2 81 0).toInt = 0 := h
        rw [e81]
        exact ti_eq.mpr h
      · rw [g1 r e]
    have E1 : ∀ k, k ≤ 20 → cl σ2 k = sp_j (fun _ => -99999) (-99) k ∧ ch σ2 k = sp_j (fun _ => 99999) 99 k := fun k hk => by
      have h := f2 k hk
      show (σ2 79 k).toInt = _ ∧ (σ2 80 k).toInt = _
      rw [g1 79 (by decide), g1 80 (by decide), h.1, h.2]
      unfold sp_j
      by_cases e : k = 20
      · rw [if_pos e, if_pos e, if_pos e, if_pos e]; exact ⟨rfl, rfl⟩
      · rw [if_neg e, if_neg e, if_neg e, if_neg e]; exact ⟨rfl, rfl⟩
    have B2 : Bn σ2 := by
      refine ⟨fun k hk => ?_, ?_, fun k hk => ?_⟩
      · have h := E1 k (by omega)
        rw [sp_jd hk, sp_jd hk] at h
        omega
      · have h := E1 20 (by omega)
        rw [sp_jr, sp_jr] at h
        omega
      · rw [g2 k hk, eg]
        have := gq_bd hh hwm k
        omega
    have hV2 : qR σ0 σ2 := hV.tr (U1.tr U2)
    refine wp_mono (s_60 (σs := σ2) hs hc hL hn hN hV2 (fun d hd => by rw [g1 55 (by decide), f1 55 (by decide) (by decide)]; exact hw d hd) (fun d hd => by rw [g1 63 (by decide), f1 63 (by decide) (by decide)]; exact hsl d hd) hb B2 (nts σ0 s) 0 FU_ σ2 (by omega) (by rw [FU_v]; omega) Nst.rf (fun lo hi => ?_)) (fun r σ' h => ?_)
    · unfold Adn
      constructor
      · intro z
        refine ⟨fun k hk => ?_, fun k hk => absurd hk (Nat.not_lt_zero k)⟩
        rw [← (E1 k hk).1, ← (E1 k hk).2]
        exact z k hk
      · rintro ⟨z, -⟩ k hk
        rw [(E1 k hk).1, (E1 k hk).2]
        exact z k hk
    · have EG : ∀ d, d < 20 → cg σ2 d = gq σ0 s c d := fun d hd => by rw [g2 d hd, eg]
      refine ⟨⟨(U1.tr U2).tr h.1.v, fun r q1 q2 => ((h.1.1 r (by omega) (by omega) (by omega)).trans (g1 r (by omega))).trans (f1 r (by omega) (by omega))⟩, ?_⟩
      rcases h.2 with ⟨q1, q2⟩ | ⟨q1, q2⟩
      · exact Or.inl ⟨q1, sp_cl_g EG q2⟩
      · exact Or.inr ⟨q1, sp_no_g EG q2⟩
  · have : k = 0 := by omega
    subst this
    show (σ1 81 0).toInt = 0
    rw [e81]
    rfl
theorem s_layUF {σ0 σ : bd_S} {s c : Nat} (hI : Inv σ0) (hU : qU σ0 σ) (hs : s < 4) (hc : c < 3) : wp (f_X3_lay (nI s) (nI c) σ) (fun r σ' => (qU σ0 σ' ∧ ∀ r, 82 ≤ r → r ≤ 84 → σ' r = σ r) ∧ LA σ0 s c 99 (s63 σ0) r (cl σ') (ch σ')) := by
  refine wp_mono (s_layF (w := 99) (sl := s63 σ0) (hI.qI hs hc) hU.r (fun d hd => ?_) (fun d hd => ?_) (fun d hd => ?_)) (fun r σ' h => ⟨⟨hU.tr h.1.1, h.1.2⟩, h.2.a⟩)
  · rw [hU 55 30 (by unfold qS; omega), hI.1.2.2.2.2.2.2.1]
    exact m6_nI hd
  · rw [hU 63 d (by unfold qS; omega)]
    rfl
  · have := s63_bd hI d
    omega
theorem s_downAny {σ : bd_S} {x : Int32} : wp (f_X3_down x 4 σ) (fun _ σ' => σ' = σ) := by
  unfold f_X3_down
  exact wp_dv (by decide) (wp_lt (wp_if (fun _ => wp_some rfl) (fun _ => wp_lt (wp_some rfl))))
theorem s_pl0 {σ : bd_S} {x : Int32} {d : Nat} {A : Prop} (hd : d < 20) (hx : -99999 ≤ x.toInt ∧ x.toInt ≤ 99999) (hy : A → -99999 ≤ (σ 80 d).toInt ∧ (σ 80 d).toInt ≤ 99999) : wp (f_X3_placeOf (nI d) x 0 σ) (fun r σ' => σ' = σ ∧ (A → r.toInt = (x.toInt - (σ 80 d).toInt) / 4)) := by
  by_cases h : A
  · exact wp_mono (s_placeOf0 hd hx (hy h)) (fun r σ' z => ⟨z.1, fun _ => z.2⟩)
  · unfold f_X3_placeOf
    exact wp_ift rfl (wp_rd d rfl (by omega) (by decide) (wp_lt (wp_c s_downAny (fun r σ' z => wp_some ⟨z, fun q => absurd q h⟩))))
theorem s_pl1 {σ : bd_S} {x : Int32} {d : Nat} {A : Prop} (hd : d < 20) (hx : -99999 ≤ x.toInt ∧ x.toInt ≤ 99999) (hy : A → -99999 ≤ (σ 79 d).toInt ∧ (σ 79 d).toInt ≤ 99999) : wp (f_X3_placeOf (nI d) x 1 σ) (fun r σ' => σ' = σ ∧ (A → r.toInt = -(-(x.toInt - (σ 79 d).toInt) / 4))) := by
  by_cases h : A
  · exact wp_mono (s_placeOf1 (by decide) hd hx (hy h)) (fun r σ' z => ⟨z.1, fun _ => z.2⟩)
  · unfold f_X3_placeOf f_X3_up
    exact wp_iff (by decide) (wp_rd d rfl (by omega) (by decide) (wp_lt (wp_c (wp_lt (wp_c s_downAny (fun r σ' z => wp_lt (wp_some (P := fun _ σ' => σ' = σ) z)))) (fun r σ' z => wp_some ⟨z, fun q => absurd q h⟩))))
def RR1 (σ0 : bd_S) (s c : Nat) (σ : bd_S) : Prop := ((σ 84 c).toInt = 0 ∧ plc σ0 s c = 1000000 ∧ pgc σ0 s c = -1000000) ∨ ((σ 84 c).toInt = 1 ∧ (σ 82 c).toInt = plc σ0 s c ∧ (σ 83 c).toInt = pgc σ0 s c ∧ -60000 ≤ plc σ0 s c ∧ plc σ0 s c ≤ 60000 ∧ -60000 ≤ pgc σ0 s c ∧ pgc σ0 s c ≤ 60000)
def RR (σ0 : bd_S) (s n : Nat) (σ : bd_S) : Prop := ∀ c, c < n → RR1 σ0 s c σ
theorem RR1.cg {σ0 : bd_S} {s c : Nat} {σ σ' : bd_S} (h : RR1 σ0 s c σ) (e : σ' 82 c = σ 82 c ∧ σ' 83 c = σ 83 c ∧ σ' 84 c = σ 84 c) : RR1 σ0 s c σ' := by
  unfold RR1
  rw [e.1, e.2.1, e.2.2]
  exact h
theorem s_layPlaces {σ0 σ : bd_S} (hI : Inv σ0) {s : Nat} (hs : s < 4) (hU : qU σ0 σ) : wp (f_X3_layPlaces (nI s) σ) (fun _ σ' => qU σ0 σ' ∧ RR σ0 s 3 σ') := by
  obtain ⟨-, -, -, eH, -⟩ := hI.2.2.2.2 s hs
  obtain ⟨h10, ⟨d, hd, h75⟩, h76⟩ := eH
  have hnv : nv (σ0 75 s) = d := by rw [h75]; exact nv_nI (by omega)
  have key : ∀ (m c n : Nat) (σ : bd_S), c + m = 3 → m < n → qU σ0 σ → RR σ0 s c σ → wp (f_X3_layPlaces_2 n (nI c) (nI s) σ) (fun _ σ' => qU σ0 σ' ∧ RR σ0 s 3 σ') := by
    intro m
    induction m with
    | zero =>
      intro c n σ hc hn hU hR
      obtain ⟨n, rfl⟩ : ∃ z, n = z + 1 := ⟨n - 1, by omega⟩
      have : c = 3 := by omega
      subst this
      unfold f_X3_layPlaces_2
      exact wp_ift ((nle (by decide) (by decide)).mpr (Nat.le_refl 3)) (wp_some ⟨hU, hR⟩)
    | succ m ih =>
      intro c n σ hc hn hU hR
      obtain ⟨n, rfl⟩ : ∃ z, n = z + 1 := ⟨n - 1, by omega⟩
      have hc3 : c < 3 := by omega
      obtain ⟨h8, hx⟩ := h76 c hc3
      unfold f_X3_layPlaces_2
      refine wp_iff (fun q => ?_) (wp_c (s_layUF hI hU hs hc3) (fun r σ1 q => ?_))
      · have := (nle (a := 3) (by decide) (by omega)).mp q
        omega
      obtain ⟨⟨u, fr⟩, q⟩ := q
      have hr : r = 0 ∨ r = 1 := by
        rcases q with ⟨e, -⟩ | ⟨e, -⟩
        · exact Or.inr e
        · exact Or.inl e
      have hL : ¬ gP σ0 s c → LH σ0 s c (cl σ1) (ch σ1) := fun g => by
        rcases q with ⟨-, -, L⟩ | ⟨-, z⟩
        · exact L
        · exact absurd z g
      rw [nar_v hr]
      have e75 : ∀ z : Int32, bd_st σ1 84 c z 75 s = nI d := fun z => by rw [st_ne (by decide), u 75 s (by unfold qS; omega)]; exact h75
      have e76 : ∀ z : Int32, bd_st σ1 84 c z 76 (3 * s + c) = σ0 76 (3 * s + c) := fun z => by rw [st_ne (by decide), u 76 (3 * s + c) (by unfold qS; omega)]
      refine wp_wr c rfl hc3 (by decide) (wp_rd s rfl hs (by decide) (wp_lt (wp_lt ?_)))
      rw [e75, ix3]
      refine wp_rd (3 * s + c) rfl (by omega) (by decide) ?_
      rw [e76]
      refine wp_c (s_pl0 (A := ¬ gP σ0 s c) hd hx (fun g => ?_)) (fun v1 σ2 q1 => ?_)
      · have z := hL g d (by omega)
        have z : _ ∧ (-99999 ≤ (σ1 79 d).toInt ∧ (σ1 79 d).toInt ≤ (σ1 80 d).toInt ∧ (σ1 80 d).toInt ≤ 99999) := z
        rw [st_ne (by decide)]
        omega
      obtain ⟨e2, q1⟩ := q1
      rw [e2]
      rw [st_ne (show (80 : Nat) ≠ 84 by decide)] at q1
      refine wp_wr c rfl hc3 (by decide) (wp_rd s rfl hs (by decide) (wp_lt (wp_lt ?_)))
      rw [st_ne (show (75 : Nat) ≠ 82 by decide), e75, ix3]
      refine wp_rd (3 * s + c) rfl (by omega) (by decide) ?_
      rw [st_ne (show (76 : Nat) ≠ 82 by decide), e76]
      refine wp_c (s_pl1 (A := ¬ gP σ0 s c) hd hx (fun g => ?_)) (fun v2 σ3 q2 => ?_)
      · have z := hL g d (by omega)
        have z : _ ∧ (-99999 ≤ (σ1 79 d).toInt ∧ (σ1 79 d).toInt ≤ (σ1 80 d).toInt ∧ (σ1 80 d).toInt ≤ 99999) := z
        rw [st_ne (by decide), st_ne (by decide)]
        omega
      obtain ⟨e3, q2⟩ := q2
      rw [e3]
      rw [st_ne (show (79 : Nat) ≠ 82 by decide), st_ne (show (79 : Nat) ≠ 84 by decide)] at q2
      refine wp_wr c rfl hc3 (by decide) (wp_lt ?_)
      rw [nI_1]
      refine ih (c + 1) n _ (by omega) (by omega) (fun r' k z => ?_) (fun j hj => ?_)
      · unfold qS at z
        rw [st_ne (by omega), st_ne (by omega), st_ne (by omega)]
        exact u r' k (by unfold qS; omega)
      · by_cases e : j = c
        · subst e
          have a82 : bd_st (bd_st (bd_st σ1 84 j r) 82 j v1) 83 j v2 82 j = v1 := by rw [st_ne (by decide), st_same]
          have a83 : bd_st (bd_st (bd_st σ1 84 j r) 82 j v1) 83 j v2 83 j = v2 := by rw [st_same]
          have a84 : bd_st (bd_st (bd_st σ1 84 j r) 82 j v1) 83 j v2 84 j = r := by rw [st_ne (by decide), st_ne (by decide), st_same]
          unfold RR1
          rw [a82, a83, a84]
          rcases q with ⟨rfl, g, L⟩ | ⟨rfl, g⟩
          · have p := plc_n g
            rw [hnv] at p
            have z := L d (by omega)
            have z : ((σ1 79 d).toInt = Lo σ0 s j 99 (s63 σ0) d ∧ (σ1 80 d).toInt = Hi σ0 s j 99 (s63 σ0) d) ∧ (-99999 ≤ (σ1 79 d).toInt ∧ (σ1 79 d).toInt ≤ (σ1 80 d).toInt ∧ (σ1 80 d).toInt ≤ 99999) := z
            have q1 := q1 g
            have q2 := q2 g
            rw [z.1.2] at q1
            rw [z.1.1] at q2
            rw [z.1.1, z.1.2] at z
            rw [p.1, p.2]
            refine Or.inr ⟨rfl, q1, q2, ?_⟩
            omega
          · have p := plc_y g
            exact Or.inl ⟨rfl, p.1, p.2⟩
        · refine (hR j (by omega)).cg ?_
          rw [st_ne (show (82 : Nat) ≠ 83 by decide), st_off e, st_ne (show (82 : Nat) ≠ 84 by decide), st_off e, st_ne (show (83 : Nat) ≠ 82 by decide), st_ne (show (83 : Nat) ≠ 84 by decide), st_ne (show (84 : Nat) ≠ 83 by decide), st_ne (show (84 : Nat) ≠ 82 by decide), st_off e, fr 82 (by decide) (by decide), fr 83 (by decide) (by decide), fr 84 (by decide) (by decide)]
          exact ⟨rfl, rfl, rfl⟩
  unfold f_X3_layPlaces
  exact key 3 0 FU_ σ (by decide) (by rw [FU_v]; omega) hU (fun j hj => absurd hj (Nat.not_lt_zero j))
