theorem p_place {σ : bd_S} (hI : Inv σ) (x y z r0 w : Int32) : Pr (f_X2_place x y z r0 w) (f_X3_place x y z r0 w) σ := by
  obtain ⟨nk, hn⟩ := hI.hS
  have m9 : (-99999 : Int32).toInt = -99999 := rfl
  have p9 : (99999 : Int32).toInt = 99999 := rfl
  unfold Pr f_X2_place f_X3_place
  by_cases h : okS nk x ∧ okC y
  · refine wp_e (noClock_t hn h.1 h.2) (wp_ift rfl ?_)
    by_cases g : okD z
    · refine wp_e (noDay_t g) (wp_ift rfl ?_)
      by_cases f : okE w
      · refine wp_e (noEnd_t f) (wp_ift rfl ?_)
        by_cases e : (-99999 : Int32).toInt ≤ r0.toInt ∧ r0.toInt ≤ (99999 : Int32).toInt
        · refine wp_e (bey_t rfl e) (wp_ift rfl ?_)
          rw [m9, p9] at e
          obtain ⟨s, hs, rfl⟩ := h.1.n hn.1
          obtain ⟨c, hc, rfl⟩ := h.2.n
          obtain ⟨d, hd, rfl⟩ := g.n
          have hs4 : s < 4 := by have := hn.1; omega
          refine wp_rs s rfl hs4 (l_C hI hs4 hc (fun q σ1 u => ?_) (fun q σ1 u L => ?_) qU.rf)
          · refine wp_ift rfl (wp_some (wp_e (isOne_t (hn.u u) h g) (wp_iff (by decide) (wp_e (in_t e) (wp_iff (by decide) (wp_e (isEnd_t f) (wp_iff (by decide) (l_R hI hs4 hc (fun _ σ2 u2 => ?_) (fun q' => absurd q q') u))))))))
            exact wp_ift rfl (wp_some ⟨rfl, hI.u u2⟩)
          · have hb := L.b hd
            refine wp_iff (by decide) (wp_if (fun w0 => ?_) (fun w0 => ?_))
            · refine wp_c (s_leastMiles hd e hb.2) (fun v1 σ1' hv => wp_some ?_)
              obtain ⟨rfl, hv⟩ := hv
              refine wp_e (isOne_t (hn.u u) h g) (wp_iff (by decide) (wp_e (in_t e) (wp_iff (by decide) (wp_e (isEnd_t f) (wp_iff (by decide) (l_R hI hs4 hc (fun q' => absurd q' q) (fun _ σ2 u2 L2 => ?_) u))))))
              have ed := L.d L2 hd
              refine wp_iff (by decide) ?_
              rw [w0]
              refine wp_c (s_placeOf0 hd e (by rw [ed.2]; exact hb.2)) (fun v2 σ2' hv2 => wp_some ?_)
              obtain ⟨rfl, hv2⟩ := hv2
              rw [ed.2] at hv2
              exact ⟨ti_eq.mpr (hv2.trans hv.symm), hI.u u2⟩
            · refine wp_c (s_greatestMiles hd e hb.1) (fun v1 σ1' hv => wp_some ?_)
              obtain ⟨rfl, hv⟩ := hv
              refine wp_e (isOne_t (hn.u u) h g) (wp_iff (by decide) (wp_e (in_t e) (wp_iff (by decide) (wp_e (isEnd_t f) (wp_iff (by decide) (l_R hI hs4 hc (fun q' => absurd q' q) (fun _ σ2 u2 L2 => ?_) u))))))
              have ed := L.d L2 hd
              refine wp_iff (by decide) ?_
              refine wp_c (s_placeOf1 w0 hd e (by rw [ed.1]; exact hb.1)) (fun v2 σ2' hv2 => wp_some ?_)
              obtain ⟨rfl, hv2⟩ := hv2
              rw [ed.1] at hv2
              exact ⟨ti_eq.mpr (hv2.trans hv.symm), hI.u u2⟩
        · exact wp_e (bey_f rfl e) (wp_iff (by decide) (wp_some (wp_e (isOne_t hn h g) (wp_iff (by decide) (wp_e (in_f e) (wp_ift rfl (wp_some ⟨rfl, hI⟩)))))))
      · refine wp_e (noEnd_f f) (wp_iff (by decide) (wp_some (wp_e (isOne_t hn h g) (wp_iff (by decide) ?_))))
        by_cases e : (-99999 : Int32).toInt ≤ r0.toInt ∧ r0.toInt ≤ (99999 : Int32).toInt
        · exact wp_e (in_t e) (wp_iff (by decide) (wp_e (isEnd_f f) (wp_ift rfl (wp_some ⟨rfl, hI⟩))))
        · exact wp_e (in_f e) (wp_ift rfl (wp_some ⟨rfl, hI⟩))
    · exact wp_e (noDay_f g) (wp_iff (by decide) (wp_some (wp_e (isOne_f hn (fun z => g z.2)) (wp_ift rfl (wp_some ⟨rfl, hI⟩)))))
  · exact wp_e (noClock_f hn h) (wp_iff (by decide) (wp_some (wp_e (isOne_f hn (fun z => h z.1)) (wp_ift rfl (wp_some ⟨rfl, hI⟩)))))
theorem imax {a b : Int32} : (if a < b then b else a) = (if b ≤ a then a else b) := by
  by_cases h : a < b
  · rw [if_pos h, if_neg (by rw [ti_lt] at h; rw [ti_le]; omega)]
  · rw [if_neg h, if_pos (by rw [ti_lt] at h; rw [ti_le]; omega)]
theorem imin {a b : Int32} : (if b < a then b else a) = (if a ≤ b then a else b) := by
  by_cases h : b < a
  · rw [if_pos h, if_neg (by rw [ti_lt] at h; rw [ti_le]; omega)]
  · rw [if_neg h, if_pos (by rw [ti_lt] at h; rw [ti_le]; omega)]
theorem s_125 {σ : bd_S} {a b : Int32} {p : Nat} {P : Int32 → bd_S → Prop} (hp : p < 4) (h1 : a ≤ b → P 1 (bd_st (bd_st σ 77 p a) 78 p b)) (h2 : ¬ a ≤ b → P (-5) σ) : wp (f_X3_carry_125 a (nI p) b σ) P := by
  unfold f_X3_carry_125
  exact wp_if (fun h => wp_wr p rfl hp (by decide) (wp_wr p rfl hp (by decide) (wp_some (h1 h)))) (fun h => wp_some (h2 h))
theorem s_101 {σ : bd_S} {a v : Int32} {p : Nat} {P : Int32 → bd_S → Prop} (hp : p < 4) (h : ∀ b, b = (if σ 78 p ≤ v then σ 78 p else v) → wp (f_X3_carry_125 a (nI p) b σ) P) : wp (f_X3_carry_101 v (nI p) a σ) P := by
  unfold f_X3_carry_101
  exact wp_rd p rfl hp (by decide) (wp_if (fun q => wp_rd p rfl hp (by decide) (h _ (if_pos q).symm)) (fun q => h _ (if_neg q).symm))
theorem p_carry {σ : bd_S} (hI : Inv σ) (p x y z v : Int32) : Pr (f_X2_carry p x y z v) (f_X3_carry p x y z v) σ := by
  obtain ⟨nk, hn⟩ := hI.hS
  unfold Pr f_X2_carry f_X3_carry
  by_cases hp : (0 : Int32).toInt ≤ p.toInt ∧ p.toInt ≤ (3 : Int32).toInt
  · refine wp_e (out_t hp) (wp_ift rfl ?_)
    by_cases h : okS nk x ∧ okC y
    · refine wp_e (noClock_t hn h.1 h.2) (wp_ift rfl ?_)
      by_cases g : okD z
      · refine wp_e (noDay_t g) (wp_ift rfl ?_)
        by_cases e : (-9999 : Int32).toInt ≤ v.toInt ∧ v.toInt ≤ (9999 : Int32).toInt
        · refine wp_e (bey_t rfl e) (wp_ift rfl ?_)
          obtain ⟨s, hs, rfl⟩ := h.1.n hn.1
          obtain ⟨c, hc, rfl⟩ := h.2.n
          obtain ⟨d, hd, rfl⟩ := g.n
          obtain ⟨p, hp', rfl⟩ := i_nI (m := 3) hp (by decide)
          have hs4 : s < 4 := by have := hn.1; omega
          have hp4 : p < 4 := by omega
          refine wp_rs s rfl hs4 (l_C hI hs4 hc (fun q σ1 u => ?_) (fun q σ1 u L => ?_) qU.rf)
          · refine wp_ift rfl (wp_some (wp_e (in_t hp) (wp_iff (by decide) (wp_e (isOne_t (hn.u u) h g) (wp_iff (by decide) (wp_e (in_t e) (wp_iff (by decide) (l_R hI hs4 hc (fun _ σ2 u2 => ?_) (fun q' => absurd q q') u))))))))
            exact wp_ift rfl (wp_some ⟨rfl, hI.u u2⟩)
          · obtain ⟨c1, c2, c3, c4, c5, c6⟩ := hI.2.2.1
            refine wp_iff (by decide) (wp_rd p rfl hp4 (by decide) (wp_rd d rfl hd (by decide) (wp_lt (wp_lt (wp_lt (wp_rd p rfl hp4 (by decide) (wp_rd d rfl hd (by decide) (wp_lt (wp_lt (wp_lt ?_))))))))))
            have e15 : σ1 15 p = σ 77 p := (u.v.at (by decide)).trans (c5 p)
            have e16 : σ1 16 p = σ 78 p := (u.v.at (by decide)).trans (c6 p)
            rw [e15, e16, imax, imin]
            generalize hA : (if v - σ1 9 d - 2 ≤ σ 77 p then σ 77 p else v - σ1 9 d - 2) = A
            generalize hB : (if σ 78 p ≤ v - σ1 8 d + 2 then σ 78 p else v - σ1 8 d + 2) = B
            -- the reference, from any state whose own rows are as before
            have R : ∀ (σa : bd_S) (P : Int32 → bd_S → Prop), qR σ σa → hS σa nk → σa 55 30 = σ 55 30 → (∀ k, σa 63 k = σ 63 k) → (∀ σ2, qU σa σ2 → (A ≤ B → P 1 (bd_st (bd_st σ2 77 p A) 78 p B)) ∧ (¬ A ≤ B → P (-5) σ2)) →
                wp (f_X3_carry (nI p) (nI s) (nI c) (nI d) v σa) P := by
              intro σa P hR hn' e30 e63 K
              unfold f_X3_carry
              refine wp_e (in_t hp) (wp_iff (by decide) (wp_e (isOne_t hn' h g) (wp_iff (by decide) (wp_e (in_t e) (wp_iff (by decide) (wp_c (s_lay (w := 99) (sl := s63 σ) (hI.qI hs4 hc) hR (fun k hk => ?_) (fun k hk => ?_) (fun k hk => ?_)) (fun r σ2 hr => ?_)))))))
              · rw [e30, hI.1.2.2.2.2.2.2.1]; exact m6_nI hk
              · rw [e63]; rfl
              · have := s63_bd hI k; omega
              · obtain ⟨u2, hr⟩ := hr
                rcases hr.a with ⟨rfl, -, L2⟩ | ⟨-, q'⟩
                · have L2 : LH σ s c (cl σ2) (ch σ2) := L2
                  have ed := L.d L2 hd
                  have e77 : σ2 77 p = σ 77 p := (u2.v.at (by decide)).trans (hR.at (by decide))
                  have e78 : σ2 78 p = σ 78 p := (u2.v.at (by decide)).trans (hR.at (by decide))
                  have K2 := K σ2 u2
                  have T : ∀ a, a = A → wp (f_X3_carry_101 (v - σ2 79 d + 2) (nI p) a σ2) P := fun a ha => by
                    refine s_101 hp4 (fun b hb => ?_)
                    rw [e78, ed.1, hB] at hb
                    subst ha
                    subst hb
                    exact s_125 hp4 K2.1 K2.2
                  refine wp_iff (by decide) (wp_rd d rfl (by omega) (by decide) (wp_lt (wp_lt (wp_rd d rfl (by omega) (by decide) (wp_lt (wp_lt (wp_rd p rfl hp4 (by decide) (wp_if (fun q1 => wp_rd p rfl hp4 (by decide) (T _ ?_)) (fun q1 => T _ ?_)))))))))
                  · rw [e77, ed.2] at q1
                    rw [← hA, if_pos q1, e77]
                  · rw [e77, ed.2] at q1
                    rw [← hA, if_neg q1, ed.2]
                · exact absurd q' q
            refine wp_if (fun hAB => ?_) (fun hAB => ?_)
            · refine wp_wr p rfl hp4 (by decide) (wp_wr p rfl hp4 (by decide) (wp_some ?_))
              refine R _ _ (fun r k q => by rw [st_2 (by omega) (by omega)]; exact u.r r k q) ⟨hn.1, by rw [st_2 (by omega) (by omega)]; exact (hn.u u).2.1, by rw [st_2 (by omega) (by omega)]; exact (hn.u u).2.2⟩ (by rw [st_2 (by omega) (by omega)]; exact u 55 30 (by unfold qS; omega)) (fun k => by rw [st_2 (by omega) (by omega)]; exact u 63 k (by unfold qS; omega)) (fun σ2 u2 => ⟨fun _ => ⟨rfl, ?_⟩, fun z => absurd hAB z⟩)
              have hE : ∀ r k, ¬ qS r k → ¬ ((r = 15 ∨ r = 16) ∧ k = p) → σ2 r k = σ r k := fun r k z1 z2 => by
                rw [u2 r k z1, st_2 (by omega) (by omega)]
                exact u r k z1
              have v15 : ∀ k, σ2 15 k = if k = p then A else σ 15 k := fun k => by
                rw [u2.v.at (by decide), st_ne (by decide)]
                by_cases ek : k = p
                · subst ek; rw [st_same, if_pos rfl]
                · rw [st_off ek, if_neg ek]; exact u.v.at (by decide)
              have v16 : ∀ k, σ2 16 k = if k = p then B else σ 16 k := fun k => by
                rw [u2.v.at (by decide)]
                by_cases ek : k = p
                · subst ek; rw [st_same, if_pos rfl]
                · rw [st_off ek, if_neg ek, st_ne (by decide)]; exact u.v.at (by decide)
              have hE' : ∀ r k, ¬ qS r k → ¬ ((r = 15 ∨ r = 16 ∨ r = 77 ∨ r = 78) ∧ k = p) → bd_st (bd_st σ2 77 p A) 78 p B r k = σ r k := fun r k z1 z2 => by
                rw [st_2 (by omega) (by omega)]
                exact hE r k z1 (by omega)
              refine hI.u (σ' := fun r k => if r = 15 ∨ r = 16 ∨ r = 77 ∨ r = 78 then σ r k else bd_st (bd_st σ2 77 p A) 78 p B r k) (fun r k z1 => ?_) |>.c ⟨fun k => ?_, fun k => ?_, fun k => ?_, fun k => ?_, fun k => ?_, fun k => ?_⟩ (fun r k z1 => ?_)
              · by_cases z2 : r = 15 ∨ r = 16 ∨ r = 77 ∨ r = 78
                · show (if _ then _ else _) = _
                  rw [if_pos z2]
                · show (if _ then _ else _) = _
                  rw [if_neg z2]
                  exact hE' r k z1 (by omega)
              · rw [hE' 10 k (by unfold qS; omega) (by omega), hE' 61 k (by unfold qS; omega) (by omega)]; exact c1 k
              · rw [hE' 11 k (by unfold qS; omega) (by omega), hE' 62 k (by unfold qS; omega) (by omega)]; exact c2 k
              · rw [hE' 12 k (by unfold qS; omega) (by omega), hE' 63 k (by unfold qS; omega) (by omega)]; exact c3 k
              · rw [hE' 13 k (by unfold qS; omega) (by omega), hE' 65 k (by unfold qS; omega) (by omega)]; exact c4 k
              · rw [st_2 (q := 15) (by omega) (by omega), v15, st_ne (show (77 : Nat) ≠ 78 by decide)]
                by_cases ek : k = p
                · subst ek; rw [if_pos rfl, st_same]
                · rw [if_neg ek, st_off ek, hE 77 k (by unfold qS; omega) (by omega)]; exact c5 k
              · rw [st_2 (q := 16) (by omega) (by omega), v16]
                by_cases ek : k = p
                · subst ek; rw [if_pos rfl, st_same]
                · rw [if_neg ek, st_off ek, st_ne (by decide), hE 78 k (by unfold qS; omega) (by omega)]; exact c6 k
              · show _ = (if _ then _ else _)
                rw [if_neg (by omega)]
            · exact wp_some (R _ _ u.r (hn.u u) (u 55 30 (by unfold qS; omega)) (fun k => u 63 k (by unfold qS; omega)) (fun σ2 u2 => ⟨fun z => absurd z hAB, fun _ => ⟨rfl, hI.u (u.tr u2)⟩⟩))
        · exact wp_e (bey_f rfl e) (wp_iff (by decide) (wp_some (wp_e (in_t hp) (wp_iff (by decide) (wp_e (isOne_t hn h g) (wp_iff (by decide) (wp_e (in_f e) (wp_ift rfl (wp_some ⟨rfl, hI⟩)))))))))
      · exact wp_e (noDay_f g) (wp_iff (by decide) (wp_some (wp_e (in_t hp) (wp_iff (by decide) (wp_e (isOne_f hn (fun z => g z.2)) (wp_ift rfl (wp_some ⟨rfl, hI⟩)))))))
    · exact wp_e (noClock_f hn h) (wp_iff (by decide) (wp_some (wp_e (in_t hp) (wp_iff (by decide) (wp_e (isOne_f hn (fun z => h z.1)) (wp_ift rfl (wp_some ⟨rfl, hI⟩)))))))
  · exact wp_e (out_f hp) (wp_iff (by decide) (wp_some (wp_e (in_f hp) (wp_ift rfl (wp_some ⟨rfl, hI⟩)))))
