theorem AdO.dn {σ : bd_S} {n : Nat} {lo hi a b : Nat → Int} (hT : qT σ n) (h : AdO σ n a b) (hs : sp_sub lo hi a b) : AdO σ n lo hi := by
  refine ⟨fun k hk => ?_, fun k hk => ?_⟩
  · have q1 := h.1 k hk
    have q2 := hs k hk
    omega
  · obtain ⟨⟨d, hd, t1⟩, -⟩ := hT.2 k hk
    have e : nv (σ 56 k) = d := by rw [t1]; exact nv_nI (by omega)
    have q1 := h.2 k hk
    rw [e] at q1 ⊢
    have q2 := hs d (by omega)
    omega
/-- the stars, and one more -/
def AdX (σ : bd_S) (n d : Nat) (x v : Int) (lo hi : Nat → Int) : Prop := AdO σ n lo hi ∧ x - v ≤ lo d ∧ hi d ≤ x + v
theorem AdX.r {σ σ' : bd_S} {n d : Nat} {x v : Int} (hd : d < 20) (e : ∀ k, k < n → σ' 56 k = σ 56 k ∧ σ' 57 k = σ 57 k ∧ σ' 58 k = σ 58 k) (h56 : σ' 56 n = nI d) (h57 : (σ' 57 n).toInt = x) (h58 : (σ' 58 n).toInt = v) (lo hi : Nat → Int) : AdX σ n d x v lo hi ↔ AdO σ' (n + 1) lo hi := by
  have ed : nv (σ' 56 n) = d := by rw [h56]; exact nv_nI (by omega)
  unfold AdX AdO
  constructor
  · rintro ⟨⟨h1, h2⟩, h3⟩
    refine ⟨h1, fun k hk => ?_⟩
    by_cases ek : k = n
    · subst ek; rw [ed, h57, h58]; exact h3
    · rw [(e k (by omega)).1, (e k (by omega)).2.1, (e k (by omega)).2.2]; exact h2 k (by omega)
  · rintro ⟨h1, h2⟩
    refine ⟨⟨h1, fun k hk => ?_⟩, ?_⟩
    · have z := h2 k (by omega)
      rw [(e k hk).1, (e k hk).2.1, (e k hk).2.2] at z
      exact z
    · have z := h2 n (by omega)
      rw [ed, h57, h58] at z
      exact z
theorem AdO.e {σ σ' : bd_S} {n : Nat} (e : ∀ k, k < n → σ' 56 k = σ 56 k ∧ σ' 57 k = σ 57 k ∧ σ' 58 k = σ 58 k) (lo hi : Nat → Int) : AdO σ n lo hi ↔ AdO σ' n lo hi := by
  unfold AdO
  refine and_congr_right fun _ => ⟨fun z k hk => ?_, fun z k hk => ?_⟩
  · rw [(e k hk).1, (e k hk).2.1, (e k hk).2.2]; exact z k hk
  · have := z k hk
    rw [(e k hk).1, (e k hk).2.1, (e k hk).2.2] at this
    exact this
/-- the class lays one more star on its trial line -/
theorem s_try {σ : bd_S} (hI : Inv σ) {n d : Nat} {x v : Int32} (hn : n ≤ 20) (h0 : σ 55 0 = nI n) (hd : d < 20) (hx : -600 ≤ x.toInt ∧ x.toInt ≤ 600) (hv : σ 0 13 = v) (hv' : 0 ≤ v.toInt ∧ v.toInt ≤ 9) {K : Int32 → bd_S → Option (Int32 × bd_S)} {P : Int32 → bd_S → Prop}
    (hk : ∀ r σ3, fL 4 σ σ3 → ((r = 1 ∧ sp_cl (fun _ => 0) (AdX σ n d x.toInt v.toInt) (spl σ3 4) (sph σ3 4)) ∨ (r = 0 ∧ sp_no (fun _ => 0) (AdX σ n d x.toInt v.toInt))) → wp (K r σ3) P) :
    wp (bd_b (f_X0_copyFrom 4 1 σ) (fun _ s42 => bd_lt (s42 0 13) (fun z52 => bd_lt (x - z52 : Int32) (fun z55 => bd_lt (s42 0 13) (fun z58 => bd_lt (x + z58 : Int32) (fun z61 => bd_b (f_X0_cut 4 (nI d) z55 z61 s42) (fun _ s62 => bd_b (f_X0_narrow 4 s62) K))))))) P := by
  obtain ⟨d1, d2, d3, d4, d5⟩ := hI.2.2.2.1
  rw [h0, nv_nI (by omega)] at d4 d5
  have hL := hI.qL
  refine wp_c (s_copy (by omega)) (fun _ σ1 h => ?_)
  obtain ⟨a1, a2, a3, a4, -⟩ := h
  refine wp_lt (wp_lt (wp_lt (wp_lt (wp_c (s_cut hd) (fun _ σ2 hw => ?_)))))
  obtain ⟨w1, w2, w3⟩ := hw
  have e13 : σ1 0 13 = v := by rw [a1 0 (by decide) (by decide) (by decide)]; exact hv
  have y1 : (x - v).toInt = x.toInt - v.toInt := by rw [fb_subI] <;> omega
  have y2 : (x + v).toInt = x.toInt + v.toInt := by rw [fb_addI] <;> omega
  rw [e13] at w2 w3
  rw [y1] at w2
  rw [y2] at w3
  have A1 : ∀ k, k < 20 → la σ1 4 k = oO σ k ∧ lb σ1 4 k = oP σ k := fun k hk => by
    have q := a2 k hk
    have z := d1 k hk
    show (σ1 5 k).toInt = (σ 59 k).toInt ∧ (σ1 6 k).toInt = (σ 60 k).toInt
    have q1 : σ1 5 k = σ 2 k := q.1
    have q2 : σ1 6 k = σ 3 k := q.2
    rw [q1, q2, z.1, z.2]
    exact ⟨rfl, rfl⟩
  have e4 : σ2 4 = σ1 4 := w1 4 (by decide) (by decide)
  have r2 : lR σ2 4 = oO σ 20 ∧ hR σ2 4 = oP σ 20 := by
    show (σ2 4 2).toInt = (σ 59 20).toInt ∧ (σ2 4 3).toInt = (σ 60 20).toInt
    rw [e4, a3, a4, d2, d3]
    exact ⟨rfl, rfl⟩
  have S1 : ∀ k, k ≤ 20 → spl σ2 4 k = if k = d then max (oO σ d) (x.toInt - v.toInt) else oO σ k := fun k hk => by
    by_cases e : k = 20
    · subst e; rw [spl_r, if_neg (by omega)]; exact r2.1
    · have hk' : k < 20 := by omega
      rw [spl_d hk', w2, (A1 d hd).1, (A1 k hk').1]
  have S2 : ∀ k, k ≤ 20 → sph σ2 4 k = if k = d then min (oP σ d) (x.toInt + v.toInt) else oP σ k := fun k hk => by
    by_cases e : k = 20
    · subst e; rw [sph_r, if_neg (by omega)]; exact r2.2
    · have hk' : k < 20 := by omega
      rw [sph_d hk', w3, (A1 d hd).2, (A1 k hk').2]
  have hC : ∀ lo hi, sp_nar (fun _ => 0) lo hi → sp_ne lo hi → (sp_sub lo hi (spl σ2 4) (sph σ2 4) ↔ AdX σ n d x.toInt v.toInt lo hi) := fun lo hi q1 q2 => by
    rw [sp_sub_cut (by omega) S1 S2]
    unfold AdX
    refine and_congr_left fun _ => ⟨fun z => AdO.dn ⟨hn, d5⟩ d4.1 z, fun z => d4.2.2.2 lo hi z q1 q2⟩
  have hb : bdd (la σ2 4) (lb σ2 4) := fun k hk => by
    have q := hL.1 k hk
    have z1 := S1 k (by omega)
    have z2 := S2 k (by omega)
    rw [spl_d hk] at z1
    rw [sph_d hk] at z2
    have o1 : oO σ k = (σ 59 k).toInt := rfl
    have o2 : oP σ k = (σ 60 k).toInt := rfl
    rw [z1, z2]
    by_cases e : k = d
    · subst e; rw [if_pos rfl, if_pos rfl]; omega
    · rw [if_neg e, if_neg e]; omega
  have q20 := d4.1.1 20 (by omega)
  have n20 := d4.2.2.1 20 (by omega)
  rw [sp_jr, sp_jr] at q20
  have q20 : -20 ≤ oO σ 20 ∧ oP σ 20 ≤ 20 := q20
  have n20 : oO σ 20 ≤ oP σ 20 := n20
  refine wp_c (s_narrow hb (by omega) (by omega)) (fun r σ3 h => ?_)
  obtain ⟨c1, c2⟩ := h
  have F3 : fL 4 σ σ3 := (a1.tr (fun r q1 q2 q3 => w1 r q2 q3)).tr c1
  rcases c2 with ⟨rfl, c2⟩ | ⟨rfl, c2⟩
  · exact hk 1 σ3 F3 (Or.inl ⟨rfl, sp_cl_congr hC c2⟩)
  · exact hk 0 σ3 F3 (Or.inr ⟨rfl, sp_no_congr hC c2⟩)
