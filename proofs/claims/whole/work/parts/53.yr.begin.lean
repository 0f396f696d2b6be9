/-! AT THE START the invariant holds -/
theorem s_begin3 {σ1 σ2 : bd_S} (h1 : D1 σ1) (h2 : ∀ r, r ≠ 15 → r ≠ 16 → σ2 r = σ1 r) (h3 : ∀ k, σ2 15 k = (if k < 4 then -99999 else σ1 15 k) ∧ σ2 16 k = (if k < 4 then 99999 else σ1 16 k)) : wp (f_X3_init_238 (fun s => some ((), s)) σ2) (fun _ σ3 => Inv σ3) := by
  obtain ⟨d1, d2, d3, d4⟩ := h1
  unfold f_X3_init_238
  refine in_240 (σ0 := σ2) (fun σa a1 a2 => ?_) 20 0 FU_ σ2 (by decide) (by rw [FU_v]; omega) (fun _ _ => rfl) (fun k => by rw [if_neg (Nat.not_lt_zero k)])
  refine in_261 (σ0 := σa) (fun σb b1 b2 => ?_) 12 0 FU_ σa (by decide) (by rw [FU_v]; omega) (fun _ _ => rfl) (fun k => by rw [if_neg (Nat.not_lt_zero k)])
  refine in_282 (σ0 := σb) (fun σc c1 c2 => ?_) 4 0 FU_ σb (by decide) (by rw [FU_v]; omega) (fun _ _ _ => rfl) (fun k => by rw [if_neg (Nat.not_lt_zero k), if_neg (Nat.not_lt_zero k)]; exact ⟨rfl, rfl⟩)
  have gc : ∀ r k, r ≠ 65 → r ≠ 74 → r ≠ 77 → r ≠ 78 → r ≠ 15 → r ≠ 16 → σc r k = σ1 r k := fun r k q1 q2 q3 q4 q5 q6 => by rw [c1 r q3 q4, b1 r q2, a1 r q1, h2 r q5 q6]
  have g1 : ∀ r k, r ≠ 1 → r ≠ 2 → r ≠ 3 → r ≠ 13 → σ1 r k = sx_s0 r k := fun r k q1 q2 q3 q4 => by rw [d4 r q1 q2 q3 q4]
  refine wp_c (s_layOffs (N := 0) ⟨by decide, fun k hk => absurd hk (Nat.not_lt_zero k)⟩ (by rw [gc 55 0 (by decide) (by decide) (by decide) (by decide) (by decide) (by decide), g1 55 0 (by decide) (by decide) (by decide) (by decide)]; rfl) (by rw [gc 81 0 (by decide) (by decide) (by decide) (by decide) (by decide) (by decide), g1 81 0 (by decide) (by decide) (by decide) (by decide)]; rfl)) (fun r σ3 hL => wp_some ?_)
  obtain ⟨f, hL⟩ := hL
  have hcl : sp_cl (fun _ => 0) (AdO σc 0) (oO σ3) (oP σ3) := by
    rcases hL with ⟨-, z⟩ | ⟨-, z, -⟩
    · exact z
    · exact absurd z (sp_cl_no box_cl)
  have g : ∀ r k, ¬ qS r k → r ≠ 59 → r ≠ 60 → r ≠ 65 → r ≠ 74 → r ≠ 77 → r ≠ 78 → r ≠ 15 → r ≠ 16 → r ≠ 1 → r ≠ 2 → r ≠ 3 → r ≠ 13 → σ3 r k = sx_s0 r k := fun r k p0 p1 p2 p3 p4 p5 p6 p7 p8 p9 p10 p11 p12 => by
    rw [f r k p0 p1 p2, gc r k p3 p4 p5 p6 p7 p8, g1 r k p9 p10 p11 p12]
  have z : ∀ r k, ¬ qS r k → r ≠ 59 → r ≠ 60 → r ≠ 65 → r ≠ 74 → r ≠ 77 → r ≠ 78 → r ≠ 15 → r ≠ 16 → r ≠ 1 → r ≠ 2 → r ≠ 3 → r ≠ 13 → r ≠ 0 → r ≠ 26 → r ≠ 35 → r ≠ 44 → r ≠ 53 → r ≠ 55 → σ3 r k = 0 := fun r k p0 p1 p2 p3 p4 p5 p6 p7 p8 p9 p10 p11 p12 e0 e1 e2 e3 e4 e5 => by
    rw [g r k p0 p1 p2 p3 p4 p5 p6 p7 p8 p9 p10 p11 p12, sx_z e0 e1 e2 e3 e4 e5]
  have s0 : ∀ k, σ3 0 k = sx_s0 0 k := fun k => g 0 k (by unfold qS; omega) (by decide) (by decide) (by decide) (by decide) (by decide) (by decide) (by decide) (by decide) (by decide) (by decide) (by decide) (by decide)
  have s55 : ∀ k, k ≠ 29 → k ≠ 34 → k ≠ 35 → σ3 55 k = sx_s0 55 k := fun k q1 q2 q3 => g 55 k (by unfold qS; omega) (by decide) (by decide) (by decide) (by decide) (by decide) (by decide) (by decide) (by decide) (by decide) (by decide) (by decide) (by decide)
  have z' : ∀ r k, (10 ≤ r ∧ r ≤ 12) ∨ (61 ≤ r ∧ r ≤ 64) ∨ (66 ≤ r ∧ r ≤ 73) ∨ r = 75 ∨ r = 76 ∨ (r = 81 ∧ k = 0) → σ3 r k = 0 := fun r k q => z r k (by unfold qS; omega) (by omega) (by omega) (by omega) (by omega) (by omega) (by omega) (by omega) (by omega) (by omega) (by omega) (by omega) (by omega) (by omega) (by omega) (by omega) (by omega) (by omega) (by omega)
  have zs : ∀ s j k, s < 4 → j < 9 → j ≠ 7 → σ3 (19 + 9 * s + j) k = 0 := fun s j k q1 q2 q3 => z (19 + 9 * s + j) k (by unfold qS; omega) (by omega) (by omega) (by omega) (by omega) (by omega) (by omega) (by omega) (by omega) (by omega) (by omega) (by omega) (by omega) (by omega) (by omega) (by omega) (by omega) (by omega) (by omega)
  have zf : ∀ s c, s < 4 → c < 3 → σ3 (19 + 9 * s + 7) c = 1 := fun s c q1 q2 => by
    rw [g (19 + 9 * s + 7) c (by unfold qS; omega) (by omega) (by omega) (by omega) (by omega) (by omega) (by omega) (by omega) (by omega) (by omega) (by omega) (by omega) (by omega)]
    exact sx_f q1 q2
  have t0 : (0 : Int32).toInt = 0 := rfl
  have t5 : (5 : Int32).toInt = 5 := rfl
  have e13 : ∀ k, σ3 13 k = if k < 20 then 5 else 0 := fun k => by
    rw [f 13 k (by unfold qS; omega) (by decide) (by decide), gc 13 k (by decide) (by decide) (by decide) (by decide) (by decide) (by decide), d3 k, sx_z (by decide) (by decide) (by decide) (by decide) (by decide) (by decide)]
  have e65 : ∀ k, σ3 65 k = if k < 20 then 5 else 0 := fun k => by
    rw [f 65 k (by unfold qS; omega) (by decide) (by decide), c1 65 (by decide) (by decide), b1 65 (by decide), a2 k, h2 65 (by decide) (by decide), g1 65 k (by decide) (by decide) (by decide) (by decide), sx_z (by decide) (by decide) (by decide) (by decide) (by decide) (by decide)]
  have e74 : ∀ k, k < 12 → σ3 74 k = 1 := fun k hk => by
    rw [f 74 k (by unfold qS; omega) (by decide) (by decide), c1 74 (by decide) (by decide), b2 k, if_pos hk]
  have ep : ∀ k, σ3 15 k = σ3 77 k ∧ σ3 16 k = σ3 78 k := fun k => by
    rw [f 15 k (by unfold qS; omega) (by decide) (by decide), f 16 k (by unfold qS; omega) (by decide) (by decide), f 77 k (by unfold qS; omega) (by decide) (by decide), f 78 k (by unfold qS; omega) (by decide) (by decide), (c2 k).1, (c2 k).2, c1 15 (by decide) (by decide), c1 16 (by decide) (by decide), b1 15 (by decide), b1 16 (by decide), a1 15 (by decide), a1 16 (by decide), (h3 k).1, (h3 k).2, b1 77 (by decide), b1 78 (by decide), a1 77 (by decide), a1 78 (by decide), h2 77 (by decide) (by decide), h2 78 (by decide) (by decide), g1 15 k (by decide) (by decide) (by decide) (by decide), g1 16 k (by decide) (by decide) (by decide) (by decide), g1 77 k (by decide) (by decide) (by decide) (by decide), g1 78 k (by decide) (by decide) (by decide) (by decide), sx_z (r := 15) (by decide) (by decide) (by decide) (by decide) (by decide) (by decide), sx_z (r := 16) (by decide) (by decide) (by decide) (by decide) (by decide) (by decide), sx_z (r := 77) (by decide) (by decide) (by decide) (by decide) (by decide) (by decide), sx_z (r := 78) (by decide) (by decide) (by decide) (by decide) (by decide) (by decide)]
    exact ⟨rfl, rfl⟩
  have eO := sp_cl_uniq hcl box_cl
  have h00 : σ3 55 0 = nI 0 := s55 0 (by decide) (by decide) (by decide)
  refine ⟨⟨?_, ⟨0, by decide, h00⟩, ?_, ⟨2, by decide, s55 4 (by decide) (by decide) (by decide)⟩, ?_, ⟨0, by decide, s55 12 (by decide) (by decide) (by decide)⟩, s55 30 (by decide) (by decide) (by decide), z' 81 0 (by decide)⟩, ⟨fun d hd => ?_, fun d _ => Or.inl (z' 64 d (by omega))⟩, ⟨fun k => ?_, fun k => ?_, fun k => ?_, fun k => ?_, fun k => (ep k).1, fun k => (ep k).2⟩, ⟨fun d hd => ?_, ?_, ?_, ?_, fun k hk => ?_⟩, fun s hs => ⟨⟨⟨?_, ?_⟩, ?_, fun k hk => ?_⟩, ⟨fun d hd => ?_, fun d _ => Or.inl (z' 72 _ (by omega))⟩, fun c hc => ?_, ⟨⟨?_, ⟨0, by decide, z' 75 s (by omega)⟩, fun c hc => ?_⟩, fun _ => z' 66 s (by omega)⟩⟩⟩
  · rw [s0 12, s55 0 (by decide) (by decide) (by decide)]; rfl
  · rw [s0 13, s55 4 (by decide) (by decide) (by decide)]; rfl
  · rw [s0 15, s55 12 (by decide) (by decide) (by decide)]; rfl
  · rw [s0 14, z' 64 d (by omega), show sx_s0 0 14 = 0 from rfl, k_zero]; simp
  · rw [z' 10 k (by omega), z' 61 k (by omega), t0]; exact ⟨rfl, by decide, by decide⟩
  · rw [z' 11 k (by omega), z' 62 k (by omega), t0]; exact ⟨rfl, by decide, by decide⟩
  · rw [z' 12 k (by omega), z' 63 k (by omega), t0]; exact ⟨rfl, by decide, by decide⟩
  · rw [e13, e65]
    refine ⟨rfl, ?_⟩
    split
    · rw [t5]; omega
    · rw [t0]; omega
  · have q := eO d (by omega)
    rw [sp_jd hd, sp_jd hd] at q
    have q1 : (σ3 59 d).toInt = -600 := q.1
    have q2 : (σ3 60 d).toInt = 600 := q.2
    rw [f 2 d (by unfold qS; omega) (by decide) (by decide), f 3 d (by unfold qS; omega) (by decide) (by decide), gc 2 d (by decide) (by decide) (by decide) (by decide) (by decide) (by decide), gc 3 d (by decide) (by decide) (by decide) (by decide) (by decide) (by decide), (d1 d hd).1, (d1 d hd).2]
    exact ⟨ti_eq.mpr q1.symm, ti_eq.mpr q2.symm⟩
  · have q := (eO 20 (by decide)).1
    rw [sp_jr] at q
    have q1 : (σ3 59 20).toInt = -20 := q
    rw [f 1 2 (by unfold qS; omega) (by decide) (by decide), gc 1 2 (by decide) (by decide) (by decide) (by decide) (by decide) (by decide), d2.1]
    exact ti_eq.mpr q1.symm
  · have q := (eO 20 (by decide)).2
    rw [sp_jr] at q
    have q1 : (σ3 60 20).toInt = 20 := q
    rw [f 1 3 (by unfold qS; omega) (by decide) (by decide), gc 1 3 (by decide) (by decide) (by decide) (by decide) (by decide) (by decide), d2.2]
    exact ti_eq.mpr q1.symm
  · rw [h00, nv_nI (by decide)]
    refine sp_cl_congr (fun lo hi _ _ => ?_) hcl
    exact ⟨fun w => ⟨w.1, fun k hk => absurd hk (Nat.not_lt_zero k)⟩, fun w => ⟨w.1, fun k hk => absurd hk (Nat.not_lt_zero k)⟩⟩
  · rw [h00, nv_nI (by decide)] at hk
    exact absurd hk (Nat.not_lt_zero k)
  · unfold nts; rw [z' 66 s (by omega)]; decide
  · unfold nts; rw [z' 66 s (by omega)]; rfl
  · rw [z' 66 s (by omega)]; exact zs s 0 8 hs (by decide) (by decide)
  · unfold nts at hk
    rw [z' 66 s (by omega)] at hk
    have : nv 0 = 0 := rfl
    omega
  · have q := zs s 0 9 hs (by decide) (by decide)
    have q : σ3 (19 + 9 * s) 9 = 0 := q
    rw [q, z' 72 _ (by omega), k_zero]; simp
  · rw [zs s 6 c hs (by decide) (by decide), z' 73 _ (by omega), zf s c hs hc, e74 _ (by omega), t0]
    exact ⟨rfl, by decide, by decide, rfl, by decide, by decide⟩
  · have q := zs s 0 10 hs (by decide) (by decide)
    have q : σ3 (19 + 9 * s) 10 = 0 := q
    rw [q, z' 75 s (by omega)]
  · rw [zs s 8 c hs (by decide) (by decide), z' 76 _ (by omega), t0]
    exact ⟨rfl, by decide, by decide⟩
