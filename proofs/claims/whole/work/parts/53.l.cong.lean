/-! what each part of the invariant reads -/
theorem IA.cg {σ σ' : bd_S} (h : IA σ) (e : ∀ r k, (r = 0 ∧ (k = 12 ∨ k = 13 ∨ k = 15)) ∨ (r = 55 ∧ (k = 0 ∨ k = 4 ∨ k = 12 ∨ k = 30)) ∨ (r = 81 ∧ k = 0) → σ' r k = σ r k) : IA σ' := by
  unfold IA
  rw [e 0 12 (by decide), e 0 13 (by decide), e 0 15 (by decide), e 55 0 (by decide), e 55 4 (by decide), e 55 12 (by decide), e 55 30 (by decide), e 81 0 (by decide)]
  exact h
theorem IB.cg {σ σ' : bd_S} (h : IB σ) (e : ∀ r k, (r = 0 ∧ k = 14) ∨ r = 64 → σ' r k = σ r k) : IB σ' := by
  have e64 : σ' 64 = σ 64 := funext fun k => e 64 k (by omega)
  unfold IB
  rw [e 0 14 (by decide), e64]
  exact h
theorem IC.cg {σ σ' : bd_S} (h : IC σ) (e : ∀ r k, (10 ≤ r ∧ r ≤ 13) ∨ r = 15 ∨ r = 16 ∨ r = 61 ∨ r = 62 ∨ r = 63 ∨ r = 65 ∨ r = 77 ∨ r = 78 → σ' r k = σ r k) : IC σ' := by
  have f : ∀ r, (10 ≤ r ∧ r ≤ 13) ∨ r = 15 ∨ r = 16 ∨ r = 61 ∨ r = 62 ∨ r = 63 ∨ r = 65 ∨ r = 77 ∨ r = 78 → σ' r = σ r := fun r q => funext fun k => e r k q
  unfold IC
  rw [f 10 (by decide), f 11 (by decide), f 12 (by decide), f 13 (by decide), f 15 (by decide), f 16 (by decide), f 61 (by decide), f 62 (by decide), f 63 (by decide), f 65 (by decide), f 77 (by decide), f 78 (by decide)]
  exact h
theorem ID.cg {σ σ' : bd_S} (h : ID σ) (e : ∀ r k, (r = 1 ∧ (k = 2 ∨ k = 3)) ∨ r = 2 ∨ r = 3 ∨ (56 ≤ r ∧ r ≤ 60) ∨ (r = 55 ∧ k = 0) → σ' r k = σ r k) : ID σ' := by
  have f : ∀ r, r = 2 ∨ r = 3 ∨ (56 ≤ r ∧ r ≤ 60) → σ' r = σ r := fun r q => funext fun k => e r k (by omega)
  unfold ID AdO
  simp only [f 2 (by decide), f 3 (by decide), f 56 (by decide), f 57 (by decide), f 58 (by decide), f 59 (by decide), f 60 (by decide), e 1 2 (by decide), e 1 3 (by decide), e 55 0 (by decide)]
  exact h
theorem IE.cg {σ σ' : bd_S} {s : Nat} (h : IE σ s) (e : ∀ r k, (r = 66 ∧ k = s) ∨ (67 ≤ r ∧ r ≤ 71 ∧ 12 * s ≤ k ∧ k < 12 * s + 12) ∨ (r = 19 + 9 * s ∧ k = 8) ∨ (19 + 9 * s + 1 ≤ r ∧ r ≤ 19 + 9 * s + 5) → σ' r k = σ r k) : IE σ' s := by
  have e66 := e 66 s (by omega)
  have en : nts σ' s = nts σ s := by unfold nts; rw [e66]
  obtain ⟨h1, h2, h3⟩ := h
  unfold IE
  rw [en, e66, e (19 + 9 * s) 8 (by omega)]
  refine ⟨h1, h2, fun k hk => ?_⟩
  have z := h3 k hk
  unfold NR dy ltN snN at z ⊢
  simp only [e 67 (12 * s + k) (by omega), e 68 (12 * s + k) (by omega), e 69 (12 * s + k) (by omega), e 70 (12 * s + k) (by omega), e 71 (12 * s + k) (by omega), e (19 + 9 * s + 1) k (by omega), e (19 + 9 * s + 2) k (by omega), e (19 + 9 * s + 3) k (by omega), e (19 + 9 * s + 4) k (by omega), e (19 + 9 * s + 5) k (by omega)]
  exact z
theorem IF.cg {σ σ' : bd_S} {s : Nat} (h : IF σ s) (e : ∀ r k, (r = 72 ∧ 20 * s ≤ k ∧ k < 20 * s + 20) ∨ (r = 19 + 9 * s ∧ k = 9) → σ' r k = σ r k) : IF σ' s := by
  refine ⟨fun d hd => ?_, fun d hd => ?_⟩
  · rw [e (19 + 9 * s) 9 (by omega), h.1 d hd]
    by_cases q : d < 20
    · rw [e 72 (20 * s + d) (by omega)]
    · simp [q]
  · rw [e 72 (20 * s + d) (by omega)]
    exact h.2 d hd
theorem IG.cg {σ σ' : bd_S} {s : Nat} (h : IG σ s) (e : ∀ r k, ((r = 73 ∨ r = 74) ∧ 3 * s ≤ k ∧ k < 3 * s + 3) ∨ r = 19 + 9 * s + 6 ∨ r = 19 + 9 * s + 7 → σ' r k = σ r k) : IG σ' s := fun c hc => by
  rw [e 73 (3 * s + c) (by omega), e 74 (3 * s + c) (by omega), e (19 + 9 * s + 6) c (by omega), e (19 + 9 * s + 7) c (by omega)]
  exact h c hc
theorem IH0.cg {σ σ' : bd_S} {s : Nat} (h : IH0 σ s) (e : ∀ r k, (r = 76 ∧ 3 * s ≤ k ∧ k < 3 * s + 3) ∨ (r = 75 ∧ k = s) ∨ r = 19 + 9 * s + 8 ∨ (r = 19 + 9 * s ∧ k = 10) → σ' r k = σ r k) : IH0 σ' s := by
  obtain ⟨h1, h2, h3⟩ := h
  unfold IH0
  rw [e (19 + 9 * s) 10 (by omega), e 75 s (by omega)]
  refine ⟨h1, h2, fun c hc => ?_⟩
  rw [e 76 (3 * s + c) (by omega), e (19 + 9 * s + 8) c (by omega)]
  exact h3 c hc
theorem IH.cg {σ σ' : bd_S} {s : Nat} (h : IH σ s) (e : ∀ r k, (r = 76 ∧ 3 * s ≤ k ∧ k < 3 * s + 3) ∨ (r = 75 ∧ k = s) ∨ r = 19 + 9 * s + 8 ∨ (r = 19 + 9 * s ∧ k = 10) ∨ (r = 66 ∧ k = s) ∨ (r = 55 ∧ k = 12) → σ' r k = σ r k) : IH σ' s := by
  refine ⟨h.1.cg (fun r k q => e r k (by omega)), ?_⟩
  unfold IJ
  rw [e 66 s (by omega), e 55 12 (by omega)]
  exact h.2
theorem Inv.u {σ σ' : bd_S} (h : Inv σ) (hU : qU σ σ') : Inv σ' := by
  obtain ⟨h1, h2, h3, h4, h5⟩ := h
  refine ⟨h1.cg (fun r k q => hU r k (by unfold qS; omega)), h2.cg (fun r k q => hU r k (by unfold qS; omega)), h3.cg (fun r k q => hU r k (by unfold qS; omega)), h4.cg (fun r k q => hU r k (by unfold qS; omega)), fun s hs => ?_⟩
  obtain ⟨e1, e2, e3, e4⟩ := h5 s hs
  exact ⟨e1.cg (fun r k q => hU r k (by unfold qS; omega)), e2.cg (fun r k q => hU r k (by unfold qS; omega)), e3.cg (fun r k q => hU r k (by unfold qS; omega)), e4.cg (fun r k q => hU r k (by unfold qS; omega))⟩
theorem Inv.qL {σ : bd_S} (h : Inv σ) : qL σ := by
  obtain ⟨-, -, h3, h4, -⟩ := h
  refine ⟨fun d hd => ?_, fun k => (h3.1 k).2, fun k => (h3.2.1 k).2⟩
  have q1 := h4.2.2.2.1.1.1 d (by omega)
  have q2 := h4.2.2.2.1.2.2.1 d (by omega)
  rw [sp_jd hd, sp_jd hd] at q1
  have q1 : -600 ≤ (σ 59 d).toInt ∧ (σ 60 d).toInt ≤ 600 := q1
  have q2 : (σ 59 d).toInt ≤ (σ 60 d).toInt := q2
  omega
theorem Inv.qI {σ : bd_S} {s c : Nat} (h : Inv σ) (hs : s < 4) (hc : c < 3) : qI σ s c := by
  have hL := h.qL
  obtain ⟨h1, -, h3, -, h5⟩ := h
  obtain ⟨e1, -, e3, -⟩ := h5 s hs
  exact ⟨⟨hs, hc⟩, hL, e1.1, fun k hk => (e1.2.2 k hk).n, ⟨(e3 c hc).2.1, (e3 c hc).2.2.1⟩, fun k => (h3.2.2.2.1 k).2, h1.2.2.2.2.2.2.2⟩
theorem Inv.qC {σ σ' : bd_S} (h : Inv σ) (hV : qV σ σ') : qC σ σ' := qC.of h.2.2.1 h.2.2.2.1 hV
/-! learning, as an answer -/
def gone (σ : bd_S) (s c w : Nat) (sl : Nat → Int) : Prop := sp_no (gq σ s c) (Adm0 σ s c w sl)
theorem lo_ex (σ : bd_S) (s c w : Nat) (sl : Nat → Int) : ∃ p : (Nat → Int) × (Nat → Int), ∀ lo hi, sp_cl (gq σ s c) (Adm0 σ s c w sl) lo hi → ∀ k, k ≤ 20 → lo k = p.1 k ∧ hi k = p.2 k := by
  by_cases h : ∃ p : (Nat → Int) × (Nat → Int), sp_cl (gq σ s c) (Adm0 σ s c w sl) p.1 p.2
  · obtain ⟨p, hp⟩ := h
    exact ⟨p, fun lo hi z => sp_cl_uniq z hp⟩
  · exact ⟨(fun _ => 0, fun _ => 0), fun lo hi z => absurd ⟨(lo, hi), z⟩ h⟩
noncomputable def Lo (σ : bd_S) (s c w : Nat) (sl : Nat → Int) : Nat → Int := (Classical.choose (lo_ex σ s c w sl)).1
noncomputable def Hi (σ : bd_S) (s c w : Nat) (sl : Nat → Int) : Nat → Int := (Classical.choose (lo_ex σ s c w sl)).2
/-- what learning answers, told once and for all -/
def LA (σ0 : bd_S) (s c w : Nat) (sl : Nat → Int) (r : Int32) (lo hi : Nat → Int) : Prop := (r = 1 ∧ ¬ gone σ0 s c w sl ∧ ∀ k, k ≤ 20 → (lo k = Lo σ0 s c w sl k ∧ hi k = Hi σ0 s c w sl k) ∧ (-99999 ≤ lo k ∧ lo k ≤ hi k ∧ hi k ≤ 99999)) ∨ (r = 0 ∧ gone σ0 s c w sl)
theorem LR.a {σ0 : bd_S} {s c w : Nat} {sl : Nat → Int} {r : Int32} {lo hi : Nat → Int} (h : LR σ0 s c w sl r lo hi) : LA σ0 s c w sl r lo hi := by
  rcases h with ⟨q1, q2⟩ | h
  · refine Or.inl ⟨q1, fun z => sp_cl_no q2 z, fun k hk => ⟨Classical.choose_spec (lo_ex σ0 s c w sl) lo hi q2 k hk, ?_⟩⟩
    have z1 := q2.1.1 k hk
    have z2 := q2.2.2.1 k hk
    by_cases e : k = 20
    · subst e
      rw [sp_jr, sp_jr] at z1
      omega
    · rw [sp_jd (by omega), sp_jd (by omega)] at z1
      omega
  · exact Or.inr h
theorem m1_nI {d : Nat} (hd : d < 20) : nI d = -1 ↔ d = 99 := by
  constructor
  · intro h
    have := ti_eq.mp h
    rw [ti_nI (by omega)] at this
    have e : (-1 : Int32).toInt = -1 := rfl
    omega
  · intro h; omega
theorem m6_nI {d : Nat} (hd : d < 20) : nI d = -6 ↔ d = 99 := by
  constructor
  · intro h
    have := ti_eq.mp h
    rw [ti_nI (by omega)] at this
    have e : (-6 : Int32).toInt = -6 := rfl
    omega
  · intro h; omega
theorem s63_bd {σ : bd_S} (h : Inv σ) (d : Nat) : -60 ≤ s63 σ d ∧ s63 σ d ≤ 60 := (h.2.2.1.2.2.1 d).2
theorem s_learn {σ0 σ : bd_S} {s c : Nat} (hI : Inv σ0) (hU : qU σ0 σ) (hs : s < 4) (hc : c < 3) : wp (f_X2_learn (19 + 9 * s) (nI c) σ) (fun r σ' => qU σ0 σ' ∧ LA σ0 s c 99 (s63 σ0) r (spl σ' 7) (sph σ' 7)) := by
  obtain ⟨e1, e2, e3, -⟩ := hI.2.2.2.2 s hs
  unfold f_X2_learn
  refine wp_c (s_learnBut (σ0 := σ0) (w := 99) (sl := s63 σ0) hs hc e1 hI.2.1 e2 e3 hI.qL (hI.qC hU.v) (fun k => (hI.2.2.1.2.2.2.1 k).2) hU.v (fun d hd => m1_nI hd) (fun d hd => ?_) (by decide)) (fun r σ' h => wp_zr ?_ ⟨hU.tr (h.1.u (Or.inr rfl)), h.2.a⟩)
  · rw [if_neg (fun q => by have := (m1_nI hd).mp q; omega)]
    omega
  · rcases h.2 with ⟨q, -⟩ | ⟨q, -⟩
    · exact Or.inr q
    · exact Or.inl q
theorem s_layU {σ0 σ : bd_S} {s c : Nat} (hI : Inv σ0) (hU : qU σ0 σ) (hs : s < 4) (hc : c < 3) : wp (f_X3_lay (nI s) (nI c) σ) (fun r σ' => qU σ0 σ' ∧ LA σ0 s c 99 (s63 σ0) r (cl σ') (ch σ')) := by
  refine wp_mono (s_lay (w := 99) (sl := s63 σ0) (hI.qI hs hc) hU.r (fun d hd => ?_) (fun d hd => ?_) (fun d hd => ?_)) (fun r σ' h => ⟨hU.tr h.1, h.2.a⟩)
  · rw [hU 55 30 (by unfold qS; omega), hI.1.2.2.2.2.2.2.1]
    exact m6_nI hd
  · rw [hU 63 d (by unfold qS; omega)]
    rfl
  · have := s63_bd hI d
    omega
