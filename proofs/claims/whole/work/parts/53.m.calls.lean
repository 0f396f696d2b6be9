/-! GUARDS -/
theorem bbs {α β : Type} {v : β} {σ : bd_S} {k : β → bd_S → Option (α × bd_S)} : bd_b (some (v, σ)) k = k v σ := rfl
theorem wp_e {α β : Type} {x : Option (β × bd_S)} {v : β} {σ : bd_S} {k : β → bd_S → Option (α × bd_S)} {P : α → bd_S → Prop} (h : x = some (v, σ)) (hk : wp (k v σ) P) : wp (bd_b x k) P := by rw [h]; exact hk
theorem i_nI {x : Int32} {m : Nat} (h : 0 ≤ x.toInt ∧ x.toInt ≤ (m : Int)) (hm : m < 2000) : ∃ d : Nat, d ≤ m ∧ x = nI d := by
  refine ⟨x.toInt.toNat, by omega, ti_eq.mpr ?_⟩
  rw [ti_nI (by omega)]
  omega
theorem out_t {a b c : Int32} {σ : bd_S} (h : b.toInt ≤ a.toInt ∧ a.toInt ≤ c.toInt) : f_X2_outside a b c σ = some (0, σ) := by
  unfold f_X2_outside
  rw [if_neg (by rw [ti_lt]; omega), if_pos (by rw [ti_le]; omega)]
  rfl
theorem out_f {a b c : Int32} {σ : bd_S} (h : ¬ (b.toInt ≤ a.toInt ∧ a.toInt ≤ c.toInt)) : f_X2_outside a b c σ = some (1, σ) := by
  unfold f_X2_outside
  by_cases q : a < b
  · rw [if_pos q]; rfl
  · rw [if_neg q, if_neg (by rw [ti_lt] at q; rw [ti_le]; omega)]; rfl
theorem in_t {a b c : Int32} {σ : bd_S} (h : b.toInt ≤ a.toInt ∧ a.toInt ≤ c.toInt) : f_X3_in a b c σ = some (1, σ) := by
  unfold f_X3_in
  rw [if_neg (by rw [ti_lt]; omega), if_neg (by rw [ti_lt]; omega)]
  rfl
theorem in_f {a b c : Int32} {σ : bd_S} (h : ¬ (b.toInt ≤ a.toInt ∧ a.toInt ≤ c.toInt)) : f_X3_in a b c σ = some (0, σ) := by
  unfold f_X3_in
  by_cases q : a < b
  · rw [if_pos q]; rfl
  · rw [if_neg q, if_pos (by rw [ti_lt] at q; rw [ti_lt]; omega)]; rfl
theorem bey_t {a b : Int32} {σ : bd_S} (e : (-b).toInt = -b.toInt) (h : -b.toInt ≤ a.toInt ∧ a.toInt ≤ b.toInt) : f_X2_beyond a b σ = some (0, σ) := by
  unfold f_X2_beyond bd_lt
  dsimp only
  rw [if_neg (by rw [ti_lt]; omega), if_pos (by rw [ti_le]; omega)]
  rfl
theorem bey_f {a b : Int32} {σ : bd_S} (e : (-b).toInt = -b.toInt) (h : ¬ (-b.toInt ≤ a.toInt ∧ a.toInt ≤ b.toInt)) : f_X2_beyond a b σ = some (1, σ) := by
  unfold f_X2_beyond bd_lt
  dsimp only
  by_cases q : a < -b
  · rw [if_pos q]; rfl
  · rw [if_neg q, if_neg (by rw [ti_lt] at q; rw [ti_le]; omega)]; rfl
def okD (x : Int32) : Prop := 0 ≤ x.toInt ∧ x.toInt ≤ 19
def okE (x : Int32) : Prop := x = 0 ∨ x = 1
theorem okE.i {x : Int32} : okE x ↔ (0 ≤ x.toInt ∧ x.toInt ≤ 1) := by
  have e0 : (0 : Int32).toInt = 0 := rfl
  have e1 : (1 : Int32).toInt = 1 := rfl
  unfold okE
  rw [ti_eq, ti_eq, e0, e1]
  omega
theorem noDay_t {x : Int32} {σ : bd_S} (h : okD x) : f_X2_noDay x σ = some (0, σ) := by
  have e0 : (0 : Int32).toInt = 0 := rfl
  have e1 : (20 : Int32).toInt = 20 := rfl
  unfold okD at h
  unfold f_X2_noDay
  rw [if_neg (by rw [ti_lt]; omega), if_pos (by rw [ti_lt]; omega)]
  rfl
theorem noDay_f {x : Int32} {σ : bd_S} (h : ¬ okD x) : f_X2_noDay x σ = some (1, σ) := by
  have e0 : (0 : Int32).toInt = 0 := rfl
  have e1 : (20 : Int32).toInt = 20 := rfl
  unfold okD at h
  unfold f_X2_noDay
  by_cases q : x < 0
  · rw [if_pos q]; rfl
  · rw [if_neg q, if_neg (by rw [ti_lt] at q ⊢; omega)]; rfl
theorem isDay_t {x : Int32} {σ : bd_S} (h : okD x) : f_X3_isDay x σ = some (1, σ) := by
  unfold f_X3_isDay
  rw [in_t (b := 0) (c := 19) h]
  rfl
theorem isDay_f {x : Int32} {σ : bd_S} (h : ¬ okD x) : f_X3_isDay x σ = some (0, σ) := by
  unfold f_X3_isDay
  rw [in_f (b := 0) (c := 19) h]
  rfl
theorem noEnd_t {x : Int32} {σ : bd_S} (h : okE x) : f_X2_noEnd x σ = some (0, σ) := by
  unfold f_X2_noEnd
  rcases h with rfl | rfl <;> rfl
theorem noEnd_f {x : Int32} {σ : bd_S} (h : ¬ okE x) : f_X2_noEnd x σ = some (1, σ) := by
  unfold f_X2_noEnd
  rw [if_neg (fun q => h (Or.inl q)), if_neg (fun q => h (Or.inr q))]
  rfl
theorem isEnd_t {x : Int32} {σ : bd_S} (h : okE x) : f_X3_isEnd x σ = some (1, σ) := by
  unfold f_X3_isEnd
  rw [in_t (b := 0) (c := 1) (okE.i.mp h)]
  rfl
theorem isEnd_f {x : Int32} {σ : bd_S} (h : ¬ okE x) : f_X3_isEnd x σ = some (0, σ) := by
  unfold f_X3_isEnd
  rw [in_f (b := 0) (c := 1) (fun q => h (okE.i.mpr q))]
  rfl
def okS (nk : Nat) (x : Int32) : Prop := 0 ≤ x.toInt ∧ x.toInt < (nk : Int)
def okC (x : Int32) : Prop := 0 ≤ x.toInt ∧ x.toInt ≤ 2
/-- the ships, in both -/
def hS (σ : bd_S) (nk : Nat) : Prop := nk ≤ 4 ∧ σ 0 15 = nI nk ∧ σ 55 12 = nI nk
theorem Inv.hS {σ : bd_S} (h : Inv σ) : ∃ nk, hS σ nk := by
  obtain ⟨n, q1, q2⟩ := h.1.2.2.2.2.2.1
  exact ⟨n, q1, h.1.2.2.2.2.1.trans q2, q2⟩
theorem hS.u {σ σ' : bd_S} {nk : Nat} (h : hS σ nk) (hU : qU σ σ') : hS σ' nk := ⟨h.1, (hU 0 15 (by unfold qS; omega)).trans h.2.1, (hU 55 12 (by unfold qS; omega)).trans h.2.2⟩
theorem noShip_t {σ : bd_S} {nk : Nat} {x : Int32} (hS : hS σ nk) (h : okS nk x) : f_X2_noShip x σ = some (0, σ) := by
  have e0 : (0 : Int32).toInt = 0 := rfl
  unfold okS at h
  have := hS.1
  unfold f_X2_noShip bd_lt
  dsimp only
  rw [hS.2.1, if_neg (by rw [ti_lt]; omega), if_pos (by rw [ti_lt, ti_nI (by omega)]; omega)]
  rfl
theorem noShip_f {σ : bd_S} {nk : Nat} {x : Int32} (hS : hS σ nk) (h : ¬ okS nk x) : f_X2_noShip x σ = some (1, σ) := by
  have e0 : (0 : Int32).toInt = 0 := rfl
  unfold okS at h
  have := hS.1
  unfold f_X2_noShip bd_lt
  dsimp only
  by_cases q : x < 0
  · rw [if_pos q]; rfl
  · rw [if_neg q, hS.2.1, if_neg (by rw [ti_lt] at q; rw [ti_lt, ti_nI (by omega)]; omega)]; rfl
theorem nk_1 {nk : Nat} (h : nk ≤ 4) : (nI nk - 1).toInt = (nk : Int) - 1 := by
  have e1 : (1 : Int32).toInt = 1 := rfl
  rw [fb_subI, ti_nI (by omega), e1] <;> rw [ti_nI (by omega), e1] <;> omega
theorem isShip_t {σ : bd_S} {nk : Nat} {x : Int32} (hS : hS σ nk) (h : okS nk x) : f_X3_isShip x σ = some (1, σ) := by
  unfold okS at h
  have e := nk_1 hS.1
  have e0 : (0 : Int32).toInt = 0 := rfl
  unfold f_X3_isShip bd_lt
  dsimp only
  rw [hS.2.2, in_t (by rw [e]; omega)]
  rfl
theorem isShip_f {σ : bd_S} {nk : Nat} {x : Int32} (hS : hS σ nk) (h : ¬ okS nk x) : f_X3_isShip x σ = some (0, σ) := by
  unfold okS at h
  have e := nk_1 hS.1
  have e0 : (0 : Int32).toInt = 0 := rfl
  unfold f_X3_isShip bd_lt
  dsimp only
  rw [hS.2.2, in_f (by rw [e]; omega)]
  rfl
theorem isClock_t {σ : bd_S} {x : Int32} (h : okC x) : f_X3_isClock x σ = some (1, σ) := by
  unfold f_X3_isClock
  rw [in_t (b := 0) (c := 2) h]
  rfl
theorem isClock_f {σ : bd_S} {x : Int32} (h : ¬ okC x) : f_X3_isClock x σ = some (0, σ) := by
  unfold f_X3_isClock
  rw [in_f (b := 0) (c := 2) h]
  rfl
theorem noClock_t {σ : bd_S} {nk : Nat} {x c : Int32} (hS : hS σ nk) (h : okS nk x) (hc : okC c) : f_X2_noClock x c σ = some (0, σ) := by
  have e0 : (0 : Int32).toInt = 0 := rfl
  have e3 : (3 : Int32).toInt = 3 := rfl
  unfold okC at hc
  unfold f_X2_noClock
  rw [noShip_t hS h, bbs]
  rw [if_pos rfl, if_neg (by rw [ti_lt]; omega), if_pos (by rw [ti_lt]; omega)]
  rfl
theorem noClock_f {σ : bd_S} {nk : Nat} {x c : Int32} (hS : hS σ nk) (h : ¬ (okS nk x ∧ okC c)) : f_X2_noClock x c σ = some (1, σ) := by
  have e0 : (0 : Int32).toInt = 0 := rfl
  have e3 : (3 : Int32).toInt = 3 := rfl
  unfold f_X2_noClock
  by_cases hs : okS nk x
  · have hc : ¬ okC c := fun z => h ⟨hs, z⟩
    unfold okC at hc
    rw [noShip_t hS hs, bbs]
    rw [if_pos rfl]
    by_cases q : c < 0
    · rw [if_pos q]; rfl
    · rw [if_neg q, if_neg (by rw [ti_lt] at q ⊢; omega)]; rfl
  · rw [noShip_f hS hs]; rfl
theorem isOne_t {σ : bd_S} {nk : Nat} {x c d : Int32} (hS : hS σ nk) (h : okS nk x ∧ okC c) (hd : okD d) : f_X3_isOne x c d σ = some (1, σ) := by
  unfold f_X3_isOne
  rw [isShip_t hS h.1, bbs]
  rw [if_neg (by decide), isClock_t h.2, bbs]
  rw [if_neg (by decide), isDay_t hd]
  rfl
theorem isOne_f {σ : bd_S} {nk : Nat} {x c d : Int32} (hS : hS σ nk) (h : ¬ ((okS nk x ∧ okC c) ∧ okD d)) : f_X3_isOne x c d σ = some (0, σ) := by
  unfold f_X3_isOne
  by_cases hs : okS nk x
  · rw [isShip_t hS hs, bbs]
    rw [if_neg (by decide)]
    by_cases hc : okC c
    · rw [isClock_t hc, bbs]
      rw [if_neg (by decide), isDay_f (fun z => h ⟨⟨hs, hc⟩, z⟩)]
      rfl
    · rw [isClock_f hc]; rfl
  · rw [isShip_f hS hs]; rfl
theorem okD.n {x : Int32} (h : okD x) : ∃ d, d < 20 ∧ x = nI d := by
  obtain ⟨d, q1, q2⟩ := i_nI (m := 19) h (by decide)
  exact ⟨d, by omega, q2⟩
theorem okC.n {x : Int32} (h : okC x) : ∃ d, d < 3 ∧ x = nI d := by
  obtain ⟨d, q1, q2⟩ := i_nI (m := 2) h (by decide)
  exact ⟨d, by omega, q2⟩
theorem okS.n {x : Int32} {nk : Nat} (h : okS nk x) (hn : nk ≤ 4) : ∃ d, d < nk ∧ x = nI d := by
  unfold okS at h
  obtain ⟨d, q1, q2⟩ := i_nI (x := x) (m := nk - 1) (by omega) (by omega)
  exact ⟨d, by omega, q2⟩
/-! THE CALLS, in pairs -/
def Pr {α : Type} (f g : bd_S → Option (α × bd_S)) (σ : bd_S) : Prop := wp (f σ) (fun r σ1 => wp (g σ1) (fun r' σ2 => r' = r ∧ Inv σ2))
theorem p_off {σ : bd_S} (hI : Inv σ) (x y : Int32) : Pr (f_X2_off x y) (f_X3_off x y) σ := by
  unfold Pr f_X2_off f_X3_off
  by_cases h : okD x
  · refine wp_e (noDay_t h) (wp_ift rfl ?_)
    by_cases g : okE y
    · obtain ⟨d, hd, rfl⟩ := h.n
      have e := hI.2.2.2.1.1 d hd
      refine wp_e (noEnd_t g) (wp_ift rfl (wp_if (fun h0 => ?_) (fun h0 => ?_)))
      · exact wp_rd d rfl hd (by decide) (wp_some (wp_e (isDay_t h) (wp_iff (by decide) (wp_e (isEnd_t g) (wp_iff (by decide) (wp_ift h0 (wp_rd d rfl (by omega) (by decide) (wp_some ⟨e.1.symm, hI⟩))))))))
      · exact wp_rd d rfl hd (by decide) (wp_some (wp_e (isDay_t h) (wp_iff (by decide) (wp_e (isEnd_t g) (wp_iff (by decide) (wp_iff h0 (wp_rd d rfl (by omega) (by decide) (wp_some ⟨e.2.symm, hI⟩))))))))
    · exact wp_e (noEnd_f g) (wp_iff (by decide) (wp_some (wp_e (isDay_t h) (wp_iff (by decide) (wp_e (isEnd_f g) (wp_ift rfl (wp_some ⟨rfl, hI⟩)))))))
  · exact wp_e (noDay_f h) (wp_iff (by decide) (wp_some (wp_e (isDay_f h) (wp_ift rfl (wp_some ⟨rfl, hI⟩)))))
theorem p_rate {σ : bd_S} (hI : Inv σ) (y : Int32) : Pr (f_X2_rate y) (f_X3_rate y) σ := by
  unfold Pr f_X2_rate f_X3_rate
  by_cases g : okE y
  · refine wp_e (noEnd_t g) (wp_ift rfl (wp_if (fun h0 => ?_) (fun h0 => ?_)))
    · exact wp_lt (wp_some (wp_e (isEnd_t g) (wp_iff (by decide) (wp_ift h0 (wp_rd 20 rfl (by decide) (by decide) (wp_some ⟨hI.2.2.2.1.2.1.symm, hI⟩))))))
    · exact wp_lt (wp_some (wp_e (isEnd_t g) (wp_iff (by decide) (wp_iff h0 (wp_rd 20 rfl (by decide) (by decide) (wp_some ⟨hI.2.2.2.1.2.2.1.symm, hI⟩))))))
  · exact wp_e (noEnd_f g) (wp_iff (by decide) (wp_some (wp_e (isEnd_f g) (wp_ift rfl (wp_some ⟨rfl, hI⟩)))))
theorem p_late {σ : bd_S} (hI : Inv σ) (x y : Int32) : Pr (f_X2_late x y) (f_X3_late x y) σ := by
  unfold Pr f_X2_late f_X3_late
  have hL := hI.qL
  have hC := hI.qC (qU.rf (σ := σ)).v
  by_cases h : okD x
  · refine wp_e (noDay_t h) (wp_ift rfl ?_)
    by_cases g : okE y
    · obtain ⟨d, hd, rfl⟩ := h.n
      have hb : -180 ≤ s63 σ d ∧ s63 σ d ≤ 180 := by have := s63_bd hI d; omega
      refine wp_e (noEnd_t g) (wp_ift rfl (wp_if (fun h0 => ?_) (fun h0 => ?_)))
      · refine wp_c (s_leastLate hd hL hC) (fun r σ' q => wp_some ?_)
        obtain ⟨rfl, q⟩ := q
        refine wp_e (isDay_t h) (wp_iff (by decide) (wp_e (isEnd_t g) (wp_iff (by decide) (wp_c (s_lateOf (sl := s63 σ') hd hL qU.rf.r rfl hb) (fun r' σ2 q' => wp_some ?_)))))
        obtain ⟨rfl, q'⟩ := q'
        rw [if_pos h0] at q'
        exact ⟨ti_eq.mpr (q'.trans q.symm), hI⟩
      · refine wp_c (s_greatestLate hd hL hC) (fun r σ' q => wp_some ?_)
        obtain ⟨rfl, q⟩ := q
        refine wp_e (isDay_t h) (wp_iff (by decide) (wp_e (isEnd_t g) (wp_iff (by decide) (wp_c (s_lateOf (sl := s63 σ') hd hL qU.rf.r rfl hb) (fun r' σ2 q' => wp_some ?_)))))
        obtain ⟨rfl, q'⟩ := q'
        rw [if_neg h0] at q'
        exact ⟨ti_eq.mpr (q'.trans q.symm), hI⟩
    · exact wp_e (noEnd_f g) (wp_iff (by decide) (wp_some (wp_e (isDay_t h) (wp_iff (by decide) (wp_e (isEnd_f g) (wp_ift rfl (wp_some ⟨rfl, hI⟩)))))))
  · exact wp_e (noDay_f h) (wp_iff (by decide) (wp_some (wp_e (isDay_f h) (wp_ift rfl (wp_some ⟨rfl, hI⟩)))))
theorem p_port {σ : bd_S} (hI : Inv σ) (x y : Int32) : Pr (f_X2_port x y) (f_X3_port x y) σ := by
  unfold Pr f_X2_port f_X3_port
  by_cases h : (0 : Int32).toInt ≤ x.toInt ∧ x.toInt ≤ (3 : Int32).toInt
  · refine wp_e (out_t h) (wp_ift rfl ?_)
    by_cases g : okE y
    · obtain ⟨d, hd, rfl⟩ := i_nI (m := 3) h (by decide)
      have e1 := hI.2.2.1.2.2.2.2.1 d
      have e2 := hI.2.2.1.2.2.2.2.2 d
      refine wp_e (noEnd_t g) (wp_ift rfl (wp_if (fun h0 => ?_) (fun h0 => ?_)))
      · exact wp_rd d rfl (by omega) (by decide) (wp_some (wp_e (in_t h) (wp_iff (by decide) (wp_e (isEnd_t g) (wp_iff (by decide) (wp_ift h0 (wp_rd d rfl (by omega) (by decide) (wp_some ⟨e1.symm, hI⟩))))))))
      · exact wp_rd d rfl (by omega) (by decide) (wp_some (wp_e (in_t h) (wp_iff (by decide) (wp_e (isEnd_t g) (wp_iff (by decide) (wp_iff h0 (wp_rd d rfl (by omega) (by decide) (wp_some ⟨e2.symm, hI⟩))))))))
    · exact wp_e (noEnd_f g) (wp_iff (by decide) (wp_some (wp_e (in_t h) (wp_iff (by decide) (wp_e (isEnd_f g) (wp_ift rfl (wp_some ⟨rfl, hI⟩)))))))
  · exact wp_e (out_f h) (wp_iff (by decide) (wp_some (wp_e (in_f h) (wp_ift rfl (wp_some ⟨rfl, hI⟩)))))
