/-! facts of the tables, each by its place; lemmas of the roles -/
def FU_ : Nat := 10000000
theorem bd_kL0 {r : Nat} (h : bd_isL r) : bd_kd r = (0, 0) := by rcases h with rfl | rfl | rfl <;> rfl
theorem bd_kL1 {r : Nat} (h : bd_isL r) : bd_kd (r + 1) = (4, 20) := by rcases h with rfl | rfl | rfl <;> rfl
theorem bd_kL2 {r : Nat} (h : bd_isL r) : bd_kd (r + 2) = (4, 20) := by rcases h with rfl | rfl | rfl <;> rfl
theorem bd_kS0 {r : Nat} (h : bd_isS r) : bd_kd r = (1, 0) := by rcases h with rfl | rfl | rfl | rfl <;> rfl
theorem bd_kS1 {r : Nat} (h : bd_isS r) : bd_kd (r + 1) = (4, 12) := by rcases h with rfl | rfl | rfl | rfl <;> rfl
theorem bd_kS2 {r : Nat} (h : bd_isS r) : bd_kd (r + 2) = (4, 12) := by rcases h with rfl | rfl | rfl | rfl <;> rfl
theorem bd_kS3 {r : Nat} (h : bd_isS r) : bd_kd (r + 3) = (5, 12) := by rcases h with rfl | rfl | rfl | rfl <;> rfl
theorem bd_kS4 {r : Nat} (h : bd_isS r) : bd_kd (r + 4) = (4, 12) := by rcases h with rfl | rfl | rfl | rfl <;> rfl
theorem bd_kS5 {r : Nat} (h : bd_isS r) : bd_kd (r + 5) = (4, 12) := by rcases h with rfl | rfl | rfl | rfl <;> rfl
theorem bd_kS6 {r : Nat} (h : bd_isS r) : bd_kd (r + 6) = (4, 3) := by rcases h with rfl | rfl | rfl | rfl <;> rfl
theorem bd_kS7 {r : Nat} (h : bd_isS r) : bd_kd (r + 7) = (4, 3) := by rcases h with rfl | rfl | rfl | rfl <;> rfl
theorem bd_kS8 {r : Nat} (h : bd_isS r) : bd_kd (r + 8) = (4, 3) := by rcases h with rfl | rfl | rfl | rfl <;> rfl
theorem bd_bL0 {r n : Nat} (h : bd_isL r) (hn : 10 ≤ n) : r < n := by unfold bd_isL at h; omega
theorem bd_bL1 {r n : Nat} (h : bd_isL r) (hn : 10 ≤ n) : r + 1 < n := by unfold bd_isL at h; omega
theorem bd_bL2 {r n : Nat} (h : bd_isL r) (hn : 10 ≤ n) : r + 2 < n := by unfold bd_isL at h; omega
theorem bd_bS0 {r n : Nat} (h : bd_isS r) (hn : 55 ≤ n) : r < n := by unfold bd_isS at h; omega
theorem bd_bS1 {r n : Nat} (h : bd_isS r) (hn : 55 ≤ n) : r + 1 < n := by unfold bd_isS at h; omega
theorem bd_bS2 {r n : Nat} (h : bd_isS r) (hn : 55 ≤ n) : r + 2 < n := by unfold bd_isS at h; omega
theorem bd_bS3 {r n : Nat} (h : bd_isS r) (hn : 55 ≤ n) : r + 3 < n := by unfold bd_isS at h; omega
theorem bd_bS4 {r n : Nat} (h : bd_isS r) (hn : 55 ≤ n) : r + 4 < n := by unfold bd_isS at h; omega
theorem bd_bS5 {r n : Nat} (h : bd_isS r) (hn : 55 ≤ n) : r + 5 < n := by unfold bd_isS at h; omega
theorem bd_bS6 {r n : Nat} (h : bd_isS r) (hn : 55 ≤ n) : r + 6 < n := by unfold bd_isS at h; omega
theorem bd_bS7 {r n : Nat} (h : bd_isS r) (hn : 55 ≤ n) : r + 7 < n := by unfold bd_isS at h; omega
theorem bd_bS8 {r n : Nat} (h : bd_isS r) (hn : 55 ≤ n) : r + 8 < n := by unfold bd_isS at h; omega
theorem bd_c1 : bd_isL 1 := by unfold bd_isL; omega
theorem bd_c4 : bd_isL 4 := by unfold bd_isL; omega
theorem bd_c7 : bd_isL 7 := by unfold bd_isL; omega
theorem bd_c19 : bd_isS 19 := by unfold bd_isS; omega
theorem bd_c28 : bd_isS 28 := by unfold bd_isS; omega
theorem bd_c37 : bd_isS 37 := by unfold bd_isS; omega
theorem bd_c46 : bd_isS 46 := by unfold bd_isS; omega
theorem inX0a : ∀ w ∈ wsX00, w ∈ lw_tbl := by decide +kernel
theorem inX0b : ∀ w ∈ wsX00, goodWord w = true := by decide +kernel
theorem inX0 : ∀ w ∈ u_ws RX0 TX0 4, bd_in w := fun w h => ⟨inX0a w h, inX0b w h⟩
theorem inX1a : ∀ w ∈ wsX10, w ∈ lw_tbl := by decide +kernel
theorem inX1b : ∀ w ∈ wsX10, goodWord w = true := by decide +kernel
theorem inX1 : ∀ w ∈ u_ws RX1 TX1 11, bd_in w := fun w h => ⟨inX1a w h, inX1b w h⟩
theorem inX2a : ∀ w ∈ wsX20, w ∈ lw_tbl := by decide +kernel
theorem inX2b : ∀ w ∈ wsX20, goodWord w = true := by decide +kernel
theorem inX2 : ∀ w ∈ u_ws RX2 TX2 16, bd_in w := fun w h => ⟨inX2a w h, inX2b w h⟩
theorem inX3a : ∀ w ∈ wsX30, w ∈ lw_tbl := by decide +kernel
theorem inX3b : ∀ w ∈ wsX30, goodWord w = true := by decide +kernel
theorem inX3 : ∀ w ∈ u_ws RX3 TX3 36, bd_in w := fun w h => ⟨inX3a w h, inX3b w h⟩
theorem ac_nat : bd_in (.native arraycopyName) := ⟨List.mem_of_getElem? (i := 210) (by decide +kernel), by decide +kernel⟩
theorem ac_sta : bd_in (.static arraycopyName) := ⟨List.mem_of_getElem? (i := 209) (by decide +kernel), by decide +kernel⟩
theorem ac_ini : bd_in (.initialized "java/lang/System") := ⟨List.mem_of_getElem? (i := 53) (by decide +kernel), by decide +kernel⟩
theorem bd_swd8 {x : Int32} (h0 : ¬ x = 0) (h1 : ¬ x = 1) (h2 : ¬ x = 2) (h3 : ¬ x = 3) (h4 : ¬ x = 4) (h5 : ¬ x = 5) (h6 : ¬ x = 6) (h7 : ¬ x = 7) : x.toInt < 0 ∨ 7 < x.toInt := by
  have key : ∀ c : Int32, ¬ x = c → x.toInt ≠ c.toInt := fun c h q => h (Int32.toInt_inj.mp q)
  have e0 : x.toInt ≠ 0 := key 0 h0
  have e1 : x.toInt ≠ 1 := key 1 h1
  have e2 : x.toInt ≠ 2 := key 2 h2
  have e3 : x.toInt ≠ 3 := key 3 h3
  have e4 : x.toInt ≠ 4 := key 4 h4
  have e5 : x.toInt ≠ 5 := key 5 h5
  have e6 : x.toInt ≠ 6 := key 6 h6
  have e7 : x.toInt ≠ 7 := key 7 h7
  omega
section BDS
variable {G : bd_G} {cc : ByteArray} {nL : Nat} {own : String} {n fr lo : Nat} {rt : Option FieldType} {α : Type} {out : α} {F F1 F2 : Option α} {σ : bd_S} {pc : Nat} {lv lr : List (Nat × Value)} {st : List Value}
theorem rr_swc (hG : bd_OK G cc nL own n fr lo rt) (c : Int32) (tgt : Nat) {dflt lo1 hi : Int} {offs : Array Int} {len : Nat} {x : Int32} (hd : decode cc pc = .ok (.tableswitch dflt lo1 hi offs, len)) (h : ¬ c.toInt < lo1 ∧ ¬ hi < c.toInt ∧ (offs[(c.toInt - lo1).toNat]?).map (fun off => (pc : Int) + off) = some (tgt : Int)) (k1 : bd_WF G out F1 σ tgt lv st) (k2 : ¬ x = c → bd_WF G out F2 σ pc lv (.int x :: st)) : bd_WF G out (if x = c then F1 else F2) σ pc lv (.int x :: st) := by
  intro hF H locs ls hP hS hl
  by_cases q : x = c
  · rw [if_pos q] at hF
    subst q
    obtain ⟨h1, h2, h3⟩ := h
    cases ho : offs[(x.toInt - lo1).toNat]? with
    | none => rw [ho] at h3; cases h3
    | some off =>
      rw [ho] at h3
      exact lv_tableIn hG.hx hG.hb hd h1 h2 ho (Option.some.inj h3) (k1 hF H locs ls hP hS hl)
  · rw [if_neg q] at hF
    exact k2 q hF H locs ls hP hS hl
theorem rr_swd (hG : bd_OK G cc nL own n fr lo rt) (tgt : Nat) {dflt lo1 hi : Int} {offs : Array Int} {len : Nat} {x : Int32} (hd : decode cc pc = .ok (.tableswitch dflt lo1 hi offs, len)) (h : x.toInt < lo1 ∨ hi < x.toInt) (ht : (pc : Int) + dflt = (tgt : Int)) (kk : bd_WF G out F σ tgt lv st) : bd_WF G out F σ pc lv (.int x :: st) :=
  fun hF H locs ls hP hS hl => lv_tableOut hG.hx hG.hb hd h ht (kk hF H locs ls hP hS hl)
theorem rr_acopy (hG : bd_OK G cc nL own n fr lo rt) {r0 r1 m idx : Nat} {sp dp nn : Int32} {k : bd_S → Option α} (hl9 : bd_in (.methodLink own idx arraycopyName)) (hk0 : bd_kd r0 = (4, m)) (hk1 : bd_kd r1 = (4, m)) (hr0 : r0 < n) (hr1 : r1 < n) (hfr : 1 ≤ fr) (hlo : (st.map fun v => v.category).sum + 18 ≤ lo) (hd : decode cc pc = .ok (.invokestatic idx, 3)) (kk : ∀ z : bd_S, bd_WF G out (k z) z (pc + 3) lv st) : bd_WF G out (bd_cp σ r0 sp r1 dp nn m k) σ pc lv (.int nn :: .int dp :: .ref (bd_ad (g_E G) r1) :: .int sp :: .ref (bd_ad (g_E G) r0) :: st) := by
  intro hF H locs ls hP hS hl
  unfold bd_cp at hF
  split at hF
  · cases hF
  · rename_i hin
    have hrN := bd_lN hG.hE hr1
    refine va_copyi hG.hx hG.hb hl.1.symm hG.hown (hG.hT.at hl9 _) (hG.hT.at ac_nat _) (hG.hT.at ac_sta _) (hG.hT.at ac_ini _) hG.hK hP (hG.hE.dis σ) hS r0 r1 0 0 (bd_w_at _ σ (bd_lN hG.hE hr0) hk0) (bd_w_at _ σ hrN hk1) rfl rfl rfl (fun q => hin (Or.inl q)) (fun q => hin (Or.inr (Or.inl q))) (fun q => hin (Or.inr (Or.inr (Or.inl q)))) (Nat.not_lt.mp fun q => hin (Or.inr (Or.inr (Or.inr (Or.inl q))))) (Nat.not_lt.mp fun q => hin (Or.inr (Or.inr (Or.inr (Or.inr q))))) (fun _ _ => rfl) (Nat.le_trans hfr hG.hfr) (Nat.le_trans hlo hG.hlo) hd (fun H1 locs1 hP1 _ hS1 => ?_)
    refine kk _ hF H1 locs1 ls ?_ hS1 hl
    have he := bd_w_set (g_E G) σ (va_cpy (σ r0) (σ r1) sp.toNatClampNeg dp.toNatClampNeg nn.toNatClampNeg) hrN
    have hc : bd_cell (g_E G) (bd_sr σ r1 (va_cpy (σ r0) (σ r1) sp.toNatClampNeg dp.toNatClampNeg nn.toNatClampNeg)) r1 = bd_ce (g_E G) (va_cpy (σ r0) (σ r1) sp.toNatClampNeg dp.toNatClampNeg nn.toNatClampNeg) r1 (4, m) := by
      unfold bd_cell
      rw [bd_sr_self, hk1]
    rw [hc] at he
    rw [← he]
    exact hP1
end BDS
theorem mt_max1 : bd_in (.static Lib.Math.max.name) := ⟨List.mem_of_getElem? (i := 216) (by decide +kernel), by decide +kernel⟩
theorem mt_max2 : bd_in (.initialized "java/lang/Math") := ⟨List.mem_of_getElem? (i := 54) (by decide +kernel), by decide +kernel⟩
theorem mt_max3 : bd_in (.code Lib.Math.max.name Lib.Math.max.code 2 (some .int)) := ⟨List.mem_of_getElem? (i := 217) (by decide +kernel), by decide +kernel⟩
theorem mt_min1 : bd_in (.static Lib.Math.min.name) := ⟨List.mem_of_getElem? (i := 219) (by decide +kernel), by decide +kernel⟩
theorem mt_min2 : bd_in (.initialized "java/lang/Math") := ⟨List.mem_of_getElem? (i := 54) (by decide +kernel), by decide +kernel⟩
theorem mt_min3 : bd_in (.code Lib.Math.min.name Lib.Math.min.code 2 (some .int)) := ⟨List.mem_of_getElem? (i := 220) (by decide +kernel), by decide +kernel⟩
theorem ac_X0_25 : bd_in (.methodLink RX0 25 arraycopyName) := ⟨List.mem_of_getElem? (i := 208) (by decide +kernel), by decide +kernel⟩
theorem im_X0_copyFrom : bd_in (.instanceMethod yX0_copyFrom) := ⟨List.mem_of_getElem? (i := 206) (by decide +kernel), by decide +kernel⟩
theorem se_X0_copyFrom : bd_in (.selects (yX0_copyFrom).cls yX0_copyFrom yX0_copyFrom) := ⟨List.mem_of_getElem? (i := 1) (by decide +kernel), by decide +kernel⟩
theorem im_X0_cut : bd_in (.instanceMethod yX0_cut) := ⟨List.mem_of_getElem? (i := 213) (by decide +kernel), by decide +kernel⟩
theorem se_X0_cut : bd_in (.selects (yX0_cut).cls yX0_cut yX0_cut) := ⟨List.mem_of_getElem? (i := 2) (by decide +kernel), by decide +kernel⟩
theorem im_X0_narrow : bd_in (.instanceMethod yX0_narrow) := ⟨List.mem_of_getElem? (i := 223) (by decide +kernel), by decide +kernel⟩
theorem se_X0_narrow : bd_in (.selects (yX0_narrow).cls yX0_narrow yX0_narrow) := ⟨List.mem_of_getElem? (i := 3) (by decide +kernel), by decide +kernel⟩
theorem im_X0_narrowDays : bd_in (.instanceMethod yX0_narrowDays) := ⟨List.mem_of_getElem? (i := 238) (by decide +kernel), by decide +kernel⟩
theorem se_X0_narrowDays : bd_in (.selects (yX0_narrowDays).cls yX0_narrowDays yX0_narrowDays) := ⟨List.mem_of_getElem? (i := 5) (by decide +kernel), by decide +kernel⟩
theorem im_X0_narrowGain : bd_in (.instanceMethod yX0_narrowGain) := ⟨List.mem_of_getElem? (i := 227) (by decide +kernel), by decide +kernel⟩
theorem se_X0_narrowGain : bd_in (.selects (yX0_narrowGain).cls yX0_narrowGain yX0_narrowGain) := ⟨List.mem_of_getElem? (i := 4) (by decide +kernel), by decide +kernel⟩
theorem im_X0_open : bd_in (.instanceMethod yX0_open) := ⟨List.mem_of_getElem? (i := 92) (by decide +kernel), by decide +kernel⟩
theorem se_X0_open : bd_in (.selects (yX0_open).cls yX0_open yX0_open) := ⟨List.mem_of_getElem? (i := 0) (by decide +kernel), by decide +kernel⟩
theorem im_X1_note : bd_in (.instanceMethod yX1_note) := ⟨List.mem_of_getElem? (i := 319) (by decide +kernel), by decide +kernel⟩
theorem se_X1_note : bd_in (.selects (yX1_note).cls yX1_note yX1_note) := ⟨List.mem_of_getElem? (i := 11) (by decide +kernel), by decide +kernel⟩
theorem im_X2_addHeat : bd_in (.instanceMethod yX2_addHeat) := ⟨List.mem_of_getElem? (i := 359) (by decide +kernel), by decide +kernel⟩
theorem se_X2_addHeat : bd_in (.selects (yX2_addHeat).cls yX2_addHeat yX2_addHeat) := ⟨List.mem_of_getElem? (i := 15) (by decide +kernel), by decide +kernel⟩
theorem im_X2_bearsSlip : bd_in (.instanceMethod yX2_bearsSlip) := ⟨List.mem_of_getElem? (i := 464) (by decide +kernel), by decide +kernel⟩
theorem se_X2_bearsSlip : bd_in (.selects (yX2_bearsSlip).cls yX2_bearsSlip yX2_bearsSlip) := ⟨List.mem_of_getElem? (i := 26) (by decide +kernel), by decide +kernel⟩
theorem im_X2_countSuspects : bd_in (.instanceMethod yX2_countSuspects) := ⟨List.mem_of_getElem? (i := 444) (by decide +kernel), by decide +kernel⟩
theorem se_X2_countSuspects : bd_in (.selects (yX2_countSuspects).cls yX2_countSuspects yX2_countSuspects) := ⟨List.mem_of_getElem? (i := 23) (by decide +kernel), by decide +kernel⟩
theorem im_X2_counts : bd_in (.instanceMethod yX2_counts) := ⟨List.mem_of_getElem? (i := 355) (by decide +kernel), by decide +kernel⟩
theorem se_X2_counts : bd_in (.selects (yX2_counts).cls yX2_counts yX2_counts) := ⟨List.mem_of_getElem? (i := 14) (by decide +kernel), by decide +kernel⟩
theorem im_X2_findPlaces : bd_in (.instanceMethod yX2_findPlaces) := ⟨List.mem_of_getElem? (i := 393) (by decide +kernel), by decide +kernel⟩
theorem se_X2_findPlaces : bd_in (.selects (yX2_findPlaces).cls yX2_findPlaces yX2_findPlaces) := ⟨List.mem_of_getElem? (i := 18) (by decide +kernel), by decide +kernel⟩
theorem im_X2_firstFittingSlip : bd_in (.instanceMethod yX2_firstFittingSlip) := ⟨List.mem_of_getElem? (i := 460) (by decide +kernel), by decide +kernel⟩
theorem se_X2_firstFittingSlip : bd_in (.selects (yX2_firstFittingSlip).cls yX2_firstFittingSlip yX2_firstFittingSlip) := ⟨List.mem_of_getElem? (i := 25) (by decide +kernel), by decide +kernel⟩
theorem im_X2_greatestLate : bd_in (.instanceMethod yX2_greatestLate) := ⟨List.mem_of_getElem? (i := 293) (by decide +kernel), by decide +kernel⟩
theorem se_X2_greatestLate : bd_in (.selects (yX2_greatestLate).cls yX2_greatestLate yX2_greatestLate) := ⟨List.mem_of_getElem? (i := 8) (by decide +kernel), by decide +kernel⟩
theorem im_X2_greatestMiles : bd_in (.instanceMethod yX2_greatestMiles) := ⟨List.mem_of_getElem? (i := 380) (by decide +kernel), by decide +kernel⟩
theorem se_X2_greatestMiles : bd_in (.selects (yX2_greatestMiles).cls yX2_greatestMiles yX2_greatestMiles) := ⟨List.mem_of_getElem? (i := 17) (by decide +kernel), by decide +kernel⟩
theorem im_X2_greatestShared : bd_in (.instanceMethod yX2_greatestShared) := ⟨List.mem_of_getElem? (i := 408) (by decide +kernel), by decide +kernel⟩
theorem se_X2_greatestShared : bd_in (.selects (yX2_greatestShared).cls yX2_greatestShared yX2_greatestShared) := ⟨List.mem_of_getElem? (i := 21) (by decide +kernel), by decide +kernel⟩
theorem im_X2_heaviest : bd_in (.instanceMethod yX2_heaviest) := ⟨List.mem_of_getElem? (i := 426) (by decide +kernel), by decide +kernel⟩
theorem se_X2_heaviest : bd_in (.selects (yX2_heaviest).cls yX2_heaviest yX2_heaviest) := ⟨List.mem_of_getElem? (i := 22) (by decide +kernel), by decide +kernel⟩
theorem im_X2_isSetOn : bd_in (.instanceMethod yX2_isSetOn) := ⟨List.mem_of_getElem? (i := 448) (by decide +kernel), by decide +kernel⟩
theorem se_X2_isSetOn : bd_in (.selects (yX2_isSetOn).cls yX2_isSetOn yX2_isSetOn) := ⟨List.mem_of_getElem? (i := 24) (by decide +kernel), by decide +kernel⟩
theorem im_X2_isTold : bd_in (.instanceMethod yX2_isTold) := ⟨List.mem_of_getElem? (i := 473) (by decide +kernel), by decide +kernel⟩
theorem se_X2_isTold : bd_in (.selects (yX2_isTold).cls yX2_isTold yX2_isTold) := ⟨List.mem_of_getElem? (i := 27) (by decide +kernel), by decide +kernel⟩
theorem im_X2_learn : bd_in (.instanceMethod yX2_learn) := ⟨List.mem_of_getElem? (i := 347) (by decide +kernel), by decide +kernel⟩
theorem se_X2_learn : bd_in (.selects (yX2_learn).cls yX2_learn yX2_learn) := ⟨List.mem_of_getElem? (i := 12) (by decide +kernel), by decide +kernel⟩
theorem im_X2_learnBut : bd_in (.instanceMethod yX2_learnBut) := ⟨List.mem_of_getElem? (i := 351) (by decide +kernel), by decide +kernel⟩
theorem se_X2_learnBut : bd_in (.selects (yX2_learnBut).cls yX2_learnBut yX2_learnBut) := ⟨List.mem_of_getElem? (i := 13) (by decide +kernel), by decide +kernel⟩
theorem im_X2_leastLate : bd_in (.instanceMethod yX2_leastLate) := ⟨List.mem_of_getElem? (i := 285) (by decide +kernel), by decide +kernel⟩
theorem se_X2_leastLate : bd_in (.selects (yX2_leastLate).cls yX2_leastLate yX2_leastLate) := ⟨List.mem_of_getElem? (i := 6) (by decide +kernel), by decide +kernel⟩
theorem im_X2_leastMiles : bd_in (.instanceMethod yX2_leastMiles) := ⟨List.mem_of_getElem? (i := 376) (by decide +kernel), by decide +kernel⟩
theorem se_X2_leastMiles : bd_in (.selects (yX2_leastMiles).cls yX2_leastMiles yX2_leastMiles) := ⟨List.mem_of_getElem? (i := 16) (by decide +kernel), by decide +kernel⟩
theorem im_X2_leastShared : bd_in (.instanceMethod yX2_leastShared) := ⟨List.mem_of_getElem? (i := 403) (by decide +kernel), by decide +kernel⟩
theorem se_X2_leastShared : bd_in (.selects (yX2_leastShared).cls yX2_leastShared yX2_leastShared) := ⟨List.mem_of_getElem? (i := 20) (by decide +kernel), by decide +kernel⟩
theorem im_X2_middleOff : bd_in (.instanceMethod yX2_middleOff) := ⟨List.mem_of_getElem? (i := 289) (by decide +kernel), by decide +kernel⟩
theorem se_X2_middleOff : bd_in (.selects (yX2_middleOff).cls yX2_middleOff yX2_middleOff) := ⟨List.mem_of_getElem? (i := 7) (by decide +kernel), by decide +kernel⟩
theorem im_X2_noClock : bd_in (.instanceMethod yX2_noClock) := ⟨List.mem_of_getElem? (i := 305) (by decide +kernel), by decide +kernel⟩
theorem se_X2_noClock : bd_in (.selects (yX2_noClock).cls yX2_noClock yX2_noClock) := ⟨List.mem_of_getElem? (i := 9) (by decide +kernel), by decide +kernel⟩
theorem im_X2_noShip : bd_in (.instanceMethod yX2_noShip) := ⟨List.mem_of_getElem? (i := 309) (by decide +kernel), by decide +kernel⟩
theorem se_X2_noShip : bd_in (.selects (yX2_noShip).cls yX2_noShip yX2_noShip) := ⟨List.mem_of_getElem? (i := 10) (by decide +kernel), by decide +kernel⟩
theorem im_X2_weigh : bd_in (.instanceMethod yX2_weigh) := ⟨List.mem_of_getElem? (i := 399) (by decide +kernel), by decide +kernel⟩
theorem se_X2_weigh : bd_in (.selects (yX2_weigh).cls yX2_weigh yX2_weigh) := ⟨List.mem_of_getElem? (i := 19) (by decide +kernel), by decide +kernel⟩
theorem im_X3_agrees : bd_in (.instanceMethod yX3_agrees) := ⟨List.mem_of_getElem? (i := 767) (by decide +kernel), by decide +kernel⟩
theorem se_X3_agrees : bd_in (.selects (yX3_agrees).cls yX3_agrees yX3_agrees) := ⟨List.mem_of_getElem? (i := 42) (by decide +kernel), by decide +kernel⟩
theorem im_X3_allGo : bd_in (.instanceMethod yX3_allGo) := ⟨List.mem_of_getElem? (i := 811) (by decide +kernel), by decide +kernel⟩
theorem se_X3_allGo : bd_in (.selects (yX3_allGo).cls yX3_allGo yX3_allGo) := ⟨List.mem_of_getElem? (i := 45) (by decide +kernel), by decide +kernel⟩
theorem im_X3_bestOf : bd_in (.instanceMethod yX3_bestOf) := ⟨List.mem_of_getElem? (i := 783) (by decide +kernel), by decide +kernel⟩
theorem se_X3_bestOf : bd_in (.selects (yX3_bestOf).cls yX3_bestOf yX3_bestOf) := ⟨List.mem_of_getElem? (i := 43) (by decide +kernel), by decide +kernel⟩
theorem im_X3_doesCount : bd_in (.instanceMethod yX3_doesCount) := ⟨List.mem_of_getElem? (i := 730) (by decide +kernel), by decide +kernel⟩
theorem se_X3_doesCount : bd_in (.selects (yX3_doesCount).cls yX3_doesCount yX3_doesCount) := ⟨List.mem_of_getElem? (i := 38) (by decide +kernel), by decide +kernel⟩
theorem im_X3_isLeft : bd_in (.instanceMethod yX3_isLeft) := ⟨List.mem_of_getElem? (i := 513) (by decide +kernel), by decide +kernel⟩
theorem se_X3_isLeft : bd_in (.selects (yX3_isLeft).cls yX3_isLeft yX3_isLeft) := ⟨List.mem_of_getElem? (i := 32) (by decide +kernel), by decide +kernel⟩
theorem im_X3_isMarked : bd_in (.instanceMethod yX3_isMarked) := ⟨List.mem_of_getElem? (i := 823) (by decide +kernel), by decide +kernel⟩
theorem se_X3_isMarked : bd_in (.selects (yX3_isMarked).cls yX3_isMarked yX3_isMarked) := ⟨List.mem_of_getElem? (i := 47) (by decide +kernel), by decide +kernel⟩
theorem im_X3_isOne : bd_in (.instanceMethod yX3_isOne) := ⟨List.mem_of_getElem? (i := 687) (by decide +kernel), by decide +kernel⟩
theorem se_X3_isOne : bd_in (.selects (yX3_isOne).cls yX3_isOne yX3_isOne) := ⟨List.mem_of_getElem? (i := 34) (by decide +kernel), by decide +kernel⟩
theorem im_X3_isSetBy : bd_in (.instanceMethod yX3_isSetBy) := ⟨List.mem_of_getElem? (i := 815) (by decide +kernel), by decide +kernel⟩
theorem se_X3_isSetBy : bd_in (.selects (yX3_isSetBy).cls yX3_isSetBy yX3_isSetBy) := ⟨List.mem_of_getElem? (i := 46) (by decide +kernel), by decide +kernel⟩
theorem im_X3_isShip : bd_in (.instanceMethod yX3_isShip) := ⟨List.mem_of_getElem? (i := 691) (by decide +kernel), by decide +kernel⟩
theorem se_X3_isShip : bd_in (.selects (yX3_isShip).cls yX3_isShip yX3_isShip) := ⟨List.mem_of_getElem? (i := 35) (by decide +kernel), by decide +kernel⟩
theorem im_X3_lateOf : bd_in (.instanceMethod yX3_lateOf) := ⟨List.mem_of_getElem? (i := 675) (by decide +kernel), by decide +kernel⟩
theorem se_X3_lateOf : bd_in (.selects (yX3_lateOf).cls yX3_lateOf yX3_lateOf) := ⟨List.mem_of_getElem? (i := 33) (by decide +kernel), by decide +kernel⟩
theorem im_X3_lay : bd_in (.instanceMethod yX3_lay) := ⟨List.mem_of_getElem? (i := 726) (by decide +kernel), by decide +kernel⟩
theorem se_X3_lay : bd_in (.selects (yX3_lay).cls yX3_lay yX3_lay) := ⟨List.mem_of_getElem? (i := 37) (by decide +kernel), by decide +kernel⟩
theorem im_X3_layOffs : bd_in (.instanceMethod yX3_layOffs) := ⟨List.mem_of_getElem? (i := 497) (by decide +kernel), by decide +kernel⟩
theorem se_X3_layOffs : bd_in (.selects (yX3_layOffs).cls yX3_layOffs yX3_layOffs) := ⟨List.mem_of_getElem? (i := 28) (by decide +kernel), by decide +kernel⟩
theorem im_X3_layPlaces : bd_in (.instanceMethod yX3_layPlaces) := ⟨List.mem_of_getElem? (i := 759) (by decide +kernel), by decide +kernel⟩
theorem se_X3_layPlaces : bd_in (.selects (yX3_layPlaces).cls yX3_layPlaces yX3_layPlaces) := ⟨List.mem_of_getElem? (i := 40) (by decide +kernel), by decide +kernel⟩
theorem im_X3_mark : bd_in (.instanceMethod yX3_mark) := ⟨List.mem_of_getElem? (i := 698) (by decide +kernel), by decide +kernel⟩
theorem se_X3_mark : bd_in (.selects (yX3_mark).cls yX3_mark yX3_mark) := ⟨List.mem_of_getElem? (i := 36) (by decide +kernel), by decide +kernel⟩
theorem im_X3_narrow : bd_in (.instanceMethod yX3_narrow) := ⟨List.mem_of_getElem? (i := 509) (by decide +kernel), by decide +kernel⟩
theorem se_X3_narrow : bd_in (.selects (yX3_narrow).cls yX3_narrow yX3_narrow) := ⟨List.mem_of_getElem? (i := 31) (by decide +kernel), by decide +kernel⟩
theorem im_X3_placeOf : bd_in (.instanceMethod yX3_placeOf) := ⟨List.mem_of_getElem? (i := 747) (by decide +kernel), by decide +kernel⟩
theorem se_X3_placeOf : bd_in (.selects (yX3_placeOf).cls yX3_placeOf yX3_placeOf) := ⟨List.mem_of_getElem? (i := 39) (by decide +kernel), by decide +kernel⟩
theorem im_X3_start : bd_in (.instanceMethod yX3_start) := ⟨List.mem_of_getElem? (i := 501) (by decide +kernel), by decide +kernel⟩
theorem se_X3_start : bd_in (.selects (yX3_start).cls yX3_start yX3_start) := ⟨List.mem_of_getElem? (i := 29) (by decide +kernel), by decide +kernel⟩
theorem im_X3_suspects : bd_in (.instanceMethod yX3_suspects) := ⟨List.mem_of_getElem? (i := 798) (by decide +kernel), by decide +kernel⟩
theorem se_X3_suspects : bd_in (.selects (yX3_suspects).cls yX3_suspects yX3_suspects) := ⟨List.mem_of_getElem? (i := 44) (by decide +kernel), by decide +kernel⟩
theorem im_X3_weightOf : bd_in (.instanceMethod yX3_weightOf) := ⟨List.mem_of_getElem? (i := 763) (by decide +kernel), by decide +kernel⟩
theorem se_X3_weightOf : bd_in (.selects (yX3_weightOf).cls yX3_weightOf yX3_weightOf) := ⟨List.mem_of_getElem? (i := 41) (by decide +kernel), by decide +kernel⟩
theorem im_X3_within : bd_in (.instanceMethod yX3_within) := ⟨List.mem_of_getElem? (i := 505) (by decide +kernel), by decide +kernel⟩
theorem se_X3_within : bd_in (.selects (yX3_within).cls yX3_within yX3_within) := ⟨List.mem_of_getElem? (i := 30) (by decide +kernel), by decide +kernel⟩
theorem kc_J6_265 : bd_in (.constant RJ6 265 1431655765) := ⟨List.mem_of_getElem? (i := 431) (by decide +kernel), by decide +kernel⟩
theorem kc_J6_266 : bd_in (.constant RJ6 266 858993459) := ⟨List.mem_of_getElem? (i := 432) (by decide +kernel), by decide +kernel⟩
theorem kc_J6_267 : bd_in (.constant RJ6 267 252645135) := ⟨List.mem_of_getElem? (i := 433) (by decide +kernel), by decide +kernel⟩
theorem kc_X2_161 : bd_in (.constant RX2 161 (-100000003)) := ⟨List.mem_of_getElem? (i := 365) (by decide +kernel), by decide +kernel⟩
theorem kc_X2_206 : bd_in (.constant RX2 206 (-100000005)) := ⟨List.mem_of_getElem? (i := 466) (by decide +kernel), by decide +kernel⟩
theorem kc_X2_254 : bd_in (.constant RX2 254 1000000) := ⟨List.mem_of_getElem? (i := 395) (by decide +kernel), by decide +kernel⟩
theorem kc_X2_255 : bd_in (.constant RX2 255 (-1000000)) := ⟨List.mem_of_getElem? (i := 396) (by decide +kernel), by decide +kernel⟩
theorem kc_X2_62 : bd_in (.constant RX2 62 (-99999)) := ⟨List.mem_of_getElem? (i := 143) (by decide +kernel), by decide +kernel⟩
theorem kc_X2_63 : bd_in (.constant RX2 63 99999) := ⟨List.mem_of_getElem? (i := 144) (by decide +kernel), by decide +kernel⟩
theorem kc_X2_91 : bd_in (.constant RX2 91 (-100000001)) := ⟨List.mem_of_getElem? (i := 252) (by decide +kernel), by decide +kernel⟩
theorem kc_X2_95 : bd_in (.constant RX2 95 (-100000002)) := ⟨List.mem_of_getElem? (i := 256) (by decide +kernel), by decide +kernel⟩
theorem kc_X3_105 : bd_in (.constant RX3 105 (-99999)) := ⟨List.mem_of_getElem? (i := 493) (by decide +kernel), by decide +kernel⟩
theorem kc_X3_106 : bd_in (.constant RX3 106 99999) := ⟨List.mem_of_getElem? (i := 494) (by decide +kernel), by decide +kernel⟩
theorem kc_X3_150 : bd_in (.constant RX3 150 (-100000001)) := ⟨List.mem_of_getElem? (i := 648) (by decide +kernel), by decide +kernel⟩
theorem kc_X3_154 : bd_in (.constant RX3 154 (-100000002)) := ⟨List.mem_of_getElem? (i := 652) (by decide +kernel), by decide +kernel⟩
theorem kc_X3_178 : bd_in (.constant RX3 178 (-100000003)) := ⟨List.mem_of_getElem? (i := 736) (by decide +kernel), by decide +kernel⟩
theorem kc_X3_183 : bd_in (.constant RX3 183 (-100000000)) := ⟨List.mem_of_getElem? (i := 769) (by decide +kernel), by decide +kernel⟩
theorem kc_X3_187 : bd_in (.constant RX3 187 100000000) := ⟨List.mem_of_getElem? (i := 770) (by decide +kernel), by decide +kernel⟩
theorem kc_X3_218 : bd_in (.constant RX3 218 (-100000005)) := ⟨List.mem_of_getElem? (i := 808) (by decide +kernel), by decide +kernel⟩
theorem kl_X2_182 : bd_in (.constantLong RX2 182 (-1000000000000000001)) := ⟨List.mem_of_getElem? (i := 415) (by decide +kernel), by decide +kernel⟩
theorem kl_X2_184 : bd_in (.constantLong RX2 184 (-1000000000000000002)) := ⟨List.mem_of_getElem? (i := 416) (by decide +kernel), by decide +kernel⟩
theorem kl_X3_201 : bd_in (.constantLong RX3 201 (-1000000000000000001)) := ⟨List.mem_of_getElem? (i := 775) (by decide +kernel), by decide +kernel⟩
theorem kl_X3_203 : bd_in (.constantLong RX3 203 (-1000000000000000002)) := ⟨List.mem_of_getElem? (i := 776) (by decide +kernel), by decide +kernel⟩
theorem lk_X0_40 : bd_lk RX0 40 yX0_narrowGain cX0_narrowGain 6 none 0 := ⟨⟨List.mem_of_getElem? (i := 228) (by decide +kernel), by decide +kernel⟩, ⟨List.mem_of_getElem? (i := 50) (by decide +kernel), by decide +kernel⟩, ⟨List.mem_of_getElem? (i := 225) (by decide +kernel), by decide +kernel⟩, by decide +kernel, by decide +kernel⟩
theorem lk_X0_43 : bd_lk RX0 43 yX0_narrowDays cX0_narrowDays 2 none 0 := ⟨⟨List.mem_of_getElem? (i := 239) (by decide +kernel), by decide +kernel⟩, ⟨List.mem_of_getElem? (i := 50) (by decide +kernel), by decide +kernel⟩, ⟨List.mem_of_getElem? (i := 236) (by decide +kernel), by decide +kernel⟩, by decide +kernel, by decide +kernel⟩
theorem lk_X0_46 : bd_lkN RX0 46 yX2_cutUp "BallDrops" cX2_cutUp 2 (some .int) 2 := ⟨⟨List.mem_of_getElem? (i := 231) (by decide +kernel), by decide +kernel⟩, ⟨List.mem_of_getElem? (i := 49) (by decide +kernel), by decide +kernel⟩, ⟨List.mem_of_getElem? (i := 229) (by decide +kernel), by decide +kernel, by decide +kernel⟩, by decide +kernel, by decide +kernel⟩
theorem lk_X0_49 : bd_lk RX0 49 yJ9_floorDiv_7cf53 cJ9_floorDiv_7cf53 3 (some .int) 2 := ⟨⟨List.mem_of_getElem? (i := 234) (by decide +kernel), by decide +kernel⟩, ⟨List.mem_of_getElem? (i := 54) (by decide +kernel), by decide +kernel⟩, ⟨List.mem_of_getElem? (i := 235) (by decide +kernel), by decide +kernel⟩, by decide +kernel, by decide +kernel⟩
theorem lk_X0_52 : bd_lk RX0 52 yX0_cut cX0_cut 4 none 3 := ⟨⟨List.mem_of_getElem? (i := 214) (by decide +kernel), by decide +kernel⟩, ⟨List.mem_of_getElem? (i := 50) (by decide +kernel), by decide +kernel⟩, ⟨List.mem_of_getElem? (i := 240) (by decide +kernel), by decide +kernel⟩, by decide +kernel, by decide +kernel⟩
theorem lk_X2_111 : bd_lk RX2 111 yX2_bitOf cX2_bitOf 2 (some .int) 2 := ⟨⟨List.mem_of_getElem? (i := 275) (by decide +kernel), by decide +kernel⟩, ⟨List.mem_of_getElem? (i := 49) (by decide +kernel), by decide +kernel⟩, ⟨List.mem_of_getElem? (i := 273) (by decide +kernel), by decide +kernel⟩, by decide +kernel, by decide +kernel⟩
theorem lk_X2_115 : bd_lk RX2 115 yX2_withBit cX2_withBit 3 (some .int) 3 := ⟨⟨List.mem_of_getElem? (i := 278) (by decide +kernel), by decide +kernel⟩, ⟨List.mem_of_getElem? (i := 49) (by decide +kernel), by decide +kernel⟩, ⟨List.mem_of_getElem? (i := 276) (by decide +kernel), by decide +kernel⟩, by decide +kernel, by decide +kernel⟩
theorem lk_X2_119 : bd_lk RX2 119 yX2_leastLate cX2_leastLate 2 (some .int) 1 := ⟨⟨List.mem_of_getElem? (i := 286) (by decide +kernel), by decide +kernel⟩, ⟨List.mem_of_getElem? (i := 49) (by decide +kernel), by decide +kernel⟩, ⟨List.mem_of_getElem? (i := 283) (by decide +kernel), by decide +kernel⟩, by decide +kernel, by decide +kernel⟩
theorem lk_X2_123 : bd_lk RX2 123 yX2_greatestLate cX2_greatestLate 2 (some .int) 1 := ⟨⟨List.mem_of_getElem? (i := 294) (by decide +kernel), by decide +kernel⟩, ⟨List.mem_of_getElem? (i := 49) (by decide +kernel), by decide +kernel⟩, ⟨List.mem_of_getElem? (i := 291) (by decide +kernel), by decide +kernel⟩, by decide +kernel, by decide +kernel⟩
theorem lk_X2_129 : bd_lk RX2 129 yX2_noClock cX2_noClock 3 (some .boolean) 2 := ⟨⟨List.mem_of_getElem? (i := 306) (by decide +kernel), by decide +kernel⟩, ⟨List.mem_of_getElem? (i := 49) (by decide +kernel), by decide +kernel⟩, ⟨List.mem_of_getElem? (i := 303) (by decide +kernel), by decide +kernel⟩, by decide +kernel, by decide +kernel⟩
theorem lk_X2_132 : bd_lk RX2 132 yX2_latestNoted cX2_latestNoted 2 (some .int) 2 := ⟨⟨List.mem_of_getElem? (i := 313) (by decide +kernel), by decide +kernel⟩, ⟨List.mem_of_getElem? (i := 49) (by decide +kernel), by decide +kernel⟩, ⟨List.mem_of_getElem? (i := 311) (by decide +kernel), by decide +kernel⟩, by decide +kernel, by decide +kernel⟩
theorem lk_X2_135 : bd_lk RX2 135 yX2_soonestNoted cX2_soonestNoted 2 (some .int) 2 := ⟨⟨List.mem_of_getElem? (i := 316) (by decide +kernel), by decide +kernel⟩, ⟨List.mem_of_getElem? (i := 49) (by decide +kernel), by decide +kernel⟩, ⟨List.mem_of_getElem? (i := 314) (by decide +kernel), by decide +kernel⟩, by decide +kernel, by decide +kernel⟩
theorem lk_X2_138 : bd_lkN RX2 138 yX1_note "BallDrops" cX1_note 6 (some .int) 5 := ⟨⟨List.mem_of_getElem? (i := 320) (by decide +kernel), by decide +kernel⟩, ⟨List.mem_of_getElem? (i := 51) (by decide +kernel), by decide +kernel⟩, ⟨List.mem_of_getElem? (i := 317) (by decide +kernel), by decide +kernel, by decide +kernel⟩, by decide +kernel, by decide +kernel⟩
theorem lk_X2_142 : bd_lk RX2 142 yX2_noShip cX2_noShip 2 (some .boolean) 1 := ⟨⟨List.mem_of_getElem? (i := 310) (by decide +kernel), by decide +kernel⟩, ⟨List.mem_of_getElem? (i := 49) (by decide +kernel), by decide +kernel⟩, ⟨List.mem_of_getElem? (i := 307) (by decide +kernel), by decide +kernel⟩, by decide +kernel, by decide +kernel⟩
theorem lk_X2_157 : bd_lk RX2 157 yX2_learn cX2_learn 3 (some .boolean) 2 := ⟨⟨List.mem_of_getElem? (i := 348) (by decide +kernel), by decide +kernel⟩, ⟨List.mem_of_getElem? (i := 49) (by decide +kernel), by decide +kernel⟩, ⟨List.mem_of_getElem? (i := 345) (by decide +kernel), by decide +kernel⟩, by decide +kernel, by decide +kernel⟩
theorem lk_X2_162 : bd_lk RX2 162 yX2_leastMiles cX2_leastMiles 3 (some .int) 2 := ⟨⟨List.mem_of_getElem? (i := 377) (by decide +kernel), by decide +kernel⟩, ⟨List.mem_of_getElem? (i := 49) (by decide +kernel), by decide +kernel⟩, ⟨List.mem_of_getElem? (i := 374) (by decide +kernel), by decide +kernel⟩, by decide +kernel, by decide +kernel⟩
theorem lk_X2_165 : bd_lk RX2 165 yX2_greatestMiles cX2_greatestMiles 3 (some .int) 2 := ⟨⟨List.mem_of_getElem? (i := 381) (by decide +kernel), by decide +kernel⟩, ⟨List.mem_of_getElem? (i := 49) (by decide +kernel), by decide +kernel⟩, ⟨List.mem_of_getElem? (i := 378) (by decide +kernel), by decide +kernel⟩, by decide +kernel, by decide +kernel⟩
theorem lk_X2_174 : bd_lk RX2 174 yX2_findPlaces cX2_findPlaces 3 none 1 := ⟨⟨List.mem_of_getElem? (i := 394) (by decide +kernel), by decide +kernel⟩, ⟨List.mem_of_getElem? (i := 49) (by decide +kernel), by decide +kernel⟩, ⟨List.mem_of_getElem? (i := 391) (by decide +kernel), by decide +kernel⟩, by decide +kernel, by decide +kernel⟩
theorem lk_X2_178 : bd_lk RX2 178 yX2_weigh cX2_weigh 5 (some .int) 2 := ⟨⟨List.mem_of_getElem? (i := 400) (by decide +kernel), by decide +kernel⟩, ⟨List.mem_of_getElem? (i := 49) (by decide +kernel), by decide +kernel⟩, ⟨List.mem_of_getElem? (i := 397) (by decide +kernel), by decide +kernel⟩, by decide +kernel, by decide +kernel⟩
theorem lk_X2_186 : bd_lk RX2 186 yX2_greatestDivisor cX2_greatestDivisor 6 (some .int) 2 := ⟨⟨List.mem_of_getElem? (i := 419) (by decide +kernel), by decide +kernel⟩, ⟨List.mem_of_getElem? (i := 49) (by decide +kernel), by decide +kernel⟩, ⟨List.mem_of_getElem? (i := 417) (by decide +kernel), by decide +kernel⟩, by decide +kernel, by decide +kernel⟩
theorem lk_X2_189 : bd_lk RX2 189 yX2_heaviest cX2_heaviest 6 (some .int) 1 := ⟨⟨List.mem_of_getElem? (i := 427) (by decide +kernel), by decide +kernel⟩, ⟨List.mem_of_getElem? (i := 49) (by decide +kernel), by decide +kernel⟩, ⟨List.mem_of_getElem? (i := 424) (by decide +kernel), by decide +kernel⟩, by decide +kernel, by decide +kernel⟩
theorem lk_X2_193 : bd_lk RX2 193 yX2_leastShared cX2_leastShared 4 (some .int) 1 := ⟨⟨List.mem_of_getElem? (i := 404) (by decide +kernel), by decide +kernel⟩, ⟨List.mem_of_getElem? (i := 49) (by decide +kernel), by decide +kernel⟩, ⟨List.mem_of_getElem? (i := 401) (by decide +kernel), by decide +kernel⟩, by decide +kernel, by decide +kernel⟩
theorem lk_X2_196 : bd_lk RX2 196 yX2_greatestShared cX2_greatestShared 4 (some .int) 1 := ⟨⟨List.mem_of_getElem? (i := 409) (by decide +kernel), by decide +kernel⟩, ⟨List.mem_of_getElem? (i := 49) (by decide +kernel), by decide +kernel⟩, ⟨List.mem_of_getElem? (i := 406) (by decide +kernel), by decide +kernel⟩, by decide +kernel, by decide +kernel⟩
theorem lk_X2_199 : bd_lk RX2 199 yX2_countSuspects cX2_countSuspects 5 (some .int) 1 := ⟨⟨List.mem_of_getElem? (i := 445) (by decide +kernel), by decide +kernel⟩, ⟨List.mem_of_getElem? (i := 49) (by decide +kernel), by decide +kernel⟩, ⟨List.mem_of_getElem? (i := 442) (by decide +kernel), by decide +kernel⟩, by decide +kernel, by decide +kernel⟩
theorem lk_X2_202 : bd_lk RX2 202 yX2_firstFittingSlip cX2_firstFittingSlip 9 (some .int) 3 := ⟨⟨List.mem_of_getElem? (i := 461) (by decide +kernel), by decide +kernel⟩, ⟨List.mem_of_getElem? (i := 49) (by decide +kernel), by decide +kernel⟩, ⟨List.mem_of_getElem? (i := 458) (by decide +kernel), by decide +kernel⟩, by decide +kernel, by decide +kernel⟩
theorem lk_X2_207 : bd_lk RX2 207 yX2_isTold cX2_isTold 4 (some .boolean) 2 := ⟨⟨List.mem_of_getElem? (i := 474) (by decide +kernel), by decide +kernel⟩, ⟨List.mem_of_getElem? (i := 49) (by decide +kernel), by decide +kernel⟩, ⟨List.mem_of_getElem? (i := 471) (by decide +kernel), by decide +kernel⟩, by decide +kernel, by decide +kernel⟩
theorem lk_X2_218 : bd_lk RX2 218 yJ9_floorDiv_7cf53 cJ9_floorDiv_7cf53 3 (some .int) 2 := ⟨⟨List.mem_of_getElem? (i := 234) (by decide +kernel), by decide +kernel⟩, ⟨List.mem_of_getElem? (i := 54) (by decide +kernel), by decide +kernel⟩, ⟨List.mem_of_getElem? (i := 232) (by decide +kernel), by decide +kernel⟩, by decide +kernel, by decide +kernel⟩
theorem lk_X2_221 : bd_lk RX2 221 yX2_middleOff cX2_middleOff 2 (some .int) 1 := ⟨⟨List.mem_of_getElem? (i := 290) (by decide +kernel), by decide +kernel⟩, ⟨List.mem_of_getElem? (i := 49) (by decide +kernel), by decide +kernel⟩, ⟨List.mem_of_getElem? (i := 287) (by decide +kernel), by decide +kernel⟩, by decide +kernel, by decide +kernel⟩
theorem lk_X2_234 : bd_lk RX2 234 yX2_counts cX2_counts 3 (some .boolean) 2 := ⟨⟨List.mem_of_getElem? (i := 356) (by decide +kernel), by decide +kernel⟩, ⟨List.mem_of_getElem? (i := 49) (by decide +kernel), by decide +kernel⟩, ⟨List.mem_of_getElem? (i := 353) (by decide +kernel), by decide +kernel⟩, by decide +kernel, by decide +kernel⟩
theorem lk_X2_237 : bd_lk RX2 237 yX2_learnBut cX2_learnBut 9 (some .boolean) 5 := ⟨⟨List.mem_of_getElem? (i := 352) (by decide +kernel), by decide +kernel⟩, ⟨List.mem_of_getElem? (i := 49) (by decide +kernel), by decide +kernel⟩, ⟨List.mem_of_getElem? (i := 349) (by decide +kernel), by decide +kernel⟩, by decide +kernel, by decide +kernel⟩
theorem lk_X2_247 : bd_lk RX2 247 yX2_addHeat cX2_addHeat 4 none 1 := ⟨⟨List.mem_of_getElem? (i := 360) (by decide +kernel), by decide +kernel⟩, ⟨List.mem_of_getElem? (i := 49) (by decide +kernel), by decide +kernel⟩, ⟨List.mem_of_getElem? (i := 357) (by decide +kernel), by decide +kernel⟩, by decide +kernel, by decide +kernel⟩
theorem lk_X2_251 : bd_lk RX2 251 yX2_cutUp cX2_cutUp 2 (some .int) 2 := ⟨⟨List.mem_of_getElem? (i := 231) (by decide +kernel), by decide +kernel⟩, ⟨List.mem_of_getElem? (i := 49) (by decide +kernel), by decide +kernel⟩, ⟨List.mem_of_getElem? (i := 382) (by decide +kernel), by decide +kernel⟩, by decide +kernel, by decide +kernel⟩
theorem lk_X2_256 : bd_lk RX2 256 yJ6_bitCount_0f7a4 cJ6_bitCount_0f7a4 1 (some .int) 1 := ⟨⟨List.mem_of_getElem? (i := 430) (by decide +kernel), by decide +kernel⟩, ⟨List.mem_of_getElem? (i := 55) (by decide +kernel), by decide +kernel⟩, ⟨List.mem_of_getElem? (i := 428) (by decide +kernel), by decide +kernel⟩, by decide +kernel, by decide +kernel⟩
theorem lk_X2_261 : bd_lk RX2 261 yX2_isSetOn cX2_isSetOn 5 (some .boolean) 3 := ⟨⟨List.mem_of_getElem? (i := 449) (by decide +kernel), by decide +kernel⟩, ⟨List.mem_of_getElem? (i := 49) (by decide +kernel), by decide +kernel⟩, ⟨List.mem_of_getElem? (i := 446) (by decide +kernel), by decide +kernel⟩, by decide +kernel, by decide +kernel⟩
theorem lk_X2_265 : bd_lk RX2 265 yX2_bearsSlip cX2_bearsSlip 5 (some .boolean) 4 := ⟨⟨List.mem_of_getElem? (i := 465) (by decide +kernel), by decide +kernel⟩, ⟨List.mem_of_getElem? (i := 49) (by decide +kernel), by decide +kernel⟩, ⟨List.mem_of_getElem? (i := 462) (by decide +kernel), by decide +kernel⟩, by decide +kernel, by decide +kernel⟩
theorem lk_X2_57 : bd_lkN RX2 57 yX0_open "BallDrops" cX0_open 4 none 2 := ⟨⟨List.mem_of_getElem? (i := 93) (by decide +kernel), by decide +kernel⟩, ⟨List.mem_of_getElem? (i := 50) (by decide +kernel), by decide +kernel⟩, ⟨List.mem_of_getElem? (i := 90) (by decide +kernel), by decide +kernel, by decide +kernel⟩, by decide +kernel, by decide +kernel⟩
theorem lk_X2_64 : bd_lk RX2 64 yX2_noDay cX2_noDay 1 (some .boolean) 1 := ⟨⟨List.mem_of_getElem? (i := 200) (by decide +kernel), by decide +kernel⟩, ⟨List.mem_of_getElem? (i := 49) (by decide +kernel), by decide +kernel⟩, ⟨List.mem_of_getElem? (i := 198) (by decide +kernel), by decide +kernel⟩, by decide +kernel, by decide +kernel⟩
theorem lk_X2_68 : bd_lk RX2 68 yX2_beyond cX2_beyond 2 (some .boolean) 2 := ⟨⟨List.mem_of_getElem? (i := 203) (by decide +kernel), by decide +kernel⟩, ⟨List.mem_of_getElem? (i := 49) (by decide +kernel), by decide +kernel⟩, ⟨List.mem_of_getElem? (i := 201) (by decide +kernel), by decide +kernel⟩, by decide +kernel, by decide +kernel⟩
theorem lk_X2_75 : bd_lkN RX2 75 yX0_copyFrom "BallDrops" cX0_copyFrom 2 none 1 := ⟨⟨List.mem_of_getElem? (i := 207) (by decide +kernel), by decide +kernel⟩, ⟨List.mem_of_getElem? (i := 50) (by decide +kernel), by decide +kernel⟩, ⟨List.mem_of_getElem? (i := 204) (by decide +kernel), by decide +kernel, by decide +kernel⟩, by decide +kernel, by decide +kernel⟩
theorem lk_X2_79 : bd_lkN RX2 79 yX0_cut "BallDrops" cX0_cut 4 none 3 := ⟨⟨List.mem_of_getElem? (i := 214) (by decide +kernel), by decide +kernel⟩, ⟨List.mem_of_getElem? (i := 50) (by decide +kernel), by decide +kernel⟩, ⟨List.mem_of_getElem? (i := 211) (by decide +kernel), by decide +kernel, by decide +kernel⟩, by decide +kernel, by decide +kernel⟩
theorem lk_X2_83 : bd_lkN RX2 83 yX0_narrow "BallDrops" cX0_narrow 2 (some .boolean) 0 := ⟨⟨List.mem_of_getElem? (i := 224) (by decide +kernel), by decide +kernel⟩, ⟨List.mem_of_getElem? (i := 50) (by decide +kernel), by decide +kernel⟩, ⟨List.mem_of_getElem? (i := 221) (by decide +kernel), by decide +kernel, by decide +kernel⟩, by decide +kernel, by decide +kernel⟩
theorem lk_X2_87 : bd_lk RX2 87 yX2_outside cX2_outside 3 (some .boolean) 3 := ⟨⟨List.mem_of_getElem? (i := 247) (by decide +kernel), by decide +kernel⟩, ⟨List.mem_of_getElem? (i := 49) (by decide +kernel), by decide +kernel⟩, ⟨List.mem_of_getElem? (i := 245) (by decide +kernel), by decide +kernel⟩, by decide +kernel, by decide +kernel⟩
theorem lk_X2_92 : bd_lk RX2 92 yX2_noEnd cX2_noEnd 1 (some .boolean) 1 := ⟨⟨List.mem_of_getElem? (i := 255) (by decide +kernel), by decide +kernel⟩, ⟨List.mem_of_getElem? (i := 49) (by decide +kernel), by decide +kernel⟩, ⟨List.mem_of_getElem? (i := 253) (by decide +kernel), by decide +kernel⟩, by decide +kernel, by decide +kernel⟩
theorem lk_X3_107 : bd_lk RX3 107 yX3_layOffs cX3_layOffs 3 (some .boolean) 0 := ⟨⟨List.mem_of_getElem? (i := 498) (by decide +kernel), by decide +kernel⟩, ⟨List.mem_of_getElem? (i := 52) (by decide +kernel), by decide +kernel⟩, ⟨List.mem_of_getElem? (i := 495) (by decide +kernel), by decide +kernel⟩, by decide +kernel, by decide +kernel⟩
theorem lk_X3_111 : bd_lk RX3 111 yX3_in cX3_in 3 (some .boolean) 3 := ⟨⟨List.mem_of_getElem? (i := 639) (by decide +kernel), by decide +kernel⟩, ⟨List.mem_of_getElem? (i := 52) (by decide +kernel), by decide +kernel⟩, ⟨List.mem_of_getElem? (i := 637) (by decide +kernel), by decide +kernel⟩, by decide +kernel, by decide +kernel⟩
theorem lk_X3_118 : bd_lk RX3 118 yX3_down cX3_down 3 (some .int) 2 := ⟨⟨List.mem_of_getElem? (i := 520) (by decide +kernel), by decide +kernel⟩, ⟨List.mem_of_getElem? (i := 52) (by decide +kernel), by decide +kernel⟩, ⟨List.mem_of_getElem? (i := 518) (by decide +kernel), by decide +kernel⟩, by decide +kernel, by decide +kernel⟩
theorem lk_X3_126 : bd_lk RX3 126 yX3_isLeft cX3_isLeft 2 (some .boolean) 0 := ⟨⟨List.mem_of_getElem? (i := 514) (by decide +kernel), by decide +kernel⟩, ⟨List.mem_of_getElem? (i := 52) (by decide +kernel), by decide +kernel⟩, ⟨List.mem_of_getElem? (i := 511) (by decide +kernel), by decide +kernel⟩, by decide +kernel, by decide +kernel⟩
theorem lk_X3_129 : bd_lk RX3 129 yX3_within cX3_within 4 none 3 := ⟨⟨List.mem_of_getElem? (i := 506) (by decide +kernel), by decide +kernel⟩, ⟨List.mem_of_getElem? (i := 52) (by decide +kernel), by decide +kernel⟩, ⟨List.mem_of_getElem? (i := 503) (by decide +kernel), by decide +kernel⟩, by decide +kernel, by decide +kernel⟩
theorem lk_X3_133 : bd_lk RX3 133 yX3_up cX3_up 2 (some .int) 2 := ⟨⟨List.mem_of_getElem? (i := 517) (by decide +kernel), by decide +kernel⟩, ⟨List.mem_of_getElem? (i := 52) (by decide +kernel), by decide +kernel⟩, ⟨List.mem_of_getElem? (i := 515) (by decide +kernel), by decide +kernel⟩, by decide +kernel, by decide +kernel⟩
theorem lk_X3_136 : bd_lk RX3 136 yX3_start cX3_start 4 none 2 := ⟨⟨List.mem_of_getElem? (i := 502) (by decide +kernel), by decide +kernel⟩, ⟨List.mem_of_getElem? (i := 52) (by decide +kernel), by decide +kernel⟩, ⟨List.mem_of_getElem? (i := 499) (by decide +kernel), by decide +kernel⟩, by decide +kernel, by decide +kernel⟩
theorem lk_X3_143 : bd_lk RX3 143 yX3_narrow cX3_narrow 5 (some .boolean) 0 := ⟨⟨List.mem_of_getElem? (i := 510) (by decide +kernel), by decide +kernel⟩, ⟨List.mem_of_getElem? (i := 52) (by decide +kernel), by decide +kernel⟩, ⟨List.mem_of_getElem? (i := 507) (by decide +kernel), by decide +kernel⟩, by decide +kernel, by decide +kernel⟩
theorem lk_X3_146 : bd_lk RX3 146 yX3_isDay cX3_isDay 1 (some .boolean) 1 := ⟨⟨List.mem_of_getElem? (i := 636) (by decide +kernel), by decide +kernel⟩, ⟨List.mem_of_getElem? (i := 52) (by decide +kernel), by decide +kernel⟩, ⟨List.mem_of_getElem? (i := 634) (by decide +kernel), by decide +kernel⟩, by decide +kernel, by decide +kernel⟩
theorem lk_X3_151 : bd_lk RX3 151 yX3_isEnd cX3_isEnd 1 (some .boolean) 1 := ⟨⟨List.mem_of_getElem? (i := 651) (by decide +kernel), by decide +kernel⟩, ⟨List.mem_of_getElem? (i := 52) (by decide +kernel), by decide +kernel⟩, ⟨List.mem_of_getElem? (i := 649) (by decide +kernel), by decide +kernel⟩, by decide +kernel, by decide +kernel⟩
theorem lk_X3_155 : bd_lk RX3 155 yX3_lateOf cX3_lateOf 5 (some .int) 2 := ⟨⟨List.mem_of_getElem? (i := 676) (by decide +kernel), by decide +kernel⟩, ⟨List.mem_of_getElem? (i := 52) (by decide +kernel), by decide +kernel⟩, ⟨List.mem_of_getElem? (i := 673) (by decide +kernel), by decide +kernel⟩, by decide +kernel, by decide +kernel⟩
theorem lk_X3_158 : bd_lk RX3 158 yX3_isShip cX3_isShip 2 (some .boolean) 1 := ⟨⟨List.mem_of_getElem? (i := 692) (by decide +kernel), by decide +kernel⟩, ⟨List.mem_of_getElem? (i := 52) (by decide +kernel), by decide +kernel⟩, ⟨List.mem_of_getElem? (i := 689) (by decide +kernel), by decide +kernel⟩, by decide +kernel, by decide +kernel⟩
theorem lk_X3_161 : bd_lk RX3 161 yX3_isClock cX3_isClock 1 (some .boolean) 1 := ⟨⟨List.mem_of_getElem? (i := 695) (by decide +kernel), by decide +kernel⟩, ⟨List.mem_of_getElem? (i := 52) (by decide +kernel), by decide +kernel⟩, ⟨List.mem_of_getElem? (i := 693) (by decide +kernel), by decide +kernel⟩, by decide +kernel, by decide +kernel⟩
theorem lk_X3_164 : bd_lk RX3 164 yX3_isOne cX3_isOne 4 (some .boolean) 3 := ⟨⟨List.mem_of_getElem? (i := 688) (by decide +kernel), by decide +kernel⟩, ⟨List.mem_of_getElem? (i := 52) (by decide +kernel), by decide +kernel⟩, ⟨List.mem_of_getElem? (i := 685) (by decide +kernel), by decide +kernel⟩, by decide +kernel, by decide +kernel⟩
theorem lk_X3_167 : bd_lk RX3 167 yX3_mark cX3_mark 8 (some .int) 6 := ⟨⟨List.mem_of_getElem? (i := 699) (by decide +kernel), by decide +kernel⟩, ⟨List.mem_of_getElem? (i := 52) (by decide +kernel), by decide +kernel⟩, ⟨List.mem_of_getElem? (i := 696) (by decide +kernel), by decide +kernel⟩, by decide +kernel, by decide +kernel⟩
theorem lk_X3_171 : bd_lk RX3 171 yX3_doesCount cX3_doesCount 4 (some .boolean) 2 := ⟨⟨List.mem_of_getElem? (i := 731) (by decide +kernel), by decide +kernel⟩, ⟨List.mem_of_getElem? (i := 52) (by decide +kernel), by decide +kernel⟩, ⟨List.mem_of_getElem? (i := 728) (by decide +kernel), by decide +kernel⟩, by decide +kernel, by decide +kernel⟩
theorem lk_X3_175 : bd_lk RX3 175 yX3_lay cX3_lay 10 (some .boolean) 2 := ⟨⟨List.mem_of_getElem? (i := 727) (by decide +kernel), by decide +kernel⟩, ⟨List.mem_of_getElem? (i := 52) (by decide +kernel), by decide +kernel⟩, ⟨List.mem_of_getElem? (i := 724) (by decide +kernel), by decide +kernel⟩, by decide +kernel, by decide +kernel⟩
theorem lk_X3_179 : bd_lk RX3 179 yX3_placeOf cX3_placeOf 4 (some .int) 3 := ⟨⟨List.mem_of_getElem? (i := 748) (by decide +kernel), by decide +kernel⟩, ⟨List.mem_of_getElem? (i := 52) (by decide +kernel), by decide +kernel⟩, ⟨List.mem_of_getElem? (i := 745) (by decide +kernel), by decide +kernel⟩, by decide +kernel, by decide +kernel⟩
theorem lk_X3_191 : bd_lk RX3 191 yX3_agrees cX3_agrees 4 (some .boolean) 1 := ⟨⟨List.mem_of_getElem? (i := 768) (by decide +kernel), by decide +kernel⟩, ⟨List.mem_of_getElem? (i := 52) (by decide +kernel), by decide +kernel⟩, ⟨List.mem_of_getElem? (i := 765) (by decide +kernel), by decide +kernel⟩, by decide +kernel, by decide +kernel⟩
theorem lk_X3_194 : bd_lk RX3 194 yX3_layPlaces cX3_layPlaces 3 none 1 := ⟨⟨List.mem_of_getElem? (i := 760) (by decide +kernel), by decide +kernel⟩, ⟨List.mem_of_getElem? (i := 52) (by decide +kernel), by decide +kernel⟩, ⟨List.mem_of_getElem? (i := 757) (by decide +kernel), by decide +kernel⟩, by decide +kernel, by decide +kernel⟩
theorem lk_X3_198 : bd_lk RX3 198 yX3_weightOf cX3_weightOf 6 (some .int) 2 := ⟨⟨List.mem_of_getElem? (i := 764) (by decide +kernel), by decide +kernel⟩, ⟨List.mem_of_getElem? (i := 52) (by decide +kernel), by decide +kernel⟩, ⟨List.mem_of_getElem? (i := 761) (by decide +kernel), by decide +kernel⟩, by decide +kernel, by decide +kernel⟩
theorem lk_X3_205 : bd_lk RX3 205 yX3_bits cX3_bits 1 (some .int) 1 := ⟨⟨List.mem_of_getElem? (i := 787) (by decide +kernel), by decide +kernel⟩, ⟨List.mem_of_getElem? (i := 52) (by decide +kernel), by decide +kernel⟩, ⟨List.mem_of_getElem? (i := 785) (by decide +kernel), by decide +kernel⟩, by decide +kernel, by decide +kernel⟩
theorem lk_X3_209 : bd_lk RX3 209 yX3_bestOf cX3_bestOf 5 (some .int) 1 := ⟨⟨List.mem_of_getElem? (i := 784) (by decide +kernel), by decide +kernel⟩, ⟨List.mem_of_getElem? (i := 52) (by decide +kernel), by decide +kernel⟩, ⟨List.mem_of_getElem? (i := 781) (by decide +kernel), by decide +kernel⟩, by decide +kernel, by decide +kernel⟩
theorem lk_X3_212 : bd_lk RX3 212 yX3_suspects cX3_suspects 5 (some .int) 1 := ⟨⟨List.mem_of_getElem? (i := 799) (by decide +kernel), by decide +kernel⟩, ⟨List.mem_of_getElem? (i := 52) (by decide +kernel), by decide +kernel⟩, ⟨List.mem_of_getElem? (i := 796) (by decide +kernel), by decide +kernel⟩, by decide +kernel, by decide +kernel⟩
theorem lk_X3_215 : bd_lk RX3 215 yX3_isSetBy cX3_isSetBy 7 (some .boolean) 3 := ⟨⟨List.mem_of_getElem? (i := 816) (by decide +kernel), by decide +kernel⟩, ⟨List.mem_of_getElem? (i := 52) (by decide +kernel), by decide +kernel⟩, ⟨List.mem_of_getElem? (i := 813) (by decide +kernel), by decide +kernel⟩, by decide +kernel, by decide +kernel⟩
theorem lk_X3_219 : bd_lk RX3 219 yX3_allGo cX3_allGo 4 (some .boolean) 1 := ⟨⟨List.mem_of_getElem? (i := 812) (by decide +kernel), by decide +kernel⟩, ⟨List.mem_of_getElem? (i := 52) (by decide +kernel), by decide +kernel⟩, ⟨List.mem_of_getElem? (i := 809) (by decide +kernel), by decide +kernel⟩, by decide +kernel, by decide +kernel⟩
theorem lk_X3_222 : bd_lk RX3 222 yX3_isMarked cX3_isMarked 6 (some .boolean) 2 := ⟨⟨List.mem_of_getElem? (i := 824) (by decide +kernel), by decide +kernel⟩, ⟨List.mem_of_getElem? (i := 52) (by decide +kernel), by decide +kernel⟩, ⟨List.mem_of_getElem? (i := 821) (by decide +kernel), by decide +kernel⟩, by decide +kernel, by decide +kernel⟩
theorem mm_X0_31 : bd_in (.methodLink RX0 31 Lib.Math.max.name) := ⟨List.mem_of_getElem? (i := 215) (by decide +kernel), by decide +kernel⟩
theorem mm_X0_37 : bd_in (.methodLink RX0 37 Lib.Math.min.name) := ⟨List.mem_of_getElem? (i := 218) (by decide +kernel), by decide +kernel⟩
theorem mm_X2_210 : bd_in (.methodLink RX2 210 Lib.Math.max.name) := ⟨List.mem_of_getElem? (i := 405) (by decide +kernel), by decide +kernel⟩
theorem mm_X2_215 : bd_in (.methodLink RX2 215 Lib.Math.min.name) := ⟨List.mem_of_getElem? (i := 410) (by decide +kernel), by decide +kernel⟩
theorem sm_J6_bitCount_0f7a4 : bd_in (.static yJ6_bitCount_0f7a4) := ⟨List.mem_of_getElem? (i := 429) (by decide +kernel), by decide +kernel⟩
theorem sm_J9_floorDiv_7cf53 : bd_in (.static yJ9_floorDiv_7cf53) := ⟨List.mem_of_getElem? (i := 233) (by decide +kernel), by decide +kernel⟩
theorem sm_X2_beyond : bd_in (.static yX2_beyond) := ⟨List.mem_of_getElem? (i := 202) (by decide +kernel), by decide +kernel⟩
theorem sm_X2_bitOf : bd_in (.static yX2_bitOf) := ⟨List.mem_of_getElem? (i := 274) (by decide +kernel), by decide +kernel⟩
theorem sm_X2_cutUp : bd_in (.static yX2_cutUp) := ⟨List.mem_of_getElem? (i := 230) (by decide +kernel), by decide +kernel⟩
theorem sm_X2_greatestDivisor : bd_in (.static yX2_greatestDivisor) := ⟨List.mem_of_getElem? (i := 418) (by decide +kernel), by decide +kernel⟩
theorem sm_X2_latestNoted : bd_in (.static yX2_latestNoted) := ⟨List.mem_of_getElem? (i := 312) (by decide +kernel), by decide +kernel⟩
theorem sm_X2_noDay : bd_in (.static yX2_noDay) := ⟨List.mem_of_getElem? (i := 199) (by decide +kernel), by decide +kernel⟩
theorem sm_X2_noEnd : bd_in (.static yX2_noEnd) := ⟨List.mem_of_getElem? (i := 254) (by decide +kernel), by decide +kernel⟩
theorem sm_X2_outside : bd_in (.static yX2_outside) := ⟨List.mem_of_getElem? (i := 246) (by decide +kernel), by decide +kernel⟩
theorem sm_X2_soonestNoted : bd_in (.static yX2_soonestNoted) := ⟨List.mem_of_getElem? (i := 315) (by decide +kernel), by decide +kernel⟩
theorem sm_X2_withBit : bd_in (.static yX2_withBit) := ⟨List.mem_of_getElem? (i := 277) (by decide +kernel), by decide +kernel⟩
theorem sm_X3_bits : bd_in (.static yX3_bits) := ⟨List.mem_of_getElem? (i := 786) (by decide +kernel), by decide +kernel⟩
theorem sm_X3_down : bd_in (.static yX3_down) := ⟨List.mem_of_getElem? (i := 519) (by decide +kernel), by decide +kernel⟩
theorem sm_X3_in : bd_in (.static yX3_in) := ⟨List.mem_of_getElem? (i := 638) (by decide +kernel), by decide +kernel⟩
theorem sm_X3_isClock : bd_in (.static yX3_isClock) := ⟨List.mem_of_getElem? (i := 694) (by decide +kernel), by decide +kernel⟩
theorem sm_X3_isDay : bd_in (.static yX3_isDay) := ⟨List.mem_of_getElem? (i := 635) (by decide +kernel), by decide +kernel⟩
theorem sm_X3_isEnd : bd_in (.static yX3_isEnd) := ⟨List.mem_of_getElem? (i := 650) (by decide +kernel), by decide +kernel⟩
theorem sm_X3_up : bd_in (.static yX3_up) := ⟨List.mem_of_getElem? (i := 516) (by decide +kernel), by decide +kernel⟩
section BDF
variable {G : bd_G} {cc : ByteArray} {nL : Nat} {n fr lo : Nat} {rt : Option FieldType} {α : Type} {out : α} {F F1 F2 : Option α} {σ : bd_S} {pc : Nat} {lv lr : List (Nat × Value)} {st : List Value}
theorem wd_X0_15 : bd_in (.fieldLink RX0 15 RX0 (TX0 1).2.1 (TX0 1).2.2.1) := ⟨List.mem_of_getElem? (i := 72) (by decide +kernel), by decide +kernel⟩
theorem gf_X0_15 {r : Nat} (hr : bd_isL r) (hG : bd_OK G cc nL RX0 n fr lo rt) (hn : 10 ≤ n) (hd : decode cc pc = .ok (.getfield 15, 3)) (kk : bd_WF G out F σ (pc + 3) lv (.ref (bd_ad (g_E G) (r + 2)) :: st)) : bd_WF G out F σ pc lv (.ref (bd_ad (g_E G) r) :: st) :=
  rr_get (v := .ref (bd_ad (g_E G) (r + 2))) (ci := 0) hG (bd_kL0 hr) (bd_bL0 hr hn) rfl (by decide) inX0 1 (by decide) wd_X0_15 rfl rfl hd kk
theorem wd_X0_18 : bd_in (.fieldLink RX0 18 RX0 (TX0 2).2.1 (TX0 2).2.2.1) := ⟨List.mem_of_getElem? (i := 74) (by decide +kernel), by decide +kernel⟩
theorem gf_X0_18 {r : Nat} (hr : bd_isL r) (hG : bd_OK G cc nL RX0 n fr lo rt) (hn : 10 ≤ n) {k : Int32 → Option α} (hd : decode cc pc = .ok (.getfield 18, 3)) (kk : ∀ z, bd_WF G out (k z) σ (pc + 3) lv (.int z :: st)) : bd_WF G out (bd_lt (σ r 2) k) σ pc lv (.ref (bd_ad (g_E G) r) :: st) :=
  rr_get (v := .int (σ r 2)) (ci := 0) hG (bd_kL0 hr) (bd_bL0 hr hn) rfl (by decide) inX0 2 (by decide) wd_X0_18 rfl rfl hd (kk _)
theorem wd_X0_22 : bd_in (.fieldLink RX0 22 RX0 (TX0 3).2.1 (TX0 3).2.2.1) := ⟨List.mem_of_getElem? (i := 76) (by decide +kernel), by decide +kernel⟩
theorem gf_X0_22 {r : Nat} (hr : bd_isL r) (hG : bd_OK G cc nL RX0 n fr lo rt) (hn : 10 ≤ n) {k : Int32 → Option α} (hd : decode cc pc = .ok (.getfield 22, 3)) (kk : ∀ z, bd_WF G out (k z) σ (pc + 3) lv (.int z :: st)) : bd_WF G out (bd_lt (σ r 3) k) σ pc lv (.ref (bd_ad (g_E G) r) :: st) :=
  rr_get (v := .int (σ r 3)) (ci := 0) hG (bd_kL0 hr) (bd_bL0 hr hn) rfl (by decide) inX0 3 (by decide) wd_X0_22 rfl rfl hd (kk _)
theorem wd_X0_9 : bd_in (.fieldLink RX0 9 RX0 (TX0 0).2.1 (TX0 0).2.2.1) := ⟨List.mem_of_getElem? (i := 70) (by decide +kernel), by decide +kernel⟩
theorem gf_X0_9 {r : Nat} (hr : bd_isL r) (hG : bd_OK G cc nL RX0 n fr lo rt) (hn : 10 ≤ n) (hd : decode cc pc = .ok (.getfield 9, 3)) (kk : bd_WF G out F σ (pc + 3) lv (.ref (bd_ad (g_E G) (r + 1)) :: st)) : bd_WF G out F σ pc lv (.ref (bd_ad (g_E G) r) :: st) :=
  rr_get (v := .ref (bd_ad (g_E G) (r + 1))) (ci := 0) hG (bd_kL0 hr) (bd_bL0 hr hn) rfl (by decide) inX0 0 (by decide) wd_X0_9 rfl rfl hd kk
theorem wd_X1_15 : bd_in (.fieldLink RX1 15 RX1 (TX1 1).2.1 (TX1 1).2.2.1) := ⟨List.mem_of_getElem? (i := 101) (by decide +kernel), by decide +kernel⟩
theorem gf_X1_15 {r : Nat} (hr : bd_isS r) (hG : bd_OK G cc nL RX1 n fr lo rt) (hn : 55 ≤ n) (hd : decode cc pc = .ok (.getfield 15, 3)) (kk : bd_WF G out F σ (pc + 3) lv (.ref (bd_ad (g_E G) (r + 2)) :: st)) : bd_WF G out F σ pc lv (.ref (bd_ad (g_E G) r) :: st) :=
  rr_get (v := .ref (bd_ad (g_E G) (r + 2))) (ci := 1) hG (bd_kS0 hr) (bd_bS0 hr hn) rfl (by decide) inX1 1 (by decide) wd_X1_15 rfl rfl hd kk
theorem wd_X1_18 : bd_in (.fieldLink RX1 18 RX1 (TX1 2).2.1 (TX1 2).2.2.1) := ⟨List.mem_of_getElem? (i := 103) (by decide +kernel), by decide +kernel⟩
theorem gf_X1_18 {r : Nat} (hr : bd_isS r) (hG : bd_OK G cc nL RX1 n fr lo rt) (hn : 55 ≤ n) (hd : decode cc pc = .ok (.getfield 18, 3)) (kk : bd_WF G out F σ (pc + 3) lv (.ref (bd_ad (g_E G) (r + 3)) :: st)) : bd_WF G out F σ pc lv (.ref (bd_ad (g_E G) r) :: st) :=
  rr_get (v := .ref (bd_ad (g_E G) (r + 3))) (ci := 1) hG (bd_kS0 hr) (bd_bS0 hr hn) rfl (by decide) inX1 2 (by decide) wd_X1_18 rfl rfl hd kk
theorem wd_X1_22 : bd_in (.fieldLink RX1 22 RX1 (TX1 3).2.1 (TX1 3).2.2.1) := ⟨List.mem_of_getElem? (i := 105) (by decide +kernel), by decide +kernel⟩
theorem gf_X1_22 {r : Nat} (hr : bd_isS r) (hG : bd_OK G cc nL RX1 n fr lo rt) (hn : 55 ≤ n) (hd : decode cc pc = .ok (.getfield 22, 3)) (kk : bd_WF G out F σ (pc + 3) lv (.ref (bd_ad (g_E G) (r + 4)) :: st)) : bd_WF G out F σ pc lv (.ref (bd_ad (g_E G) r) :: st) :=
  rr_get (v := .ref (bd_ad (g_E G) (r + 4))) (ci := 1) hG (bd_kS0 hr) (bd_bS0 hr hn) rfl (by decide) inX1 3 (by decide) wd_X1_22 rfl rfl hd kk
theorem wd_X1_25 : bd_in (.fieldLink RX1 25 RX1 (TX1 4).2.1 (TX1 4).2.2.1) := ⟨List.mem_of_getElem? (i := 107) (by decide +kernel), by decide +kernel⟩
theorem gf_X1_25 {r : Nat} (hr : bd_isS r) (hG : bd_OK G cc nL RX1 n fr lo rt) (hn : 55 ≤ n) (hd : decode cc pc = .ok (.getfield 25, 3)) (kk : bd_WF G out F σ (pc + 3) lv (.ref (bd_ad (g_E G) (r + 5)) :: st)) : bd_WF G out F σ pc lv (.ref (bd_ad (g_E G) r) :: st) :=
  rr_get (v := .ref (bd_ad (g_E G) (r + 5))) (ci := 1) hG (bd_kS0 hr) (bd_bS0 hr hn) rfl (by decide) inX1 4 (by decide) wd_X1_25 rfl rfl hd kk
theorem wd_X1_37 : bd_in (.fieldLink RX1 37 RX1 (TX1 8).2.1 (TX1 8).2.2.1) := ⟨List.mem_of_getElem? (i := 115) (by decide +kernel), by decide +kernel⟩
theorem gf_X1_37 {r : Nat} (hr : bd_isS r) (hG : bd_OK G cc nL RX1 n fr lo rt) (hn : 55 ≤ n) {k : Int32 → Option α} (hd : decode cc pc = .ok (.getfield 37, 3)) (kk : ∀ z, bd_WF G out (k z) σ (pc + 3) lv (.int z :: st)) : bd_WF G out (bd_lt (σ r 8) k) σ pc lv (.ref (bd_ad (g_E G) r) :: st) :=
  rr_get (v := .int (σ r 8)) (ci := 1) hG (bd_kS0 hr) (bd_bS0 hr hn) rfl (by decide) inX1 8 (by decide) wd_X1_37 rfl rfl hd (kk _)
theorem wd_X1_9 : bd_in (.fieldLink RX1 9 RX1 (TX1 0).2.1 (TX1 0).2.2.1) := ⟨List.mem_of_getElem? (i := 99) (by decide +kernel), by decide +kernel⟩
theorem gf_X1_9 {r : Nat} (hr : bd_isS r) (hG : bd_OK G cc nL RX1 n fr lo rt) (hn : 55 ≤ n) (hd : decode cc pc = .ok (.getfield 9, 3)) (kk : bd_WF G out F σ (pc + 3) lv (.ref (bd_ad (g_E G) (r + 1)) :: st)) : bd_WF G out F σ pc lv (.ref (bd_ad (g_E G) r) :: st) :=
  rr_get (v := .ref (bd_ad (g_E G) (r + 1))) (ci := 1) hG (bd_kS0 hr) (bd_bS0 hr hn) rfl (by decide) inX1 0 (by decide) wd_X1_9 rfl rfl hd kk
theorem wd_X2_10 : bd_in (.fieldLink RX2 10 RX2 (TX2 0).2.1 (TX2 0).2.2.1) := ⟨List.mem_of_getElem? (i := 145) (by decide +kernel), by decide +kernel⟩
theorem gf_X2_10 (hG : bd_OK G cc nL RX2 n fr lo rt) (hn : 0 < n) (hd : decode cc pc = .ok (.getfield 10, 3)) (kk : bd_WF G out F σ (pc + 3) lv (.ref (bd_ad (g_E G) 1) :: st)) : bd_WF G out F σ pc lv (.ref (bd_ad (g_E G) 0) :: st) :=
  rr_get (v := .ref (bd_ad (g_E G) 1)) (ci := 2) hG rfl hn rfl (by decide) inX2 0 (by decide) wd_X2_10 rfl rfl hd kk
theorem wd_X2_102 : bd_inN (.fieldLinkNest RX2 102 RX0 (TX0 2).2.1 (TX0 2).2.2.1 "BallDrops") := ⟨List.mem_of_getElem? (i := 75) (by decide +kernel), by decide +kernel, by decide +kernel⟩
theorem gf_X2_102 {r : Nat} (hr : bd_isL r) (hG : bd_OK G cc nL RX2 n fr lo rt) (hn : 10 ≤ n) {k : Int32 → Option α} (hd : decode cc pc = .ok (.getfield 102, 3)) (kk : ∀ z, bd_WF G out (k z) σ (pc + 3) lv (.int z :: st)) : bd_WF G out (bd_lt (σ r 2) k) σ pc lv (.ref (bd_ad (g_E G) r) :: st) :=
  rr_getN (v := .int (σ r 2)) (ci := 0) hG (bd_kL0 hr) (bd_bL0 hr hn) rfl (by decide) inX0 2 (by decide) wd_X2_102 rfl rfl hd (kk _)
theorem wd_X2_105 : bd_inN (.fieldLinkNest RX2 105 RX0 (TX0 3).2.1 (TX0 3).2.2.1 "BallDrops") := ⟨List.mem_of_getElem? (i := 77) (by decide +kernel), by decide +kernel, by decide +kernel⟩
theorem gf_X2_105 {r : Nat} (hr : bd_isL r) (hG : bd_OK G cc nL RX2 n fr lo rt) (hn : 10 ≤ n) {k : Int32 → Option α} (hd : decode cc pc = .ok (.getfield 105, 3)) (kk : ∀ z, bd_WF G out (k z) σ (pc + 3) lv (.int z :: st)) : bd_WF G out (bd_lt (σ r 3) k) σ pc lv (.ref (bd_ad (g_E G) r) :: st) :=
  rr_getN (v := .int (σ r 3)) (ci := 0) hG (bd_kL0 hr) (bd_bL0 hr hn) rfl (by decide) inX0 3 (by decide) wd_X2_105 rfl rfl hd (kk _)
theorem wd_X2_108 : bd_in (.fieldLink RX2 108 RX2 (TX2 14).2.1 (TX2 14).2.2.1) := ⟨List.mem_of_getElem? (i := 159) (by decide +kernel), by decide +kernel⟩
theorem gf_X2_108 (hG : bd_OK G cc nL RX2 n fr lo rt) (hn : 0 < n) {k : Int32 → Option α} (hd : decode cc pc = .ok (.getfield 108, 3)) (kk : ∀ z, bd_WF G out (k z) σ (pc + 3) lv (.int z :: st)) : bd_WF G out (bd_lt (σ 0 14) k) σ pc lv (.ref (bd_ad (g_E G) 0) :: st) :=
  rr_get (v := .int (σ 0 14)) (ci := 2) hG rfl hn rfl (by decide) inX2 14 (by decide) wd_X2_108 rfl rfl hd (kk _)
theorem wd_X2_126 : bd_in (.fieldLink RX2 126 RX2 (TX2 15).2.1 (TX2 15).2.2.1) := ⟨List.mem_of_getElem? (i := 160) (by decide +kernel), by decide +kernel⟩
theorem gf_X2_126 (hG : bd_OK G cc nL RX2 n fr lo rt) (hn : 0 < n) {k : Int32 → Option α} (hd : decode cc pc = .ok (.getfield 126, 3)) (kk : ∀ z, bd_WF G out (k z) σ (pc + 3) lv (.int z :: st)) : bd_WF G out (bd_lt (σ 0 15) k) σ pc lv (.ref (bd_ad (g_E G) 0) :: st) :=
  rr_get (v := .int (σ 0 15)) (ci := 2) hG rfl hn rfl (by decide) inX2 15 (by decide) wd_X2_126 rfl rfl hd (kk _)
theorem wd_X2_145 : bd_inN (.fieldLinkNest RX2 145 RX1 (TX1 8).2.1 (TX1 8).2.2.1 "BallDrops") := ⟨List.mem_of_getElem? (i := 116) (by decide +kernel), by decide +kernel, by decide +kernel⟩
theorem gf_X2_145 {r : Nat} (hr : bd_isS r) (hG : bd_OK G cc nL RX2 n fr lo rt) (hn : 55 ≤ n) {k : Int32 → Option α} (hd : decode cc pc = .ok (.getfield 145, 3)) (kk : ∀ z, bd_WF G out (k z) σ (pc + 3) lv (.int z :: st)) : bd_WF G out (bd_lt (σ r 8) k) σ pc lv (.ref (bd_ad (g_E G) r) :: st) :=
  rr_getN (v := .int (σ r 8)) (ci := 1) hG (bd_kS0 hr) (bd_bS0 hr hn) rfl (by decide) inX1 8 (by decide) wd_X2_145 rfl rfl hd (kk _)
theorem wd_X2_148 : bd_inN (.fieldLinkNest RX2 148 RX1 (TX1 9).2.1 (TX1 9).2.2.1 "BallDrops") := ⟨List.mem_of_getElem? (i := 117) (by decide +kernel), by decide +kernel, by decide +kernel⟩
theorem gf_X2_148 {r : Nat} (hr : bd_isS r) (hG : bd_OK G cc nL RX2 n fr lo rt) (hn : 55 ≤ n) {k : Int32 → Option α} (hd : decode cc pc = .ok (.getfield 148, 3)) (kk : ∀ z, bd_WF G out (k z) σ (pc + 3) lv (.int z :: st)) : bd_WF G out (bd_lt (σ r 9) k) σ pc lv (.ref (bd_ad (g_E G) r) :: st) :=
  rr_getN (v := .int (σ r 9)) (ci := 1) hG (bd_kS0 hr) (bd_bS0 hr hn) rfl (by decide) inX1 9 (by decide) wd_X2_148 rfl rfl hd (kk _)
theorem wd_X2_151 : bd_inN (.fieldLinkNest RX2 151 RX1 (TX1 5).2.1 (TX1 5).2.2.1 "BallDrops") := ⟨List.mem_of_getElem? (i := 110) (by decide +kernel), by decide +kernel, by decide +kernel⟩
theorem gf_X2_151 {r : Nat} (hr : bd_isS r) (hG : bd_OK G cc nL RX2 n fr lo rt) (hn : 55 ≤ n) (hd : decode cc pc = .ok (.getfield 151, 3)) (kk : bd_WF G out F σ (pc + 3) lv (.ref (bd_ad (g_E G) (r + 6)) :: st)) : bd_WF G out F σ pc lv (.ref (bd_ad (g_E G) r) :: st) :=
  rr_getN (v := .ref (bd_ad (g_E G) (r + 6))) (ci := 1) hG (bd_kS0 hr) (bd_bS0 hr hn) rfl (by decide) inX1 5 (by decide) wd_X2_151 rfl rfl hd kk
theorem wd_X2_154 : bd_inN (.fieldLinkNest RX2 154 RX1 (TX1 6).2.1 (TX1 6).2.2.1 "BallDrops") := ⟨List.mem_of_getElem? (i := 112) (by decide +kernel), by decide +kernel, by decide +kernel⟩
theorem gf_X2_154 {r : Nat} (hr : bd_isS r) (hG : bd_OK G cc nL RX2 n fr lo rt) (hn : 55 ≤ n) (hd : decode cc pc = .ok (.getfield 154, 3)) (kk : bd_WF G out F σ (pc + 3) lv (.ref (bd_ad (g_E G) (r + 7)) :: st)) : bd_WF G out F σ pc lv (.ref (bd_ad (g_E G) r) :: st) :=
  rr_getN (v := .ref (bd_ad (g_E G) (r + 7))) (ci := 1) hG (bd_kS0 hr) (bd_bS0 hr hn) rfl (by decide) inX1 6 (by decide) wd_X2_154 rfl rfl hd kk
theorem wd_X2_16 : bd_in (.fieldLink RX2 16 RX2 (TX2 1).2.1 (TX2 1).2.2.1) := ⟨List.mem_of_getElem? (i := 146) (by decide +kernel), by decide +kernel⟩
theorem gf_X2_16 (hG : bd_OK G cc nL RX2 n fr lo rt) (hn : 0 < n) (hd : decode cc pc = .ok (.getfield 16, 3)) (kk : bd_WF G out F σ (pc + 3) lv (.ref (bd_ad (g_E G) 4) :: st)) : bd_WF G out F σ pc lv (.ref (bd_ad (g_E G) 0) :: st) :=
  rr_get (v := .ref (bd_ad (g_E G) 4)) (ci := 2) hG rfl hn rfl (by decide) inX2 1 (by decide) wd_X2_16 rfl rfl hd kk
theorem wd_X2_168 : bd_inN (.fieldLinkNest RX2 168 RX1 (TX1 10).2.1 (TX1 10).2.2.1 "BallDrops") := ⟨List.mem_of_getElem? (i := 118) (by decide +kernel), by decide +kernel, by decide +kernel⟩
theorem gf_X2_168 {r : Nat} (hr : bd_isS r) (hG : bd_OK G cc nL RX2 n fr lo rt) (hn : 55 ≤ n) {k : Int32 → Option α} (hd : decode cc pc = .ok (.getfield 168, 3)) (kk : ∀ z, bd_WF G out (k z) σ (pc + 3) lv (.int z :: st)) : bd_WF G out (bd_lt (σ r 10) k) σ pc lv (.ref (bd_ad (g_E G) r) :: st) :=
  rr_getN (v := .int (σ r 10)) (ci := 1) hG (bd_kS0 hr) (bd_bS0 hr hn) rfl (by decide) inX1 10 (by decide) wd_X2_168 rfl rfl hd (kk _)
theorem wd_X2_171 : bd_inN (.fieldLinkNest RX2 171 RX1 (TX1 7).2.1 (TX1 7).2.2.1 "BallDrops") := ⟨List.mem_of_getElem? (i := 114) (by decide +kernel), by decide +kernel, by decide +kernel⟩
theorem gf_X2_171 {r : Nat} (hr : bd_isS r) (hG : bd_OK G cc nL RX2 n fr lo rt) (hn : 55 ≤ n) (hd : decode cc pc = .ok (.getfield 171, 3)) (kk : bd_WF G out F σ (pc + 3) lv (.ref (bd_ad (g_E G) (r + 8)) :: st)) : bd_WF G out F σ pc lv (.ref (bd_ad (g_E G) r) :: st) :=
  rr_getN (v := .ref (bd_ad (g_E G) (r + 8))) (ci := 1) hG (bd_kS0 hr) (bd_bS0 hr hn) rfl (by decide) inX1 7 (by decide) wd_X2_171 rfl rfl hd kk
theorem wd_X2_19 : bd_in (.fieldLink RX2 19 RX2 (TX2 2).2.1 (TX2 2).2.2.1) := ⟨List.mem_of_getElem? (i := 147) (by decide +kernel), by decide +kernel⟩
theorem gf_X2_19 (hG : bd_OK G cc nL RX2 n fr lo rt) (hn : 0 < n) (hd : decode cc pc = .ok (.getfield 19, 3)) (kk : bd_WF G out F σ (pc + 3) lv (.ref (bd_ad (g_E G) 7) :: st)) : bd_WF G out F σ pc lv (.ref (bd_ad (g_E G) 0) :: st) :=
  rr_get (v := .ref (bd_ad (g_E G) 7)) (ci := 2) hG rfl hn rfl (by decide) inX2 2 (by decide) wd_X2_19 rfl rfl hd kk
theorem wd_X2_22 : bd_in (.fieldLink RX2 22 RX2 (TX2 3).2.1 (TX2 3).2.2.1) := ⟨List.mem_of_getElem? (i := 148) (by decide +kernel), by decide +kernel⟩
theorem gf_X2_22 (hG : bd_OK G cc nL RX2 n fr lo rt) (hn : 0 < n) (hd : decode cc pc = .ok (.getfield 22, 3)) (kk : bd_WF G out F σ (pc + 3) lv (.ref (bd_ad (g_E G) 10) :: st)) : bd_WF G out F σ pc lv (.ref (bd_ad (g_E G) 0) :: st) :=
  rr_get (v := .ref (bd_ad (g_E G) 10)) (ci := 2) hG rfl hn rfl (by decide) inX2 3 (by decide) wd_X2_22 rfl rfl hd kk
theorem wd_X2_224 : bd_inN (.fieldLinkNest RX2 224 RX1 (TX1 2).2.1 (TX1 2).2.2.1 "BallDrops") := ⟨List.mem_of_getElem? (i := 104) (by decide +kernel), by decide +kernel, by decide +kernel⟩
theorem gf_X2_224 {r : Nat} (hr : bd_isS r) (hG : bd_OK G cc nL RX2 n fr lo rt) (hn : 55 ≤ n) (hd : decode cc pc = .ok (.getfield 224, 3)) (kk : bd_WF G out F σ (pc + 3) lv (.ref (bd_ad (g_E G) (r + 3)) :: st)) : bd_WF G out F σ pc lv (.ref (bd_ad (g_E G) r) :: st) :=
  rr_getN (v := .ref (bd_ad (g_E G) (r + 3))) (ci := 1) hG (bd_kS0 hr) (bd_bS0 hr hn) rfl (by decide) inX1 2 (by decide) wd_X2_224 rfl rfl hd kk
theorem wd_X2_228 : bd_inN (.fieldLinkNest RX2 228 RX1 (TX1 1).2.1 (TX1 1).2.2.1 "BallDrops") := ⟨List.mem_of_getElem? (i := 102) (by decide +kernel), by decide +kernel, by decide +kernel⟩
theorem gf_X2_228 {r : Nat} (hr : bd_isS r) (hG : bd_OK G cc nL RX2 n fr lo rt) (hn : 55 ≤ n) (hd : decode cc pc = .ok (.getfield 228, 3)) (kk : bd_WF G out F σ (pc + 3) lv (.ref (bd_ad (g_E G) (r + 2)) :: st)) : bd_WF G out F σ pc lv (.ref (bd_ad (g_E G) r) :: st) :=
  rr_getN (v := .ref (bd_ad (g_E G) (r + 2))) (ci := 1) hG (bd_kS0 hr) (bd_bS0 hr hn) rfl (by decide) inX1 1 (by decide) wd_X2_228 rfl rfl hd kk
theorem wd_X2_231 : bd_inN (.fieldLinkNest RX2 231 RX1 (TX1 0).2.1 (TX1 0).2.2.1 "BallDrops") := ⟨List.mem_of_getElem? (i := 100) (by decide +kernel), by decide +kernel, by decide +kernel⟩
theorem gf_X2_231 {r : Nat} (hr : bd_isS r) (hG : bd_OK G cc nL RX2 n fr lo rt) (hn : 55 ≤ n) (hd : decode cc pc = .ok (.getfield 231, 3)) (kk : bd_WF G out F σ (pc + 3) lv (.ref (bd_ad (g_E G) (r + 1)) :: st)) : bd_WF G out F σ pc lv (.ref (bd_ad (g_E G) r) :: st) :=
  rr_getN (v := .ref (bd_ad (g_E G) (r + 1))) (ci := 1) hG (bd_kS0 hr) (bd_bS0 hr hn) rfl (by decide) inX1 0 (by decide) wd_X2_231 rfl rfl hd kk
theorem wd_X2_241 : bd_inN (.fieldLinkNest RX2 241 RX1 (TX1 3).2.1 (TX1 3).2.2.1 "BallDrops") := ⟨List.mem_of_getElem? (i := 106) (by decide +kernel), by decide +kernel, by decide +kernel⟩
theorem gf_X2_241 {r : Nat} (hr : bd_isS r) (hG : bd_OK G cc nL RX2 n fr lo rt) (hn : 55 ≤ n) (hd : decode cc pc = .ok (.getfield 241, 3)) (kk : bd_WF G out F σ (pc + 3) lv (.ref (bd_ad (g_E G) (r + 4)) :: st)) : bd_WF G out F σ pc lv (.ref (bd_ad (g_E G) r) :: st) :=
  rr_getN (v := .ref (bd_ad (g_E G) (r + 4))) (ci := 1) hG (bd_kS0 hr) (bd_bS0 hr hn) rfl (by decide) inX1 3 (by decide) wd_X2_241 rfl rfl hd kk
theorem wd_X2_244 : bd_inN (.fieldLinkNest RX2 244 RX1 (TX1 4).2.1 (TX1 4).2.2.1 "BallDrops") := ⟨List.mem_of_getElem? (i := 108) (by decide +kernel), by decide +kernel, by decide +kernel⟩
theorem gf_X2_244 {r : Nat} (hr : bd_isS r) (hG : bd_OK G cc nL RX2 n fr lo rt) (hn : 55 ≤ n) (hd : decode cc pc = .ok (.getfield 244, 3)) (kk : bd_WF G out F σ (pc + 3) lv (.ref (bd_ad (g_E G) (r + 5)) :: st)) : bd_WF G out F σ pc lv (.ref (bd_ad (g_E G) r) :: st) :=
  rr_getN (v := .ref (bd_ad (g_E G) (r + 5))) (ci := 1) hG (bd_kS0 hr) (bd_bS0 hr hn) rfl (by decide) inX1 4 (by decide) wd_X2_244 rfl rfl hd kk
theorem wd_X2_26 : bd_in (.fieldLink RX2 26 RX2 (TX2 4).2.1 (TX2 4).2.2.1) := ⟨List.mem_of_getElem? (i := 149) (by decide +kernel), by decide +kernel⟩
theorem gf_X2_26 (hG : bd_OK G cc nL RX2 n fr lo rt) (hn : 0 < n) (hd : decode cc pc = .ok (.getfield 26, 3)) (kk : bd_WF G out F σ (pc + 3) lv (.ref (bd_ad (g_E G) 11) :: st)) : bd_WF G out F σ pc lv (.ref (bd_ad (g_E G) 0) :: st) :=
  rr_get (v := .ref (bd_ad (g_E G) 11)) (ci := 2) hG rfl hn rfl (by decide) inX2 4 (by decide) wd_X2_26 rfl rfl hd kk
theorem wd_X2_29 : bd_in (.fieldLink RX2 29 RX2 (TX2 5).2.1 (TX2 5).2.2.1) := ⟨List.mem_of_getElem? (i := 150) (by decide +kernel), by decide +kernel⟩
theorem gf_X2_29 (hG : bd_OK G cc nL RX2 n fr lo rt) (hn : 0 < n) (hd : decode cc pc = .ok (.getfield 29, 3)) (kk : bd_WF G out F σ (pc + 3) lv (.ref (bd_ad (g_E G) 12) :: st)) : bd_WF G out F σ pc lv (.ref (bd_ad (g_E G) 0) :: st) :=
  rr_get (v := .ref (bd_ad (g_E G) 12)) (ci := 2) hG rfl hn rfl (by decide) inX2 5 (by decide) wd_X2_29 rfl rfl hd kk
theorem wd_X2_32 : bd_in (.fieldLink RX2 32 RX2 (TX2 6).2.1 (TX2 6).2.2.1) := ⟨List.mem_of_getElem? (i := 151) (by decide +kernel), by decide +kernel⟩
theorem gf_X2_32 (hG : bd_OK G cc nL RX2 n fr lo rt) (hn : 0 < n) (hd : decode cc pc = .ok (.getfield 32, 3)) (kk : bd_WF G out F σ (pc + 3) lv (.ref (bd_ad (g_E G) 13) :: st)) : bd_WF G out F σ pc lv (.ref (bd_ad (g_E G) 0) :: st) :=
  rr_get (v := .ref (bd_ad (g_E G) 13)) (ci := 2) hG rfl hn rfl (by decide) inX2 6 (by decide) wd_X2_32 rfl rfl hd kk
theorem wd_X2_37 : bd_in (.fieldLink RX2 37 RX2 (TX2 7).2.1 (TX2 7).2.2.1) := ⟨List.mem_of_getElem? (i := 152) (by decide +kernel), by decide +kernel⟩
theorem gf_X2_37 (hG : bd_OK G cc nL RX2 n fr lo rt) (hn : 0 < n) (hd : decode cc pc = .ok (.getfield 37, 3)) (kk : bd_WF G out F σ (pc + 3) lv (.ref (bd_ad (g_E G) 14) :: st)) : bd_WF G out F σ pc lv (.ref (bd_ad (g_E G) 0) :: st) :=
  rr_get (v := .ref (bd_ad (g_E G) 14)) (ci := 2) hG rfl hn rfl (by decide) inX2 7 (by decide) wd_X2_37 rfl rfl hd kk
theorem wd_X2_41 : bd_in (.fieldLink RX2 41 RX2 (TX2 8).2.1 (TX2 8).2.2.1) := ⟨List.mem_of_getElem? (i := 153) (by decide +kernel), by decide +kernel⟩
theorem gf_X2_41 (hG : bd_OK G cc nL RX2 n fr lo rt) (hn : 0 < n) (hd : decode cc pc = .ok (.getfield 41, 3)) (kk : bd_WF G out F σ (pc + 3) lv (.ref (bd_ad (g_E G) 15) :: st)) : bd_WF G out F σ pc lv (.ref (bd_ad (g_E G) 0) :: st) :=
  rr_get (v := .ref (bd_ad (g_E G) 15)) (ci := 2) hG rfl hn rfl (by decide) inX2 8 (by decide) wd_X2_41 rfl rfl hd kk
theorem wd_X2_44 : bd_in (.fieldLink RX2 44 RX2 (TX2 9).2.1 (TX2 9).2.2.1) := ⟨List.mem_of_getElem? (i := 154) (by decide +kernel), by decide +kernel⟩
theorem gf_X2_44 (hG : bd_OK G cc nL RX2 n fr lo rt) (hn : 0 < n) (hd : decode cc pc = .ok (.getfield 44, 3)) (kk : bd_WF G out F σ (pc + 3) lv (.ref (bd_ad (g_E G) 16) :: st)) : bd_WF G out F σ pc lv (.ref (bd_ad (g_E G) 0) :: st) :=
  rr_get (v := .ref (bd_ad (g_E G) 16)) (ci := 2) hG rfl hn rfl (by decide) inX2 9 (by decide) wd_X2_44 rfl rfl hd kk
theorem wd_X2_47 : bd_in (.fieldLink RX2 47 RX2 (TX2 10).2.1 (TX2 10).2.2.1) := ⟨List.mem_of_getElem? (i := 155) (by decide +kernel), by decide +kernel⟩
theorem gf_X2_47 (hG : bd_OK G cc nL RX2 n fr lo rt) (hn : 0 < n) (hd : decode cc pc = .ok (.getfield 47, 3)) (kk : bd_WF G out F σ (pc + 3) lv (.ref (bd_ad (g_E G) 17) :: st)) : bd_WF G out F σ pc lv (.ref (bd_ad (g_E G) 0) :: st) :=
  rr_get (v := .ref (bd_ad (g_E G) 17)) (ci := 2) hG rfl hn rfl (by decide) inX2 10 (by decide) wd_X2_47 rfl rfl hd kk
theorem wd_X2_50 : bd_in (.fieldLink RX2 50 RX2 (TX2 11).2.1 (TX2 11).2.2.1) := ⟨List.mem_of_getElem? (i := 156) (by decide +kernel), by decide +kernel⟩
theorem gf_X2_50 (hG : bd_OK G cc nL RX2 n fr lo rt) (hn : 0 < n) (hd : decode cc pc = .ok (.getfield 50, 3)) (kk : bd_WF G out F σ (pc + 3) lv (.ref (bd_ad (g_E G) 18) :: st)) : bd_WF G out F σ pc lv (.ref (bd_ad (g_E G) 0) :: st) :=
  rr_get (v := .ref (bd_ad (g_E G) 18)) (ci := 2) hG rfl hn rfl (by decide) inX2 11 (by decide) wd_X2_50 rfl rfl hd kk
theorem wd_X2_53 : bd_in (.fieldLink RX2 53 RX2 (TX2 13).2.1 (TX2 13).2.2.1) := ⟨List.mem_of_getElem? (i := 158) (by decide +kernel), by decide +kernel⟩
theorem gf_X2_53 (hG : bd_OK G cc nL RX2 n fr lo rt) (hn : 0 < n) {k : Int32 → Option α} (hd : decode cc pc = .ok (.getfield 53, 3)) (kk : ∀ z, bd_WF G out (k z) σ (pc + 3) lv (.int z :: st)) : bd_WF G out (bd_lt (σ 0 13) k) σ pc lv (.ref (bd_ad (g_E G) 0) :: st) :=
  rr_get (v := .int (σ 0 13)) (ci := 2) hG rfl hn rfl (by decide) inX2 13 (by decide) wd_X2_53 rfl rfl hd (kk _)
theorem wd_X2_72 : bd_in (.fieldLink RX2 72 RX2 (TX2 12).2.1 (TX2 12).2.2.1) := ⟨List.mem_of_getElem? (i := 157) (by decide +kernel), by decide +kernel⟩
theorem gf_X2_72 (hG : bd_OK G cc nL RX2 n fr lo rt) (hn : 0 < n) {k : Int32 → Option α} (hd : decode cc pc = .ok (.getfield 72, 3)) (kk : ∀ z, bd_WF G out (k z) σ (pc + 3) lv (.int z :: st)) : bd_WF G out (bd_lt (σ 0 12) k) σ pc lv (.ref (bd_ad (g_E G) 0) :: st) :=
  rr_get (v := .int (σ 0 12)) (ci := 2) hG rfl hn rfl (by decide) inX2 12 (by decide) wd_X2_72 rfl rfl hd (kk _)
theorem wd_X2_96 : bd_inN (.fieldLinkNest RX2 96 RX0 (TX0 0).2.1 (TX0 0).2.2.1 "BallDrops") := ⟨List.mem_of_getElem? (i := 71) (by decide +kernel), by decide +kernel, by decide +kernel⟩
theorem gf_X2_96 {r : Nat} (hr : bd_isL r) (hG : bd_OK G cc nL RX2 n fr lo rt) (hn : 10 ≤ n) (hd : decode cc pc = .ok (.getfield 96, 3)) (kk : bd_WF G out F σ (pc + 3) lv (.ref (bd_ad (g_E G) (r + 1)) :: st)) : bd_WF G out F σ pc lv (.ref (bd_ad (g_E G) r) :: st) :=
  rr_getN (v := .ref (bd_ad (g_E G) (r + 1))) (ci := 0) hG (bd_kL0 hr) (bd_bL0 hr hn) rfl (by decide) inX0 0 (by decide) wd_X2_96 rfl rfl hd kk
theorem wd_X2_99 : bd_inN (.fieldLinkNest RX2 99 RX0 (TX0 1).2.1 (TX0 1).2.2.1 "BallDrops") := ⟨List.mem_of_getElem? (i := 73) (by decide +kernel), by decide +kernel, by decide +kernel⟩
theorem gf_X2_99 {r : Nat} (hr : bd_isL r) (hG : bd_OK G cc nL RX2 n fr lo rt) (hn : 10 ≤ n) (hd : decode cc pc = .ok (.getfield 99, 3)) (kk : bd_WF G out F σ (pc + 3) lv (.ref (bd_ad (g_E G) (r + 2)) :: st)) : bd_WF G out F σ pc lv (.ref (bd_ad (g_E G) r) :: st) :=
  rr_getN (v := .ref (bd_ad (g_E G) (r + 2))) (ci := 0) hG (bd_kL0 hr) (bd_bL0 hr hn) rfl (by decide) inX0 1 (by decide) wd_X2_99 rfl rfl hd kk
theorem wd_X3_102 : bd_in (.fieldLink RX3 102 RX3 (TX3 33).2.1 (TX3 33).2.2.1) := ⟨List.mem_of_getElem? (i := 554) (by decide +kernel), by decide +kernel⟩
theorem gf_X3_102 (hG : bd_OK G cc nL RX3 n fr lo rt) (hn : 55 < n) (hd : decode cc pc = .ok (.getfield 102, 3)) (kk : bd_WF G out F σ (pc + 3) lv (.ref (bd_ad (g_E G) 84) :: st)) : bd_WF G out F σ pc lv (.ref (bd_ad (g_E G) 55) :: st) :=
  rr_get (v := .ref (bd_ad (g_E G) 84)) (ci := 3) hG rfl hn rfl (by decide) inX3 33 (by decide) wd_X3_102 rfl rfl hd kk
theorem wd_X3_115 : bd_in (.fieldLink RX3 115 RX3 (TX3 12).2.1 (TX3 12).2.2.1) := ⟨List.mem_of_getElem? (i := 533) (by decide +kernel), by decide +kernel⟩
theorem gf_X3_115 (hG : bd_OK G cc nL RX3 n fr lo rt) (hn : 55 < n) {k : Int32 → Option α} (hd : decode cc pc = .ok (.getfield 115, 3)) (kk : ∀ z, bd_WF G out (k z) σ (pc + 3) lv (.int z :: st)) : bd_WF G out (bd_lt (σ 55 12) k) σ pc lv (.ref (bd_ad (g_E G) 55) :: st) :=
  rr_get (v := .int (σ 55 12)) (ci := 3) hG rfl hn rfl (by decide) inX3 12 (by decide) wd_X3_115 rfl rfl hd (kk _)
theorem wd_X3_122 : bd_in (.fieldLink RX3 122 RX3 (TX3 29).2.1 (TX3 29).2.2.1) := ⟨List.mem_of_getElem? (i := 550) (by decide +kernel), by decide +kernel⟩
theorem gf_X3_122 (hG : bd_OK G cc nL RX3 n fr lo rt) (hn : 55 < n) {k : Int32 → Option α} (hd : decode cc pc = .ok (.getfield 122, 3)) (kk : ∀ z, bd_WF G out (k z) σ (pc + 3) lv (.int z :: st)) : bd_WF G out (bd_lt (σ 55 29) k) σ pc lv (.ref (bd_ad (g_E G) 55) :: st) :=
  rr_get (v := .int (σ 55 29)) (ci := 3) hG rfl hn rfl (by decide) inX3 29 (by decide) wd_X3_122 rfl rfl hd (kk _)
theorem wd_X3_13 : bd_in (.fieldLink RX3 13 RX3 (TX3 2).2.1 (TX3 2).2.2.1) := ⟨List.mem_of_getElem? (i := 523) (by decide +kernel), by decide +kernel⟩
theorem gf_X3_13 (hG : bd_OK G cc nL RX3 n fr lo rt) (hn : 55 < n) (hd : decode cc pc = .ok (.getfield 13, 3)) (kk : bd_WF G out F σ (pc + 3) lv (.ref (bd_ad (g_E G) 57) :: st)) : bd_WF G out F σ pc lv (.ref (bd_ad (g_E G) 55) :: st) :=
  rr_get (v := .ref (bd_ad (g_E G) 57)) (ci := 3) hG rfl hn rfl (by decide) inX3 2 (by decide) wd_X3_13 rfl rfl hd kk
theorem wd_X3_140 : bd_in (.fieldLink RX3 140 RX3 (TX3 0).2.1 (TX3 0).2.2.1) := ⟨List.mem_of_getElem? (i := 521) (by decide +kernel), by decide +kernel⟩
theorem gf_X3_140 (hG : bd_OK G cc nL RX3 n fr lo rt) (hn : 55 < n) {k : Int32 → Option α} (hd : decode cc pc = .ok (.getfield 140, 3)) (kk : ∀ z, bd_WF G out (k z) σ (pc + 3) lv (.int z :: st)) : bd_WF G out (bd_lt (σ 55 0) k) σ pc lv (.ref (bd_ad (g_E G) 55) :: st) :=
  rr_get (v := .int (σ 55 0)) (ci := 3) hG rfl hn rfl (by decide) inX3 0 (by decide) wd_X3_140 rfl rfl hd (kk _)
theorem wd_X3_16 : bd_in (.fieldLink RX3 16 RX3 (TX3 3).2.1 (TX3 3).2.2.1) := ⟨List.mem_of_getElem? (i := 524) (by decide +kernel), by decide +kernel⟩
theorem gf_X3_16 (hG : bd_OK G cc nL RX3 n fr lo rt) (hn : 55 < n) (hd : decode cc pc = .ok (.getfield 16, 3)) (kk : bd_WF G out F σ (pc + 3) lv (.ref (bd_ad (g_E G) 58) :: st)) : bd_WF G out F σ pc lv (.ref (bd_ad (g_E G) 55) :: st) :=
  rr_get (v := .ref (bd_ad (g_E G) 58)) (ci := 3) hG rfl hn rfl (by decide) inX3 3 (by decide) wd_X3_16 rfl rfl hd kk
theorem wd_X3_184 : bd_in (.fieldLink RX3 184 RX3 (TX3 34).2.1 (TX3 34).2.2.1) := ⟨List.mem_of_getElem? (i := 555) (by decide +kernel), by decide +kernel⟩
theorem gf_X3_184 (hG : bd_OK G cc nL RX3 n fr lo rt) (hn : 55 < n) {k : Int32 → Option α} (hd : decode cc pc = .ok (.getfield 184, 3)) (kk : ∀ z, bd_WF G out (k z) σ (pc + 3) lv (.int z :: st)) : bd_WF G out (bd_lt (σ 55 34) k) σ pc lv (.ref (bd_ad (g_E G) 55) :: st) :=
  rr_get (v := .int (σ 55 34)) (ci := 3) hG rfl hn rfl (by decide) inX3 34 (by decide) wd_X3_184 rfl rfl hd (kk _)
theorem wd_X3_188 : bd_in (.fieldLink RX3 188 RX3 (TX3 35).2.1 (TX3 35).2.2.1) := ⟨List.mem_of_getElem? (i := 556) (by decide +kernel), by decide +kernel⟩
theorem gf_X3_188 (hG : bd_OK G cc nL RX3 n fr lo rt) (hn : 55 < n) {k : Int32 → Option α} (hd : decode cc pc = .ok (.getfield 188, 3)) (kk : ∀ z, bd_WF G out (k z) σ (pc + 3) lv (.int z :: st)) : bd_WF G out (bd_lt (σ 55 35) k) σ pc lv (.ref (bd_ad (g_E G) 55) :: st) :=
  rr_get (v := .int (σ 55 35)) (ci := 3) hG rfl hn rfl (by decide) inX3 35 (by decide) wd_X3_188 rfl rfl hd (kk _)
theorem wd_X3_19 : bd_in (.fieldLink RX3 19 RX3 (TX3 4).2.1 (TX3 4).2.2.1) := ⟨List.mem_of_getElem? (i := 525) (by decide +kernel), by decide +kernel⟩
theorem gf_X3_19 (hG : bd_OK G cc nL RX3 n fr lo rt) (hn : 55 < n) {k : Int32 → Option α} (hd : decode cc pc = .ok (.getfield 19, 3)) (kk : ∀ z, bd_WF G out (k z) σ (pc + 3) lv (.int z :: st)) : bd_WF G out (bd_lt (σ 55 4) k) σ pc lv (.ref (bd_ad (g_E G) 55) :: st) :=
  rr_get (v := .int (σ 55 4)) (ci := 3) hG rfl hn rfl (by decide) inX3 4 (by decide) wd_X3_19 rfl rfl hd (kk _)
theorem wd_X3_23 : bd_in (.fieldLink RX3 23 RX3 (TX3 5).2.1 (TX3 5).2.2.1) := ⟨List.mem_of_getElem? (i := 526) (by decide +kernel), by decide +kernel⟩
theorem gf_X3_23 (hG : bd_OK G cc nL RX3 n fr lo rt) (hn : 55 < n) (hd : decode cc pc = .ok (.getfield 23, 3)) (kk : bd_WF G out F σ (pc + 3) lv (.ref (bd_ad (g_E G) 59) :: st)) : bd_WF G out F σ pc lv (.ref (bd_ad (g_E G) 55) :: st) :=
  rr_get (v := .ref (bd_ad (g_E G) 59)) (ci := 3) hG rfl hn rfl (by decide) inX3 5 (by decide) wd_X3_23 rfl rfl hd kk
theorem wd_X3_26 : bd_in (.fieldLink RX3 26 RX3 (TX3 6).2.1 (TX3 6).2.2.1) := ⟨List.mem_of_getElem? (i := 527) (by decide +kernel), by decide +kernel⟩
theorem gf_X3_26 (hG : bd_OK G cc nL RX3 n fr lo rt) (hn : 55 < n) (hd : decode cc pc = .ok (.getfield 26, 3)) (kk : bd_WF G out F σ (pc + 3) lv (.ref (bd_ad (g_E G) 60) :: st)) : bd_WF G out F σ pc lv (.ref (bd_ad (g_E G) 55) :: st) :=
  rr_get (v := .ref (bd_ad (g_E G) 60)) (ci := 3) hG rfl hn rfl (by decide) inX3 6 (by decide) wd_X3_26 rfl rfl hd kk
theorem wd_X3_29 : bd_in (.fieldLink RX3 29 RX3 (TX3 7).2.1 (TX3 7).2.2.1) := ⟨List.mem_of_getElem? (i := 528) (by decide +kernel), by decide +kernel⟩
theorem gf_X3_29 (hG : bd_OK G cc nL RX3 n fr lo rt) (hn : 55 < n) (hd : decode cc pc = .ok (.getfield 29, 3)) (kk : bd_WF G out F σ (pc + 3) lv (.ref (bd_ad (g_E G) 61) :: st)) : bd_WF G out F σ pc lv (.ref (bd_ad (g_E G) 55) :: st) :=
  rr_get (v := .ref (bd_ad (g_E G) 61)) (ci := 3) hG rfl hn rfl (by decide) inX3 7 (by decide) wd_X3_29 rfl rfl hd kk
theorem wd_X3_32 : bd_in (.fieldLink RX3 32 RX3 (TX3 8).2.1 (TX3 8).2.2.1) := ⟨List.mem_of_getElem? (i := 529) (by decide +kernel), by decide +kernel⟩
theorem gf_X3_32 (hG : bd_OK G cc nL RX3 n fr lo rt) (hn : 55 < n) (hd : decode cc pc = .ok (.getfield 32, 3)) (kk : bd_WF G out F σ (pc + 3) lv (.ref (bd_ad (g_E G) 62) :: st)) : bd_WF G out F σ pc lv (.ref (bd_ad (g_E G) 55) :: st) :=
  rr_get (v := .ref (bd_ad (g_E G) 62)) (ci := 3) hG rfl hn rfl (by decide) inX3 8 (by decide) wd_X3_32 rfl rfl hd kk
theorem wd_X3_35 : bd_in (.fieldLink RX3 35 RX3 (TX3 9).2.1 (TX3 9).2.2.1) := ⟨List.mem_of_getElem? (i := 530) (by decide +kernel), by decide +kernel⟩
theorem gf_X3_35 (hG : bd_OK G cc nL RX3 n fr lo rt) (hn : 55 < n) (hd : decode cc pc = .ok (.getfield 35, 3)) (kk : bd_WF G out F σ (pc + 3) lv (.ref (bd_ad (g_E G) 63) :: st)) : bd_WF G out F σ pc lv (.ref (bd_ad (g_E G) 55) :: st) :=
  rr_get (v := .ref (bd_ad (g_E G) 63)) (ci := 3) hG rfl hn rfl (by decide) inX3 9 (by decide) wd_X3_35 rfl rfl hd kk
theorem wd_X3_38 : bd_in (.fieldLink RX3 38 RX3 (TX3 10).2.1 (TX3 10).2.2.1) := ⟨List.mem_of_getElem? (i := 531) (by decide +kernel), by decide +kernel⟩
theorem gf_X3_38 (hG : bd_OK G cc nL RX3 n fr lo rt) (hn : 55 < n) (hd : decode cc pc = .ok (.getfield 38, 3)) (kk : bd_WF G out F σ (pc + 3) lv (.ref (bd_ad (g_E G) 64) :: st)) : bd_WF G out F σ pc lv (.ref (bd_ad (g_E G) 55) :: st) :=
  rr_get (v := .ref (bd_ad (g_E G) 64)) (ci := 3) hG rfl hn rfl (by decide) inX3 10 (by decide) wd_X3_38 rfl rfl hd kk
theorem wd_X3_42 : bd_in (.fieldLink RX3 42 RX3 (TX3 11).2.1 (TX3 11).2.2.1) := ⟨List.mem_of_getElem? (i := 532) (by decide +kernel), by decide +kernel⟩
theorem gf_X3_42 (hG : bd_OK G cc nL RX3 n fr lo rt) (hn : 55 < n) (hd : decode cc pc = .ok (.getfield 42, 3)) (kk : bd_WF G out F σ (pc + 3) lv (.ref (bd_ad (g_E G) 65) :: st)) : bd_WF G out F σ pc lv (.ref (bd_ad (g_E G) 55) :: st) :=
  rr_get (v := .ref (bd_ad (g_E G) 65)) (ci := 3) hG rfl hn rfl (by decide) inX3 11 (by decide) wd_X3_42 rfl rfl hd kk
theorem wd_X3_45 : bd_in (.fieldLink RX3 45 RX3 (TX3 13).2.1 (TX3 13).2.2.1) := ⟨List.mem_of_getElem? (i := 534) (by decide +kernel), by decide +kernel⟩
theorem gf_X3_45 (hG : bd_OK G cc nL RX3 n fr lo rt) (hn : 55 < n) (hd : decode cc pc = .ok (.getfield 45, 3)) (kk : bd_WF G out F σ (pc + 3) lv (.ref (bd_ad (g_E G) 66) :: st)) : bd_WF G out F σ pc lv (.ref (bd_ad (g_E G) 55) :: st) :=
  rr_get (v := .ref (bd_ad (g_E G) 66)) (ci := 3) hG rfl hn rfl (by decide) inX3 13 (by decide) wd_X3_45 rfl rfl hd kk
theorem wd_X3_48 : bd_in (.fieldLink RX3 48 RX3 (TX3 14).2.1 (TX3 14).2.2.1) := ⟨List.mem_of_getElem? (i := 535) (by decide +kernel), by decide +kernel⟩
theorem gf_X3_48 (hG : bd_OK G cc nL RX3 n fr lo rt) (hn : 55 < n) (hd : decode cc pc = .ok (.getfield 48, 3)) (kk : bd_WF G out F σ (pc + 3) lv (.ref (bd_ad (g_E G) 67) :: st)) : bd_WF G out F σ pc lv (.ref (bd_ad (g_E G) 55) :: st) :=
  rr_get (v := .ref (bd_ad (g_E G) 67)) (ci := 3) hG rfl hn rfl (by decide) inX3 14 (by decide) wd_X3_48 rfl rfl hd kk
theorem wd_X3_51 : bd_in (.fieldLink RX3 51 RX3 (TX3 15).2.1 (TX3 15).2.2.1) := ⟨List.mem_of_getElem? (i := 536) (by decide +kernel), by decide +kernel⟩
theorem gf_X3_51 (hG : bd_OK G cc nL RX3 n fr lo rt) (hn : 55 < n) (hd : decode cc pc = .ok (.getfield 51, 3)) (kk : bd_WF G out F σ (pc + 3) lv (.ref (bd_ad (g_E G) 68) :: st)) : bd_WF G out F σ pc lv (.ref (bd_ad (g_E G) 55) :: st) :=
  rr_get (v := .ref (bd_ad (g_E G) 68)) (ci := 3) hG rfl hn rfl (by decide) inX3 15 (by decide) wd_X3_51 rfl rfl hd kk
theorem wd_X3_54 : bd_in (.fieldLink RX3 54 RX3 (TX3 16).2.1 (TX3 16).2.2.1) := ⟨List.mem_of_getElem? (i := 537) (by decide +kernel), by decide +kernel⟩
theorem gf_X3_54 (hG : bd_OK G cc nL RX3 n fr lo rt) (hn : 55 < n) (hd : decode cc pc = .ok (.getfield 54, 3)) (kk : bd_WF G out F σ (pc + 3) lv (.ref (bd_ad (g_E G) 69) :: st)) : bd_WF G out F σ pc lv (.ref (bd_ad (g_E G) 55) :: st) :=
  rr_get (v := .ref (bd_ad (g_E G) 69)) (ci := 3) hG rfl hn rfl (by decide) inX3 16 (by decide) wd_X3_54 rfl rfl hd kk
theorem wd_X3_57 : bd_in (.fieldLink RX3 57 RX3 (TX3 17).2.1 (TX3 17).2.2.1) := ⟨List.mem_of_getElem? (i := 538) (by decide +kernel), by decide +kernel⟩
theorem gf_X3_57 (hG : bd_OK G cc nL RX3 n fr lo rt) (hn : 55 < n) (hd : decode cc pc = .ok (.getfield 57, 3)) (kk : bd_WF G out F σ (pc + 3) lv (.ref (bd_ad (g_E G) 70) :: st)) : bd_WF G out F σ pc lv (.ref (bd_ad (g_E G) 55) :: st) :=
  rr_get (v := .ref (bd_ad (g_E G) 70)) (ci := 3) hG rfl hn rfl (by decide) inX3 17 (by decide) wd_X3_57 rfl rfl hd kk
theorem wd_X3_60 : bd_in (.fieldLink RX3 60 RX3 (TX3 18).2.1 (TX3 18).2.2.1) := ⟨List.mem_of_getElem? (i := 539) (by decide +kernel), by decide +kernel⟩
theorem gf_X3_60 (hG : bd_OK G cc nL RX3 n fr lo rt) (hn : 55 < n) (hd : decode cc pc = .ok (.getfield 60, 3)) (kk : bd_WF G out F σ (pc + 3) lv (.ref (bd_ad (g_E G) 71) :: st)) : bd_WF G out F σ pc lv (.ref (bd_ad (g_E G) 55) :: st) :=
  rr_get (v := .ref (bd_ad (g_E G) 71)) (ci := 3) hG rfl hn rfl (by decide) inX3 18 (by decide) wd_X3_60 rfl rfl hd kk
theorem wd_X3_63 : bd_in (.fieldLink RX3 63 RX3 (TX3 19).2.1 (TX3 19).2.2.1) := ⟨List.mem_of_getElem? (i := 540) (by decide +kernel), by decide +kernel⟩
theorem gf_X3_63 (hG : bd_OK G cc nL RX3 n fr lo rt) (hn : 55 < n) (hd : decode cc pc = .ok (.getfield 63, 3)) (kk : bd_WF G out F σ (pc + 3) lv (.ref (bd_ad (g_E G) 72) :: st)) : bd_WF G out F σ pc lv (.ref (bd_ad (g_E G) 55) :: st) :=
  rr_get (v := .ref (bd_ad (g_E G) 72)) (ci := 3) hG rfl hn rfl (by decide) inX3 19 (by decide) wd_X3_63 rfl rfl hd kk
theorem wd_X3_66 : bd_in (.fieldLink RX3 66 RX3 (TX3 20).2.1 (TX3 20).2.2.1) := ⟨List.mem_of_getElem? (i := 541) (by decide +kernel), by decide +kernel⟩
theorem gf_X3_66 (hG : bd_OK G cc nL RX3 n fr lo rt) (hn : 55 < n) (hd : decode cc pc = .ok (.getfield 66, 3)) (kk : bd_WF G out F σ (pc + 3) lv (.ref (bd_ad (g_E G) 73) :: st)) : bd_WF G out F σ pc lv (.ref (bd_ad (g_E G) 55) :: st) :=
  rr_get (v := .ref (bd_ad (g_E G) 73)) (ci := 3) hG rfl hn rfl (by decide) inX3 20 (by decide) wd_X3_66 rfl rfl hd kk
theorem wd_X3_69 : bd_in (.fieldLink RX3 69 RX3 (TX3 21).2.1 (TX3 21).2.2.1) := ⟨List.mem_of_getElem? (i := 542) (by decide +kernel), by decide +kernel⟩
theorem gf_X3_69 (hG : bd_OK G cc nL RX3 n fr lo rt) (hn : 55 < n) (hd : decode cc pc = .ok (.getfield 69, 3)) (kk : bd_WF G out F σ (pc + 3) lv (.ref (bd_ad (g_E G) 74) :: st)) : bd_WF G out F σ pc lv (.ref (bd_ad (g_E G) 55) :: st) :=
  rr_get (v := .ref (bd_ad (g_E G) 74)) (ci := 3) hG rfl hn rfl (by decide) inX3 21 (by decide) wd_X3_69 rfl rfl hd kk
theorem wd_X3_7 : bd_in (.fieldLink RX3 7 RX3 (TX3 1).2.1 (TX3 1).2.2.1) := ⟨List.mem_of_getElem? (i := 522) (by decide +kernel), by decide +kernel⟩
theorem gf_X3_7 (hG : bd_OK G cc nL RX3 n fr lo rt) (hn : 55 < n) (hd : decode cc pc = .ok (.getfield 7, 3)) (kk : bd_WF G out F σ (pc + 3) lv (.ref (bd_ad (g_E G) 56) :: st)) : bd_WF G out F σ pc lv (.ref (bd_ad (g_E G) 55) :: st) :=
  rr_get (v := .ref (bd_ad (g_E G) 56)) (ci := 3) hG rfl hn rfl (by decide) inX3 1 (by decide) wd_X3_7 rfl rfl hd kk
theorem wd_X3_72 : bd_in (.fieldLink RX3 72 RX3 (TX3 22).2.1 (TX3 22).2.2.1) := ⟨List.mem_of_getElem? (i := 543) (by decide +kernel), by decide +kernel⟩
theorem gf_X3_72 (hG : bd_OK G cc nL RX3 n fr lo rt) (hn : 55 < n) (hd : decode cc pc = .ok (.getfield 72, 3)) (kk : bd_WF G out F σ (pc + 3) lv (.ref (bd_ad (g_E G) 75) :: st)) : bd_WF G out F σ pc lv (.ref (bd_ad (g_E G) 55) :: st) :=
  rr_get (v := .ref (bd_ad (g_E G) 75)) (ci := 3) hG rfl hn rfl (by decide) inX3 22 (by decide) wd_X3_72 rfl rfl hd kk
theorem wd_X3_75 : bd_in (.fieldLink RX3 75 RX3 (TX3 23).2.1 (TX3 23).2.2.1) := ⟨List.mem_of_getElem? (i := 544) (by decide +kernel), by decide +kernel⟩
theorem gf_X3_75 (hG : bd_OK G cc nL RX3 n fr lo rt) (hn : 55 < n) (hd : decode cc pc = .ok (.getfield 75, 3)) (kk : bd_WF G out F σ (pc + 3) lv (.ref (bd_ad (g_E G) 76) :: st)) : bd_WF G out F σ pc lv (.ref (bd_ad (g_E G) 55) :: st) :=
  rr_get (v := .ref (bd_ad (g_E G) 76)) (ci := 3) hG rfl hn rfl (by decide) inX3 23 (by decide) wd_X3_75 rfl rfl hd kk
theorem wd_X3_78 : bd_in (.fieldLink RX3 78 RX3 (TX3 24).2.1 (TX3 24).2.2.1) := ⟨List.mem_of_getElem? (i := 545) (by decide +kernel), by decide +kernel⟩
theorem gf_X3_78 (hG : bd_OK G cc nL RX3 n fr lo rt) (hn : 55 < n) (hd : decode cc pc = .ok (.getfield 78, 3)) (kk : bd_WF G out F σ (pc + 3) lv (.ref (bd_ad (g_E G) 77) :: st)) : bd_WF G out F σ pc lv (.ref (bd_ad (g_E G) 55) :: st) :=
  rr_get (v := .ref (bd_ad (g_E G) 77)) (ci := 3) hG rfl hn rfl (by decide) inX3 24 (by decide) wd_X3_78 rfl rfl hd kk
theorem wd_X3_81 : bd_in (.fieldLink RX3 81 RX3 (TX3 25).2.1 (TX3 25).2.2.1) := ⟨List.mem_of_getElem? (i := 546) (by decide +kernel), by decide +kernel⟩
theorem gf_X3_81 (hG : bd_OK G cc nL RX3 n fr lo rt) (hn : 55 < n) (hd : decode cc pc = .ok (.getfield 81, 3)) (kk : bd_WF G out F σ (pc + 3) lv (.ref (bd_ad (g_E G) 78) :: st)) : bd_WF G out F σ pc lv (.ref (bd_ad (g_E G) 55) :: st) :=
  rr_get (v := .ref (bd_ad (g_E G) 78)) (ci := 3) hG rfl hn rfl (by decide) inX3 25 (by decide) wd_X3_81 rfl rfl hd kk
theorem wd_X3_84 : bd_in (.fieldLink RX3 84 RX3 (TX3 26).2.1 (TX3 26).2.2.1) := ⟨List.mem_of_getElem? (i := 547) (by decide +kernel), by decide +kernel⟩
theorem gf_X3_84 (hG : bd_OK G cc nL RX3 n fr lo rt) (hn : 55 < n) (hd : decode cc pc = .ok (.getfield 84, 3)) (kk : bd_WF G out F σ (pc + 3) lv (.ref (bd_ad (g_E G) 79) :: st)) : bd_WF G out F σ pc lv (.ref (bd_ad (g_E G) 55) :: st) :=
  rr_get (v := .ref (bd_ad (g_E G) 79)) (ci := 3) hG rfl hn rfl (by decide) inX3 26 (by decide) wd_X3_84 rfl rfl hd kk
theorem wd_X3_87 : bd_in (.fieldLink RX3 87 RX3 (TX3 27).2.1 (TX3 27).2.2.1) := ⟨List.mem_of_getElem? (i := 548) (by decide +kernel), by decide +kernel⟩
theorem gf_X3_87 (hG : bd_OK G cc nL RX3 n fr lo rt) (hn : 55 < n) (hd : decode cc pc = .ok (.getfield 87, 3)) (kk : bd_WF G out F σ (pc + 3) lv (.ref (bd_ad (g_E G) 80) :: st)) : bd_WF G out F σ pc lv (.ref (bd_ad (g_E G) 55) :: st) :=
  rr_get (v := .ref (bd_ad (g_E G) 80)) (ci := 3) hG rfl hn rfl (by decide) inX3 27 (by decide) wd_X3_87 rfl rfl hd kk
theorem wd_X3_90 : bd_in (.fieldLink RX3 90 RX3 (TX3 28).2.1 (TX3 28).2.2.1) := ⟨List.mem_of_getElem? (i := 549) (by decide +kernel), by decide +kernel⟩
theorem gf_X3_90 (hG : bd_OK G cc nL RX3 n fr lo rt) (hn : 55 < n) (hd : decode cc pc = .ok (.getfield 90, 3)) (kk : bd_WF G out F σ (pc + 3) lv (.ref (bd_ad (g_E G) 81) :: st)) : bd_WF G out F σ pc lv (.ref (bd_ad (g_E G) 55) :: st) :=
  rr_get (v := .ref (bd_ad (g_E G) 81)) (ci := 3) hG rfl hn rfl (by decide) inX3 28 (by decide) wd_X3_90 rfl rfl hd kk
theorem wd_X3_93 : bd_in (.fieldLink RX3 93 RX3 (TX3 30).2.1 (TX3 30).2.2.1) := ⟨List.mem_of_getElem? (i := 551) (by decide +kernel), by decide +kernel⟩
theorem gf_X3_93 (hG : bd_OK G cc nL RX3 n fr lo rt) (hn : 55 < n) {k : Int32 → Option α} (hd : decode cc pc = .ok (.getfield 93, 3)) (kk : ∀ z, bd_WF G out (k z) σ (pc + 3) lv (.int z :: st)) : bd_WF G out (bd_lt (σ 55 30) k) σ pc lv (.ref (bd_ad (g_E G) 55) :: st) :=
  rr_get (v := .int (σ 55 30)) (ci := 3) hG rfl hn rfl (by decide) inX3 30 (by decide) wd_X3_93 rfl rfl hd (kk _)
theorem wd_X3_96 : bd_in (.fieldLink RX3 96 RX3 (TX3 31).2.1 (TX3 31).2.2.1) := ⟨List.mem_of_getElem? (i := 552) (by decide +kernel), by decide +kernel⟩
theorem gf_X3_96 (hG : bd_OK G cc nL RX3 n fr lo rt) (hn : 55 < n) (hd : decode cc pc = .ok (.getfield 96, 3)) (kk : bd_WF G out F σ (pc + 3) lv (.ref (bd_ad (g_E G) 82) :: st)) : bd_WF G out F σ pc lv (.ref (bd_ad (g_E G) 55) :: st) :=
  rr_get (v := .ref (bd_ad (g_E G) 82)) (ci := 3) hG rfl hn rfl (by decide) inX3 31 (by decide) wd_X3_96 rfl rfl hd kk
theorem wd_X3_99 : bd_in (.fieldLink RX3 99 RX3 (TX3 32).2.1 (TX3 32).2.2.1) := ⟨List.mem_of_getElem? (i := 553) (by decide +kernel), by decide +kernel⟩
theorem gf_X3_99 (hG : bd_OK G cc nL RX3 n fr lo rt) (hn : 55 < n) (hd : decode cc pc = .ok (.getfield 99, 3)) (kk : bd_WF G out F σ (pc + 3) lv (.ref (bd_ad (g_E G) 83) :: st)) : bd_WF G out F σ pc lv (.ref (bd_ad (g_E G) 55) :: st) :=
  rr_get (v := .ref (bd_ad (g_E G) 83)) (ci := 3) hG rfl hn rfl (by decide) inX3 32 (by decide) wd_X3_99 rfl rfl hd kk
theorem bd_se_X0_18 (E : bd_E) (r : Nat) (x : Int32) (f : Nat → Int32) : (bd_fs E f r 0).set 2 (.int x) = bd_fs E (upd f 2 x) r 0 := by simp [bd_fs, upd]
theorem pf_X0_18 {r : Nat} (hr : bd_isL r) {x : Int32} (hG : bd_OK G cc nL RX0 n fr lo rt) (hn : 10 ≤ n) {k : bd_S → Option α} (hd : decode cc pc = .ok (.putfield 18, 3)) (kk : ∀ z : bd_S, bd_WF G out (k z) z (pc + 3) lv st) : bd_WF G out (bd_lt (bd_st σ r 2 x) k) σ pc lv (.int x :: .ref (bd_ad (g_E G) r) :: st) :=
  rr_put (ci := 0) (ty := .int) hG (bd_kL0 hr) (bd_bL0 hr hn) rfl (by decide) inX0 tyX0_ok nmX0 2 (by decide) wd_X0_18 rfl rfl (by decide +kernel) rfl rfl (fun _ => Nat.le_of_ble_eq_true rfl) (bd_se_X0_18 (g_E G) r x) hd kk
theorem bd_se_X0_22 (E : bd_E) (r : Nat) (x : Int32) (f : Nat → Int32) : (bd_fs E f r 0).set 3 (.int x) = bd_fs E (upd f 3 x) r 0 := by simp [bd_fs, upd]
theorem pf_X0_22 {r : Nat} (hr : bd_isL r) {x : Int32} (hG : bd_OK G cc nL RX0 n fr lo rt) (hn : 10 ≤ n) {k : bd_S → Option α} (hd : decode cc pc = .ok (.putfield 22, 3)) (kk : ∀ z : bd_S, bd_WF G out (k z) z (pc + 3) lv st) : bd_WF G out (bd_lt (bd_st σ r 3 x) k) σ pc lv (.int x :: .ref (bd_ad (g_E G) r) :: st) :=
  rr_put (ci := 0) (ty := .int) hG (bd_kL0 hr) (bd_bL0 hr hn) rfl (by decide) inX0 tyX0_ok nmX0 3 (by decide) wd_X0_22 rfl rfl (by decide +kernel) rfl rfl (fun _ => Nat.le_of_ble_eq_true rfl) (bd_se_X0_22 (g_E G) r x) hd kk
theorem bd_se_X1_37 (E : bd_E) (r : Nat) (x : Int32) (f : Nat → Int32) : (bd_fs E f r 1).set 8 (.int x) = bd_fs E (upd f 8 x) r 1 := by simp [bd_fs, upd]
theorem pf_X1_37 {r : Nat} (hr : bd_isS r) {x : Int32} (hG : bd_OK G cc nL RX1 n fr lo rt) (hn : 55 ≤ n) {k : bd_S → Option α} (hd : decode cc pc = .ok (.putfield 37, 3)) (kk : ∀ z : bd_S, bd_WF G out (k z) z (pc + 3) lv st) : bd_WF G out (bd_lt (bd_st σ r 8 x) k) σ pc lv (.int x :: .ref (bd_ad (g_E G) r) :: st) :=
  rr_put (ci := 1) (ty := .int) hG (bd_kS0 hr) (bd_bS0 hr hn) rfl (by decide) inX1 tyX1_ok nmX1 8 (by decide) wd_X1_37 rfl rfl (by decide +kernel) rfl rfl (fun _ => Nat.le_of_ble_eq_true rfl) (bd_se_X1_37 (g_E G) r x) hd kk
theorem bd_se_X2_108 (E : bd_E) (r : Nat) (x : Int32) (f : Nat → Int32) : (bd_fs E f r 2).set 14 (.int x) = bd_fs E (upd f 14 x) r 2 := by simp [bd_fs, upd]
theorem pf_X2_108 {x : Int32} (hG : bd_OK G cc nL RX2 n fr lo rt) (hn : 0 < n) {k : bd_S → Option α} (hd : decode cc pc = .ok (.putfield 108, 3)) (kk : ∀ z : bd_S, bd_WF G out (k z) z (pc + 3) lv st) : bd_WF G out (bd_lt (bd_st σ 0 14 x) k) σ pc lv (.int x :: .ref (bd_ad (g_E G) 0) :: st) :=
  rr_put (ci := 2) (ty := .int) hG rfl hn rfl (by decide) inX2 tyX2_ok nmX2 14 (by decide) wd_X2_108 rfl rfl (by decide +kernel) rfl rfl (fun _ => Nat.le_of_ble_eq_true rfl) (bd_se_X2_108 (g_E G) 0 x) hd kk
theorem bd_se_X2_126 (E : bd_E) (r : Nat) (x : Int32) (f : Nat → Int32) : (bd_fs E f r 2).set 15 (.int x) = bd_fs E (upd f 15 x) r 2 := by simp [bd_fs, upd]
theorem pf_X2_126 {x : Int32} (hG : bd_OK G cc nL RX2 n fr lo rt) (hn : 0 < n) {k : bd_S → Option α} (hd : decode cc pc = .ok (.putfield 126, 3)) (kk : ∀ z : bd_S, bd_WF G out (k z) z (pc + 3) lv st) : bd_WF G out (bd_lt (bd_st σ 0 15 x) k) σ pc lv (.int x :: .ref (bd_ad (g_E G) 0) :: st) :=
  rr_put (ci := 2) (ty := .int) hG rfl hn rfl (by decide) inX2 tyX2_ok nmX2 15 (by decide) wd_X2_126 rfl rfl (by decide +kernel) rfl rfl (fun _ => Nat.le_of_ble_eq_true rfl) (bd_se_X2_126 (g_E G) 0 x) hd kk
theorem bd_se_X2_145 (E : bd_E) (r : Nat) (x : Int32) (f : Nat → Int32) : (bd_fs E f r 1).set 8 (.int x) = bd_fs E (upd f 8 x) r 1 := by simp [bd_fs, upd]
theorem pf_X2_145 {r : Nat} (hr : bd_isS r) {x : Int32} (hG : bd_OK G cc nL RX2 n fr lo rt) (hn : 55 ≤ n) {k : bd_S → Option α} (hd : decode cc pc = .ok (.putfield 145, 3)) (kk : ∀ z : bd_S, bd_WF G out (k z) z (pc + 3) lv st) : bd_WF G out (bd_lt (bd_st σ r 8 x) k) σ pc lv (.int x :: .ref (bd_ad (g_E G) r) :: st) :=
  rr_putN (ci := 1) (ty := .int) hG (bd_kS0 hr) (bd_bS0 hr hn) rfl (by decide) inX1 tyX1_ok nmX1 8 (by decide) wd_X2_145 rfl rfl (by decide +kernel) rfl rfl (fun _ => Nat.le_of_ble_eq_true rfl) (bd_se_X2_145 (g_E G) r x) hd kk
theorem bd_se_X2_148 (E : bd_E) (r : Nat) (x : Int32) (f : Nat → Int32) : (bd_fs E f r 1).set 9 (.int x) = bd_fs E (upd f 9 x) r 1 := by simp [bd_fs, upd]
theorem pf_X2_148 {r : Nat} (hr : bd_isS r) {x : Int32} (hG : bd_OK G cc nL RX2 n fr lo rt) (hn : 55 ≤ n) {k : bd_S → Option α} (hd : decode cc pc = .ok (.putfield 148, 3)) (kk : ∀ z : bd_S, bd_WF G out (k z) z (pc + 3) lv st) : bd_WF G out (bd_lt (bd_st σ r 9 x) k) σ pc lv (.int x :: .ref (bd_ad (g_E G) r) :: st) :=
  rr_putN (ci := 1) (ty := .int) hG (bd_kS0 hr) (bd_bS0 hr hn) rfl (by decide) inX1 tyX1_ok nmX1 9 (by decide) wd_X2_148 rfl rfl (by decide +kernel) rfl rfl (fun _ => Nat.le_of_ble_eq_true rfl) (bd_se_X2_148 (g_E G) r x) hd kk
theorem bd_se_X2_168 (E : bd_E) (r : Nat) (x : Int32) (f : Nat → Int32) : (bd_fs E f r 1).set 10 (.int x) = bd_fs E (upd f 10 x) r 1 := by simp [bd_fs, upd]
theorem pf_X2_168 {r : Nat} (hr : bd_isS r) {x : Int32} (hG : bd_OK G cc nL RX2 n fr lo rt) (hn : 55 ≤ n) {k : bd_S → Option α} (hd : decode cc pc = .ok (.putfield 168, 3)) (kk : ∀ z : bd_S, bd_WF G out (k z) z (pc + 3) lv st) : bd_WF G out (bd_lt (bd_st σ r 10 x) k) σ pc lv (.int x :: .ref (bd_ad (g_E G) r) :: st) :=
  rr_putN (ci := 1) (ty := .int) hG (bd_kS0 hr) (bd_bS0 hr hn) rfl (by decide) inX1 tyX1_ok nmX1 10 (by decide) wd_X2_168 rfl rfl (by decide +kernel) rfl rfl (fun _ => Nat.le_of_ble_eq_true rfl) (bd_se_X2_168 (g_E G) r x) hd kk
theorem bd_se_X2_53 (E : bd_E) (r : Nat) (x : Int32) (f : Nat → Int32) : (bd_fs E f r 2).set 13 (.int x) = bd_fs E (upd f 13 x) r 2 := by simp [bd_fs, upd]
theorem pf_X2_53 {x : Int32} (hG : bd_OK G cc nL RX2 n fr lo rt) (hn : 0 < n) {k : bd_S → Option α} (hd : decode cc pc = .ok (.putfield 53, 3)) (kk : ∀ z : bd_S, bd_WF G out (k z) z (pc + 3) lv st) : bd_WF G out (bd_lt (bd_st σ 0 13 x) k) σ pc lv (.int x :: .ref (bd_ad (g_E G) 0) :: st) :=
  rr_put (ci := 2) (ty := .int) hG rfl hn rfl (by decide) inX2 tyX2_ok nmX2 13 (by decide) wd_X2_53 rfl rfl (by decide +kernel) rfl rfl (fun _ => Nat.le_of_ble_eq_true rfl) (bd_se_X2_53 (g_E G) 0 x) hd kk
theorem bd_se_X2_72 (E : bd_E) (r : Nat) (x : Int32) (f : Nat → Int32) : (bd_fs E f r 2).set 12 (.int x) = bd_fs E (upd f 12 x) r 2 := by simp [bd_fs, upd]
theorem pf_X2_72 {x : Int32} (hG : bd_OK G cc nL RX2 n fr lo rt) (hn : 0 < n) {k : bd_S → Option α} (hd : decode cc pc = .ok (.putfield 72, 3)) (kk : ∀ z : bd_S, bd_WF G out (k z) z (pc + 3) lv st) : bd_WF G out (bd_lt (bd_st σ 0 12 x) k) σ pc lv (.int x :: .ref (bd_ad (g_E G) 0) :: st) :=
  rr_put (ci := 2) (ty := .int) hG rfl hn rfl (by decide) inX2 tyX2_ok nmX2 12 (by decide) wd_X2_72 rfl rfl (by decide +kernel) rfl rfl (fun _ => Nat.le_of_ble_eq_true rfl) (bd_se_X2_72 (g_E G) 0 x) hd kk
theorem bd_se_X3_115 (E : bd_E) (r : Nat) (x : Int32) (f : Nat → Int32) : (bd_fs E f r 3).set 12 (.int x) = bd_fs E (upd f 12 x) r 3 := by simp [bd_fs, upd]
theorem pf_X3_115 {x : Int32} (hG : bd_OK G cc nL RX3 n fr lo rt) (hn : 55 < n) {k : bd_S → Option α} (hd : decode cc pc = .ok (.putfield 115, 3)) (kk : ∀ z : bd_S, bd_WF G out (k z) z (pc + 3) lv st) : bd_WF G out (bd_lt (bd_st σ 55 12 x) k) σ pc lv (.int x :: .ref (bd_ad (g_E G) 55) :: st) :=
  rr_put (ci := 3) (ty := .int) hG rfl hn rfl (by decide) inX3 tyX3_ok nmX3 12 (by decide) wd_X3_115 rfl rfl (by decide +kernel) rfl rfl (fun _ => Nat.le_of_ble_eq_true rfl) (bd_se_X3_115 (g_E G) 55 x) hd kk
theorem bd_se_X3_122 (E : bd_E) (r : Nat) (x : Int32) (f : Nat → Int32) : (bd_fs E f r 3).set 29 (.int x) = bd_fs E (upd f 29 x) r 3 := by simp [bd_fs, upd]
theorem pf_X3_122 {x : Int32} (hG : bd_OK G cc nL RX3 n fr lo rt) (hz : narrow .boolean (.int x) = .int x) (hz2 : fits .boolean (.int x) = true) (hn : 55 < n) {k : bd_S → Option α} (hd : decode cc pc = .ok (.putfield 122, 3)) (kk : ∀ z : bd_S, bd_WF G out (k z) z (pc + 3) lv st) : bd_WF G out (bd_lt (bd_st σ 55 29 x) k) σ pc lv (.int x :: .ref (bd_ad (g_E G) 55) :: st) :=
  rr_put (ci := 3) (ty := .boolean) hG rfl hn rfl (by decide) inX3 tyX3_ok nmX3 29 (by decide) wd_X3_122 rfl rfl (by decide +kernel) hz hz2 (fun _ => Nat.le_of_ble_eq_true rfl) (bd_se_X3_122 (g_E G) 55 x) hd kk
theorem bd_se_X3_140 (E : bd_E) (r : Nat) (x : Int32) (f : Nat → Int32) : (bd_fs E f r 3).set 0 (.int x) = bd_fs E (upd f 0 x) r 3 := by simp [bd_fs, upd]
theorem pf_X3_140 {x : Int32} (hG : bd_OK G cc nL RX3 n fr lo rt) (hn : 55 < n) {k : bd_S → Option α} (hd : decode cc pc = .ok (.putfield 140, 3)) (kk : ∀ z : bd_S, bd_WF G out (k z) z (pc + 3) lv st) : bd_WF G out (bd_lt (bd_st σ 55 0 x) k) σ pc lv (.int x :: .ref (bd_ad (g_E G) 55) :: st) :=
  rr_put (ci := 3) (ty := .int) hG rfl hn rfl (by decide) inX3 tyX3_ok nmX3 0 (by decide) wd_X3_140 rfl rfl (by decide +kernel) rfl rfl (fun _ => Nat.le_of_ble_eq_true rfl) (bd_se_X3_140 (g_E G) 55 x) hd kk
theorem bd_se_X3_184 (E : bd_E) (r : Nat) (x : Int32) (f : Nat → Int32) : (bd_fs E f r 3).set 34 (.int x) = bd_fs E (upd f 34 x) r 3 := by simp [bd_fs, upd]
theorem pf_X3_184 {x : Int32} (hG : bd_OK G cc nL RX3 n fr lo rt) (hn : 55 < n) {k : bd_S → Option α} (hd : decode cc pc = .ok (.putfield 184, 3)) (kk : ∀ z : bd_S, bd_WF G out (k z) z (pc + 3) lv st) : bd_WF G out (bd_lt (bd_st σ 55 34 x) k) σ pc lv (.int x :: .ref (bd_ad (g_E G) 55) :: st) :=
  rr_put (ci := 3) (ty := .int) hG rfl hn rfl (by decide) inX3 tyX3_ok nmX3 34 (by decide) wd_X3_184 rfl rfl (by decide +kernel) rfl rfl (fun _ => Nat.le_of_ble_eq_true rfl) (bd_se_X3_184 (g_E G) 55 x) hd kk
theorem bd_se_X3_188 (E : bd_E) (r : Nat) (x : Int32) (f : Nat → Int32) : (bd_fs E f r 3).set 35 (.int x) = bd_fs E (upd f 35 x) r 3 := by simp [bd_fs, upd]
theorem pf_X3_188 {x : Int32} (hG : bd_OK G cc nL RX3 n fr lo rt) (hn : 55 < n) {k : bd_S → Option α} (hd : decode cc pc = .ok (.putfield 188, 3)) (kk : ∀ z : bd_S, bd_WF G out (k z) z (pc + 3) lv st) : bd_WF G out (bd_lt (bd_st σ 55 35 x) k) σ pc lv (.int x :: .ref (bd_ad (g_E G) 55) :: st) :=
  rr_put (ci := 3) (ty := .int) hG rfl hn rfl (by decide) inX3 tyX3_ok nmX3 35 (by decide) wd_X3_188 rfl rfl (by decide +kernel) rfl rfl (fun _ => Nat.le_of_ble_eq_true rfl) (bd_se_X3_188 (g_E G) 55 x) hd kk
theorem bd_se_X3_19 (E : bd_E) (r : Nat) (x : Int32) (f : Nat → Int32) : (bd_fs E f r 3).set 4 (.int x) = bd_fs E (upd f 4 x) r 3 := by simp [bd_fs, upd]
theorem pf_X3_19 {x : Int32} (hG : bd_OK G cc nL RX3 n fr lo rt) (hn : 55 < n) {k : bd_S → Option α} (hd : decode cc pc = .ok (.putfield 19, 3)) (kk : ∀ z : bd_S, bd_WF G out (k z) z (pc + 3) lv st) : bd_WF G out (bd_lt (bd_st σ 55 4 x) k) σ pc lv (.int x :: .ref (bd_ad (g_E G) 55) :: st) :=
  rr_put (ci := 3) (ty := .int) hG rfl hn rfl (by decide) inX3 tyX3_ok nmX3 4 (by decide) wd_X3_19 rfl rfl (by decide +kernel) rfl rfl (fun _ => Nat.le_of_ble_eq_true rfl) (bd_se_X3_19 (g_E G) 55 x) hd kk
theorem bd_se_X3_93 (E : bd_E) (r : Nat) (x : Int32) (f : Nat → Int32) : (bd_fs E f r 3).set 30 (.int x) = bd_fs E (upd f 30 x) r 3 := by simp [bd_fs, upd]
theorem pf_X3_93 {x : Int32} (hG : bd_OK G cc nL RX3 n fr lo rt) (hn : 55 < n) {k : bd_S → Option α} (hd : decode cc pc = .ok (.putfield 93, 3)) (kk : ∀ z : bd_S, bd_WF G out (k z) z (pc + 3) lv st) : bd_WF G out (bd_lt (bd_st σ 55 30 x) k) σ pc lv (.int x :: .ref (bd_ad (g_E G) 55) :: st) :=
  rr_put (ci := 3) (ty := .int) hG rfl hn rfl (by decide) inX3 tyX3_ok nmX3 30 (by decide) wd_X3_93 rfl rfl (by decide +kernel) rfl rfl (fun _ => Nat.le_of_ble_eq_true rfl) (bd_se_X3_93 (g_E G) 55 x) hd kk
end BDF
