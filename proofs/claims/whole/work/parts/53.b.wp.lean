/-! what a program comes to -/
def wp {α : Type} (x : Option (α × bd_S)) (P : α → bd_S → Prop) : Prop := ∃ (r : α) (σ : bd_S), x = some (r, σ) ∧ P r σ
theorem wp_mono {α : Type} {x : Option (α × bd_S)} {P Q : α → bd_S → Prop} (h : wp x P) (hh : ∀ r σ, P r σ → Q r σ) : wp x Q := by
  obtain ⟨r, σ, h1, h2⟩ := h
  exact ⟨r, σ, h1, hh r σ h2⟩
theorem wp_and {α : Type} {x : Option (α × bd_S)} {P Q : α → bd_S → Prop} (h : wp x P) (h' : wp x Q) : wp x (fun r σ => P r σ ∧ Q r σ) := by
  obtain ⟨r, σ, h1, h2⟩ := h
  obtain ⟨r', σ', h1', h2'⟩ := h'
  rw [h1] at h1'
  cases h1'
  exact ⟨r, σ, h1, h2, h2'⟩
theorem wp_some {α : Type} {r : α} {σ : bd_S} {P : α → bd_S → Prop} (h : P r σ) : wp (some (r, σ)) P := ⟨r, σ, rfl, h⟩
theorem wp_b {α β : Type} {x : Option (β × bd_S)} {k : β → bd_S → Option (α × bd_S)} {P : α → bd_S → Prop} (h : wp x (fun r σ => wp (k r σ) P)) : wp (bd_b x k) P := by
  obtain ⟨r, σ, h1, h2⟩ := h
  rw [h1]
  exact h2
/-- a call by what is known of it -/
theorem wp_c {α β : Type} {x : Option (β × bd_S)} {k : β → bd_S → Option (α × bd_S)} {P : α → bd_S → Prop} {Q : β → bd_S → Prop} (h : wp x Q) (hk : ∀ r σ, Q r σ → wp (k r σ) P) : wp (bd_b x k) P := wp_b (wp_mono h hk)
theorem wp_lt {α β : Type} {e : β} {k : β → Option (α × bd_S)} {P : α → bd_S → Prop} (h : wp (k e) P) : wp (bd_lt e k) P := h
theorem wp_zr {v : Int32} {σ : bd_S} {P : Int32 → bd_S → Prop} (hv : v = 0 ∨ v = 1) (h : P v σ) : wp (bd_zr v σ) P := ⟨v, σ, if_pos hv, h⟩
theorem wp_rd {α : Type} {σ : bd_S} {r m : Nat} {i : Int32} {k : Int32 → Option (α × bd_S)} {P : α → bd_S → Prop} (d : Nat) (hi : i = nI d) (hd : d < m) (hm : m < 1000) (h : wp (k (σ r d)) P) : wp (bd_rd σ r i m k) P := by
  subst hi
  unfold bd_rd
  rw [if_neg (nI_in hd (by omega)), nI_clamp (by omega)]
  exact h
theorem wp_wr {α : Type} {σ : bd_S} {r m : Nat} {i v : Int32} {k : bd_S → Option (α × bd_S)} {P : α → bd_S → Prop} (d : Nat) (hi : i = nI d) (hd : d < m) (hm : m < 1000) (h : wp (k (bd_st σ r d v)) P) : wp (bd_wr σ r i m v k) P := by
  subst hi
  unfold bd_wr
  rw [if_neg (nI_in hd (by omega)), nI_clamp (by omega)]
  exact h
theorem wp_rs {α : Type} {i : Int32} {k : Nat → Option (α × bd_S)} {P : α → bd_S → Prop} (d : Nat) (hi : i = nI d) (hd : d < 4) (h : wp (k (19 + 9 * d)) P) : wp (bd_rs i k) P := by
  subst hi
  unfold bd_rs
  rw [if_neg (nI_in hd (by omega)), nI_clamp (by omega)]
  exact h
theorem wp_dv {α : Type} {x y : Int32} {k : Int32 → Option (α × bd_S)} {P : α → bd_S → Prop} (hy : ¬ y = 0) (h : wp (k (x / y)) P) : wp (bd_dv x y k) P := by
  unfold bd_dv
  rw [if_neg hy]
  exact h
theorem wp_rm {α : Type} {x y : Int32} {k : Int32 → Option (α × bd_S)} {P : α → bd_S → Prop} (hy : ¬ y = 0) (h : wp (k (x - x / y * y)) P) : wp (bd_rm x y k) P := by
  unfold bd_rm
  rw [if_neg hy]
  exact h
theorem wp_dvl {α : Type} {x y : Int64} {k : Int64 → Option (α × bd_S)} {P : α → bd_S → Prop} (hy : ¬ y = 0) (h : wp (k (x / y)) P) : wp (bd_dvl x y k) P := by
  unfold bd_dvl
  rw [if_neg hy]
  exact h
theorem wp_rml {α : Type} {x y : Int64} {k : Int64 → Option (α × bd_S)} {P : α → bd_S → Prop} (hy : ¬ y = 0) (h : wp (k (x - x / y * y)) P) : wp (bd_rml x y k) P := by
  unfold bd_rml
  rw [if_neg hy]
  exact h
theorem wp_if {α : Type} {c : Prop} {A B : Option (α × bd_S)} {P : α → bd_S → Prop} {_ : Decidable c} (h1 : c → wp A P) (h2 : ¬ c → wp B P) : wp (if c then A else B) P := by
  by_cases h : c
  · rw [if_pos h]; exact h1 h
  · rw [if_neg h]; exact h2 h
theorem wp_ift {α : Type} {c : Prop} {A B : Option (α × bd_S)} {P : α → bd_S → Prop} {_ : Decidable c} (h : c) (h1 : wp A P) : wp (if c then A else B) P := by rw [if_pos h]; exact h1
theorem wp_iff {α : Type} {c : Prop} {A B : Option (α × bd_S)} {P : α → bd_S → Prop} {_ : Decidable c} (h : ¬ c) (h1 : wp B P) : wp (if c then A else B) P := by rw [if_neg h]; exact h1
/-! the numbers behind a write -/
theorem st_ne {σ : bd_S} {r q k : Nat} {v : Int32} (h : q ≠ r) : bd_st σ r k v q = σ q := bd_sr_ne σ _ h
theorem st_at {σ : bd_S} {r k : Nat} {v : Int32} : bd_st σ r k v r = upd (σ r) k v := bd_sr_self σ r _
theorem st_same {σ : bd_S} {r k : Nat} {v : Int32} : bd_st σ r k v r k = v := by rw [st_at]; exact if_pos rfl
theorem st_off {σ : bd_S} {r k j : Nat} {v : Int32} (h : j ≠ k) : bd_st σ r k v r j = σ r j := by rw [st_at]; exact if_neg h
theorem st_all (σ : bd_S) (r k : Nat) (v : Int32) (q j : Nat) : bd_st σ r k v q j = if q = r ∧ j = k then v else σ q j := by
  by_cases h : q = r
  · subst h
    by_cases hj : j = k
    · subst hj; rw [st_same, if_pos ⟨rfl, rfl⟩]
    · rw [st_off hj, if_neg (fun q => hj q.2)]
  · rw [st_ne h, if_neg (fun q => h q.1)]
/-! ===== signed ints as whole numbers, within bounds ===== -/
theorem fb_rng (x : Int32) : -2147483648 ≤ x.toInt ∧ x.toInt < 2147483648 := by
  have h1 := Int32.le_toInt x
  have h2 := Int32.toInt_lt x
  omega
theorem fb_bmod {z : Int} (h1 : -2147483648 ≤ z) (h2 : z < 2147483648) : z.bmod (2 ^ 32) = z := by
  rw [Int.bmod_eq_of_le (by omega) (by omega)]
theorem fb_addI {x y : Int32} (h1 : -2147483648 ≤ x.toInt + y.toInt) (h2 : x.toInt + y.toInt < 2147483648) : (x + y).toInt = x.toInt + y.toInt := by
  rw [Int32.toInt_add, fb_bmod h1 h2]
theorem fb_subI {x y : Int32} (h1 : -2147483648 ≤ x.toInt - y.toInt) (h2 : x.toInt - y.toInt < 2147483648) : (x - y).toInt = x.toInt - y.toInt := by
  rw [Int32.toInt_sub, fb_bmod h1 h2]
theorem fb_mulI {x y : Int32} (h1 : -2147483648 ≤ x.toInt * y.toInt) (h2 : x.toInt * y.toInt < 2147483648) : (x * y).toInt = x.toInt * y.toInt := by
  rw [Int32.toInt_mul, fb_bmod h1 h2]
theorem fb_negI {x : Int32} (h : x.toInt ≠ -2147483648) : (-x).toInt = -x.toInt := by
  have := fb_rng x
  rw [Int32.toInt_neg, fb_bmod (by omega) (by omega)]
theorem ti_le {x y : Int32} : x ≤ y ↔ x.toInt ≤ y.toInt := Int32.le_iff_toInt_le
theorem ti_lt {x y : Int32} : x < y ↔ x.toInt < y.toInt := Int32.lt_iff_toInt_lt
theorem ti_eq {x y : Int32} : x = y ↔ x.toInt = y.toInt := Int32.toInt_inj.symm
theorem ti_max {x y : Int32} : (if x < y then y else x).toInt = max x.toInt y.toInt := by
  by_cases h : x < y
  · rw [if_pos h]; have := ti_lt.mp h; omega
  · rw [if_neg h]; have : ¬ x.toInt < y.toInt := fun q => h (ti_lt.mpr q); omega
theorem ti_min {x y : Int32} : (if y < x then y else x).toInt = min x.toInt y.toInt := by
  by_cases h : y < x
  · rw [if_pos h]; have := ti_lt.mp h; omega
  · rw [if_neg h]; have : ¬ y.toInt < x.toInt := fun q => h (ti_lt.mpr q); omega
theorem ti_nI {n : Nat} (h : n < 2000) : (nI n).toInt = n := nI_toInt (by omega)
/-- a written number in a comparison with a counter -/
theorem nle {a b : Nat} (ha : a < 2000) (hb : b < 2000) : nI a ≤ nI b ↔ a ≤ b := nI_leI (by omega) (by omega)
theorem nlt {a b : Nat} (ha : a < 2000) (hb : b < 2000) : nI a < nI b ↔ a < b := nI_ltI (by omega) (by omega)
theorem neq {a b : Nat} (ha : a < 2000) (hb : b < 2000) : nI a = nI b ↔ a = b := nI_eq (by omega) (by omega)
/-! floor of a quotient -/
theorem fl_xor (x y : Int32) (hy : 0 < y.toInt) : 0 ≤ (x ^^^ y) ↔ 0 ≤ x.toInt := by
  have key : ∀ z : Int32, 0 ≤ z.toInt ↔ z.toBitVec.msb = false := by
    intro z
    rw [show z.toInt = z.toBitVec.toInt from rfl, BitVec.toInt_eq_msb_cond]
    have := z.toBitVec.isLt
    cases hm : z.toBitVec.msb <;> simp <;> omega
  rw [ti_le, show (0 : Int32).toInt = 0 from rfl, key, key]
  have h2 : y.toBitVec.msb = false := (key y).mp (by omega)
  rw [Int32.toBitVec_xor, BitVec.msb_xor, h2]
  simp
theorem fl_div {x y : Int32} (hy : 0 < y.toInt) : (x / y).toInt = x.toInt.tdiv y.toInt := by
  refine Int32.toInt_div_of_ne_right x y (fun h => ?_)
  rw [h] at hy
  exact absurd hy (by decide)
theorem fl_ne {y : Int32} (hy : 0 < y.toInt) : ¬ y = 0 := fun h => by rw [h] at hy; exact absurd hy (by decide)
theorem fl_np {a b : Int} (h : a ≤ 0) : a.tmod b ≤ 0 := by
  have h1 := Int.tmod_nonneg b (show 0 ≤ -a by omega)
  rw [Int.neg_tmod] at h1
  omega
theorem fl_tdiv {a b : Int} (hb : 0 < b) : a.tdiv b = if 0 ≤ a then a / b else if a.tdiv b * b = a then a / b else a / b + 1 := by
  have h1 := Int.mul_tdiv_add_tmod a b
  have h2 := Int.mul_ediv_add_emod a b
  have h3 := Int.emod_nonneg a (show b ≠ 0 by omega)
  have h4 := Int.emod_lt_of_pos a hb
  by_cases h : 0 ≤ a
  · rw [if_pos h]; exact Int.tdiv_eq_ediv_of_nonneg h
  · rw [if_neg h]
    have h5 : a.tmod b ≤ 0 := fl_np (by omega)
    have h6 : -b < a.tmod b := by
      have := Int.lt_tmod_of_pos a hb
      omega
    generalize hq : a.tdiv b = q at *
    generalize hr : a.tmod b = r at *
    generalize hq' : a / b = q' at *
    generalize hr' : a % b = r' at *
    have e1 : b * (q - q') = r' - r := by rw [Int.mul_sub]; omega
    by_cases hz : q * b = a
    · rw [if_pos hz]
      have : r = 0 := by rw [Int.mul_comm] at hz; omega
      have e2 : b * (q - q') = r' := by omega
      rcases Int.lt_trichotomy (q - q') 0 with hh | hh | hh
      · have : b * (q - q') < 0 := Int.mul_neg_of_pos_of_neg hb hh
        omega
      · omega
      · have : b * 1 ≤ b * (q - q') := Int.mul_le_mul_of_nonneg_left (by omega) (by omega)
        omega
    · rw [if_neg hz]
      have hr0 : r ≠ 0 := fun e => hz (by rw [Int.mul_comm]; omega)
      rcases Int.lt_trichotomy (q - q') 1 with hh | hh | hh
      · have : b * (q - q') ≤ b * 0 := Int.mul_le_mul_of_nonneg_left (by omega) (by omega)
        omega
      · omega
      · have : b * 2 ≤ b * (q - q') := Int.mul_le_mul_of_nonneg_left (by omega) (by omega)
        omega
theorem fl_small {a b B : Int} (hb : 0 < b) (h1 : -B ≤ a) (h2 : a ≤ B) (hB : 0 ≤ B) : -B ≤ a / b ∧ a / b ≤ B := by
  constructor
  · rw [Int.le_ediv_iff_mul_le hb]
    have : (-B) * b ≤ (-B) * 1 := Int.mul_le_mul_of_nonpos_left (by omega) (by omega)
    omega
  · refine Int.le_trans (Int.ediv_le_ediv hb h2) ?_
    exact Int.ediv_le_self b hB
theorem s_floorDiv {x y : Int32} {σ : bd_S} (hy : 0 < y.toInt) (hx : -1000000000 ≤ x.toInt ∧ x.toInt ≤ 1000000000) : wp (f_J9_floorDiv_7cf53 x y σ) (fun r σ' => σ' = σ ∧ r.toInt = x.toInt / y.toInt) := by
  have hs := fl_small hy hx.1 hx.2 (by omega)
  have ht := @fl_tdiv x.toInt y.toInt hy
  unfold f_J9_floorDiv_7cf53
  refine wp_dv (fl_ne hy) (wp_lt (wp_if (fun h => ?_) (fun h => ?_)))
  · have h := (fl_xor x y hy).mp h
    rw [if_pos h] at ht
    exact wp_some ⟨rfl, by rw [fl_div hy, ht]⟩
  · have h : ¬ 0 ≤ x.toInt := fun q => h ((fl_xor x y hy).mpr q)
    rw [if_neg h] at ht
    have hm : (x / y * y).toInt = x.toInt.tdiv y.toInt * y.toInt := by
      have h1 := Int.mul_tdiv_add_tmod x.toInt y.toInt
      have h5 : x.toInt.tmod y.toInt ≤ 0 := fl_np (by omega)
      have h6 := Int.lt_tmod_of_pos x.toInt hy
      have h7 := (fb_rng y)
      have h8 : x.toInt.tdiv y.toInt * y.toInt = y.toInt * x.toInt.tdiv y.toInt := Int.mul_comm _ _
      rw [fb_mulI, fl_div hy] <;> rw [fl_div hy] <;> omega
    refine wp_lt (wp_if (fun h2 => ?_) (fun h2 => ?_))
    · have h3 : x.toInt.tdiv y.toInt * y.toInt = x.toInt := by rw [← hm, h2]
      rw [if_pos h3] at ht
      exact wp_some ⟨rfl, by rw [fl_div hy, ht]⟩
    · have h3 : ¬ x.toInt.tdiv y.toInt * y.toInt = x.toInt := fun q => h2 (ti_eq.mpr (by rw [hm, q]))
      rw [if_neg h3] at ht
      refine wp_lt (wp_some ⟨rfl, ?_⟩)
      have h9 : (1 : Int32).toInt = 1 := rfl
      have hd := fl_div (x := x) hy
      rw [fb_subI (by omega) (by omega)]
      omega
theorem s_cutUp {x y : Int32} {σ : bd_S} (hy : 0 < y.toInt) (hx : -1000000000 ≤ x.toInt ∧ x.toInt ≤ 1000000000) : wp (f_X2_cutUp x y σ) (fun r σ' => σ' = σ ∧ r.toInt = -(-x.toInt / y.toInt)) := by
  unfold f_X2_cutUp
  have hn : (-x).toInt = -x.toInt := fb_negI (by omega)
  refine wp_lt (wp_c (s_floorDiv hy (by rw [hn]; omega)) (fun r σ' h => ?_))
  obtain ⟨rfl, h⟩ := h
  have hs := fl_small hy (a := -x.toInt) (B := 1000000000) (by omega) (by omega) (by omega)
  rw [hn] at h
  refine wp_lt (wp_some ⟨rfl, ?_⟩)
  rw [fb_negI (by omega), h]
theorem s_down {x y : Int32} {σ : bd_S} (hy : 0 < y.toInt) (hx : -1000000000 ≤ x.toInt ∧ x.toInt ≤ 1000000000) : wp (f_X3_down x y σ) (fun r σ' => σ' = σ ∧ r.toInt = x.toInt / y.toInt) := by
  have hs := fl_small hy hx.1 hx.2 (by omega)
  have ht := @fl_tdiv x.toInt y.toInt hy
  unfold f_X3_down
  have h1 := Int.mul_tdiv_add_tmod x.toInt y.toInt
  have h7 := (fb_rng y)
  have h8 : x.toInt.tdiv y.toInt * y.toInt = y.toInt * x.toInt.tdiv y.toInt := Int.mul_comm _ _
  have hm : (x / y * y).toInt = x.toInt.tdiv y.toInt * y.toInt := by
    by_cases h : 0 ≤ x.toInt
    · have h5 : 0 ≤ x.toInt.tmod y.toInt := Int.tmod_nonneg _ h
      have h6 := Int.tmod_lt_of_pos x.toInt hy
      rw [fb_mulI, fl_div hy] <;> rw [fl_div hy] <;> omega
    · have h5 : x.toInt.tmod y.toInt ≤ 0 := fl_np (by omega)
      have h6 := Int.lt_tmod_of_pos x.toInt hy
      rw [fb_mulI, fl_div hy] <;> rw [fl_div hy] <;> omega
  refine wp_dv (fl_ne hy) (wp_lt (wp_if (fun h => ?_) (fun h => ?_)))
  · refine wp_some ⟨rfl, ?_⟩
    rw [fl_div hy]
    have h := ti_le.mp h
    rw [hm] at h
    by_cases h0 : 0 ≤ x.toInt
    · rw [if_pos h0] at ht; exact ht
    · rw [if_neg h0] at ht
      have h5 : x.toInt.tmod y.toInt ≤ 0 := fl_np (by omega)
      rw [if_pos (by omega)] at ht
      exact ht
  · have h : ¬ (x / y * y).toInt ≤ x.toInt := fun q => h (ti_le.mpr q)
    rw [hm] at h
    refine wp_lt (wp_some ⟨rfl, ?_⟩)
    have h9 : (1 : Int32).toInt = 1 := rfl
    by_cases h0 : 0 ≤ x.toInt
    · have h5 : 0 ≤ x.toInt.tmod y.toInt := Int.tmod_nonneg _ h0
      omega
    · rw [if_neg h0, if_neg (by omega)] at ht
      have hd := fl_div (x := x) hy
      rw [fb_subI (by omega) (by omega)]
      omega
theorem s_up {x y : Int32} {σ : bd_S} (hy : 0 < y.toInt) (hx : -1000000000 ≤ x.toInt ∧ x.toInt ≤ 1000000000) : wp (f_X3_up x y σ) (fun r σ' => σ' = σ ∧ r.toInt = -(-x.toInt / y.toInt)) := by
  unfold f_X3_up
  have hn : (-x).toInt = -x.toInt := fb_negI (by omega)
  refine wp_lt (wp_c (s_down hy (by rw [hn]; omega)) (fun r σ' h => ?_))
  obtain ⟨rfl, h⟩ := h
  have hs := fl_small hy (a := -x.toInt) (B := 1000000000) (by omega) (by omega) (by omega)
  rw [hn] at h
  refine wp_lt (wp_some ⟨rfl, ?_⟩)
  rw [fb_negI (by omega), h]
/-- cut up and down, as bounds -/
theorem fl_ge {a b t : Int} (hb : 0 < b) : t ≤ a / b ↔ b * t ≤ a := by rw [Int.le_ediv_iff_mul_le hb, Int.mul_comm]
theorem fl_le {a b t : Int} (hb : 0 < b) : -(-a / b) ≤ t ↔ a ≤ b * t := by
  have h := @fl_ge (-a) b (-t) hb
  rw [Int.mul_neg] at h
  omega
