/-! INVARIANT between class and reference; all told in the reference's data -/
def bt (x : Int32) (i : Nat) : Bool := x.toBitVec.getLsbD i
def nv (x : Int32) : Nat := x.toInt.toNat
theorem nv_nI {n : Nat} (h : n < 2000) : nv (nI n) = n := by
  unfold nv
  rw [ti_nI h]
  omega
def nts (σ : bd_S) (s : Nat) : Nat := nv (σ 66 s)
def dy (σ : bd_S) (q : Nat) : Nat := nv (σ 68 q)
def mdo (σ : bd_S) (d : Nat) : Int := ((σ 59 d).toInt + (σ 60 d).toInt) / 2
def llt (σ : bd_S) (sl : Nat → Int) (d : Nat) : Int := mdo σ d - (σ 60 d).toInt + (σ 61 0).toInt + (σ 61 1).toInt + sl d
def glt (σ : bd_S) (sl : Nat → Int) (d : Nat) : Int := mdo σ d - (σ 59 d).toInt + (σ 62 0).toInt + (σ 62 1).toInt + sl d
def ltN (σ : bd_S) (q : Nat) : Int := if σ 69 q = 2 then 7 * (σ 70 q).toInt + 3 else if σ 69 q = 1 then 1 else 2
def snN (σ : bd_S) (q : Nat) : Int := if σ 69 q = 2 then 5 * (σ 70 q).toInt - 3 else if σ 69 q = 1 then -1 else -2
def nA (σ : bd_S) (sl : Nat → Int) (q : Nat) : Int := if σ 69 q = 3 then (σ 71 q).toInt - 4 * (σ 70 q).toInt - 4 else (σ 71 q).toInt - glt σ sl (dy σ q) - ltN σ q
def nB (σ : bd_S) (sl : Nat → Int) (q : Nat) : Int := if σ 69 q = 3 then (σ 71 q).toInt - 4 * (σ 70 q).toInt + 4 else (σ 71 q).toInt - llt σ sl (dy σ q) - snN σ q
def cnt (σ : bd_S) (s q w : Nat) : Prop := σ 69 q = 3 ∨ (dy σ q ≠ w ∧ (σ 64 (dy σ q) = 0 ∨ σ 72 (20 * s + dy σ q) = 0))
def Adn (σ : bd_S) (s c w : Nat) (sl : Nat → Int) (n : Nat) (lo hi : Nat → Int) : Prop := sp_sub lo hi (sp_j (fun _ => -99999) (-99)) (sp_j (fun _ => 99999) 99) ∧
  ∀ k, k < n → σ 67 (12 * s + k) = nI c → cnt σ s (12 * s + k) w → nA σ sl (12 * s + k) ≤ lo (dy σ (12 * s + k)) ∧ hi (dy σ (12 * s + k)) ≤ nB σ sl (12 * s + k)
def gq (σ : bd_S) (s c : Nat) : Nat → Int
  | 0 => 0
  | d + 1 => gq σ s c d + (σ 73 (3 * s + c)).toInt * ((σ 65 d).toInt - 5)
def AdO (σ : bd_S) (n : Nat) (lo hi : Nat → Int) : Prop := sp_sub lo hi (sp_j (fun _ => -600) (-20)) (sp_j (fun _ => 600) 20) ∧
  ∀ k, k < n → (σ 57 k).toInt - (σ 58 k).toInt ≤ lo (nv (σ 56 k)) ∧ hi (nv (σ 56 k)) ≤ (σ 57 k).toInt + (σ 58 k).toInt
/-- places that no answer is read from later -/
def qS (r k : Nat) : Prop := (4 ≤ r ∧ r ≤ 9) ∨ r = 17 ∨ r = 18 ∨ r = 79 ∨ r = 80 ∨ (r = 81 ∧ k ≠ 0) ∨ (82 ≤ r ∧ r ≤ 84) ∨ (r = 55 ∧ (k = 29 ∨ k = 34 ∨ k = 35))
def qU (σ σ' : bd_S) : Prop := ∀ r k, ¬ qS r k → σ' r k = σ r k
def qV (σ σ' : bd_S) : Prop := ∀ r k, ¬ qS r k → r ≠ 63 → ¬ (r = 55 ∧ k = 30) → σ' r k = σ r k
/-- what the reference's learning reads -/
def qR (σ σ' : bd_S) : Prop := ∀ r k, (56 ≤ r ∧ r ≤ 62) ∨ (64 ≤ r ∧ r ≤ 78) ∨ (r = 81 ∧ k = 0) → σ' r k = σ r k
theorem qR.tr {σ σ' σ'' : bd_S} (h : qR σ σ') (h' : qU σ' σ'') : qR σ σ'' := fun r k q => (h' r k (by unfold qS; omega)).trans (h r k q)
theorem qR.at {σ σ' : bd_S} (h : qR σ σ') {r k : Nat} (q : (56 ≤ r ∧ r ≤ 62) ∨ (64 ≤ r ∧ r ≤ 78)) : σ' r k = σ r k := h r k (by omega)
theorem qV.r {σ σ' : bd_S} (h : qV σ σ') : qR σ σ' := fun r k q => h r k (by unfold qS; omega) (by omega) (by omega)
theorem qU.r {σ σ' : bd_S} (h : qU σ σ') : qR σ σ' := fun r k q => h r k (by unfold qS; omega)
theorem qU.rf {σ : bd_S} : qU σ σ := fun _ _ _ => rfl
theorem qU.tr {σ σ' σ'' : bd_S} (h : qU σ σ') (h' : qU σ' σ'') : qU σ σ'' := fun r k q => (h' r k q).trans (h r k q)
theorem qU.v {σ σ' : bd_S} (h : qU σ σ') : qV σ σ' := fun r k q _ _ => h r k q
theorem qV.tr {σ σ' σ'' : bd_S} (h : qV σ σ') (h' : qU σ' σ'') : qV σ σ'' := fun r k q q1 q2 => (h' r k q).trans (h r k q q1 q2)
def IA (σ : bd_S) : Prop := σ 0 12 = σ 55 0 ∧ (∃ n, n ≤ 20 ∧ σ 55 0 = nI n) ∧ σ 0 13 = σ 55 4 ∧ (∃ v, v ≤ 9 ∧ σ 55 4 = nI v) ∧ σ 0 15 = σ 55 12 ∧ (∃ n, n ≤ 4 ∧ σ 55 12 = nI n) ∧ σ 55 30 = -6 ∧ σ 81 0 = 0
def IB (σ : bd_S) : Prop := (∀ d, d < 32 → bt (σ 0 14) d = (decide (d < 20) && decide (σ 64 d ≠ 0))) ∧ ∀ d, d < 20 → σ 64 d = 0 ∨ σ 64 d = 1
def IC (σ : bd_S) : Prop := (∀ k, σ 10 k = σ 61 k ∧ 0 ≤ (σ 61 k).toInt ∧ (σ 61 k).toInt ≤ 50) ∧ (∀ k, σ 11 k = σ 62 k ∧ 0 ≤ (σ 62 k).toInt ∧ (σ 62 k).toInt ≤ 50) ∧ (∀ k, σ 12 k = σ 63 k ∧ -60 ≤ (σ 63 k).toInt ∧ (σ 63 k).toInt ≤ 60) ∧
  (∀ k, σ 13 k = σ 65 k ∧ 0 ≤ (σ 65 k).toInt ∧ (σ 65 k).toInt ≤ 9) ∧ (∀ k, σ 15 k = σ 77 k) ∧ (∀ k, σ 16 k = σ 78 k)
def ID (σ : bd_S) : Prop := (∀ d, d < 20 → σ 2 d = σ 59 d ∧ σ 3 d = σ 60 d) ∧ σ 1 2 = σ 59 20 ∧ σ 1 3 = σ 60 20 ∧ sp_cl (fun _ => 0) (AdO σ (nv (σ 55 0))) (fun k => (σ 59 k).toInt) (fun k => (σ 60 k).toInt) ∧
  ∀ k, k < nv (σ 55 0) → (∃ d, d < 20 ∧ σ 56 k = nI d) ∧ -600 ≤ (σ 57 k).toInt ∧ (σ 57 k).toInt ≤ 600 ∧ 0 ≤ (σ 58 k).toInt ∧ (σ 58 k).toInt ≤ 9
def NR (σ : bd_S) (s k q : Nat) : Prop := σ (19 + 9 * s + 1) k = σ 67 q ∧ (dy σ q < 20 ∧ σ 68 q = nI (dy σ q)) ∧ σ (19 + 9 * s + 2) k = σ 68 q ∧ (σ (19 + 9 * s + 3) k = 0 ↔ σ 69 q = 3) ∧ (σ 69 q = 0 ∨ σ 69 q = 1 ∨ σ 69 q = 2 ∨ σ 69 q = 3) ∧
  (-9999 ≤ (σ 70 q).toInt ∧ (σ 70 q).toInt ≤ 9999 ∧ -99999 ≤ (σ 71 q).toInt ∧ (σ 71 q).toInt ≤ 99999) ∧ (σ 69 q ≠ 3 → 0 ≤ (σ 70 q).toInt ∧ (σ 70 q).toInt ≤ 30 ∧ -9999 ≤ (σ 71 q).toInt ∧ (σ 71 q).toInt ≤ 9999) ∧
  (σ (19 + 9 * s + 4) k).toInt = (if σ 69 q = 3 then (σ 71 q).toInt - 4 * (σ 70 q).toInt - 4 else (σ 71 q).toInt - ltN σ q) ∧ (σ (19 + 9 * s + 5) k).toInt = (if σ 69 q = 3 then (σ 71 q).toInt - 4 * (σ 70 q).toInt + 4 else (σ 71 q).toInt - snN σ q)
def IE (σ : bd_S) (s : Nat) : Prop := (nts σ s ≤ 12 ∧ σ 66 s = nI (nts σ s)) ∧ σ (19 + 9 * s) 8 = σ 66 s ∧ ∀ k, k < nts σ s → NR σ s k (12 * s + k)
def IF (σ : bd_S) (s : Nat) : Prop := (∀ d, d < 32 → bt (σ (19 + 9 * s) 9) d = (decide (d < 20) && decide (σ 72 (20 * s + d) ≠ 0))) ∧ ∀ d, d < 20 → σ 72 (20 * s + d) = 0 ∨ σ 72 (20 * s + d) = 1
def IG (σ : bd_S) (s : Nat) : Prop := ∀ c, c < 3 → σ (19 + 9 * s + 6) c = σ 73 (3 * s + c) ∧ 0 ≤ (σ 73 (3 * s + c)).toInt ∧ (σ 73 (3 * s + c)).toInt ≤ 5 ∧ σ (19 + 9 * s + 7) c = σ 74 (3 * s + c) ∧ 1 ≤ (σ 74 (3 * s + c)).toInt ∧ (σ 74 (3 * s + c)).toInt ≤ 9
def IH0 (σ : bd_S) (s : Nat) : Prop := σ (19 + 9 * s) 10 = σ 75 s ∧ (∃ d, d < 20 ∧ σ 75 s = nI d) ∧ ∀ c, c < 3 → σ (19 + 9 * s + 8) c = σ 76 (3 * s + c) ∧ -99999 ≤ (σ 76 (3 * s + c)).toInt ∧ (σ 76 (3 * s + c)).toInt ≤ 99999
/-- a ship that isn't there has no notes -/
def IJ (σ : bd_S) (s : Nat) : Prop := (σ 55 12).toInt ≤ (s : Int) → σ 66 s = 0
def IH (σ : bd_S) (s : Nat) : Prop := IH0 σ s ∧ IJ σ s
def Inv (σ : bd_S) : Prop := IA σ ∧ IB σ ∧ IC σ ∧ ID σ ∧ ∀ s, s < 4 → IE σ s ∧ IF σ s ∧ IG σ s ∧ IH σ s
theorem ix3 {s c : Nat} : 3 * nI s + nI c = nI (3 * s + c) := by rw [show (3 : Int32) = nI 3 from rfl, pk_mul, nI_add]
theorem ix12 {s c : Nat} : 12 * nI s + nI c = nI (12 * s + c) := by rw [show (12 : Int32) = nI 12 from rfl, pk_mul, nI_add]
theorem ix20 {s c : Nat} : 20 * nI s + nI c = nI (20 * s + c) := by rw [show (20 : Int32) = nI 20 from rfl, pk_mul, nI_add]
/-! what the reference lays down first -/
theorem sp_sub_cut {lo hi a b a' b' : Nat → Int} {d : Nat} {x y : Int} (hd : d ≤ 20) (h1 : ∀ k, k ≤ 20 → a' k = if k = d then max (a d) x else a k) (h2 : ∀ k, k ≤ 20 → b' k = if k = d then min (b d) y else b k) : sp_sub lo hi a' b' ↔ (sp_sub lo hi a b ∧ x ≤ lo d ∧ hi d ≤ y) := by
  constructor
  · intro h
    have hd' := h d hd
    rw [h1 d hd, h2 d hd, if_pos rfl, if_pos rfl] at hd'
    refine ⟨fun k hk => ?_, by omega, by omega⟩
    have hk' := h k hk
    rw [h1 k hk, h2 k hk] at hk'
    by_cases e : k = d
    · subst e; omega
    · rw [if_neg e, if_neg e] at hk'; exact hk'
  · rintro ⟨h, q1, q2⟩ k hk
    have hk' := h k hk
    rw [h1 k hk, h2 k hk]
    by_cases e : k = d
    · subst e; rw [if_pos rfl, if_pos rfl]; omega
    · rw [if_neg e, if_neg e]; exact hk'
theorem s_start_2 {a b : Int32} {σ0 : bd_S} : ∀ (m d n : Nat) (σ : bd_S), d + m = 21 → m < n → (∀ r, r ≠ 79 → r ≠ 80 → σ r = σ0 r) → (∀ k, k < d → σ 79 k = (if k = 20 then -b else -a) ∧ σ 80 k = (if k = 20 then b else a)) →
    wp (f_X3_start_2 n (nI d) a b σ) (fun _ σ' => (∀ r, r ≠ 79 → r ≠ 80 → σ' r = σ0 r) ∧ ∀ k, k ≤ 20 → σ' 79 k = (if k = 20 then -b else -a) ∧ σ' 80 k = (if k = 20 then b else a)) := by
  intro m
  induction m with
  | zero =>
    intro d n σ hd hn h1 h2
    obtain ⟨n, rfl⟩ : ∃ z, n = z + 1 := ⟨n - 1, by omega⟩
    have : d = 21 := by omega
    subst this
    unfold f_X3_start_2
    exact wp_ift ((nle (by decide) (by decide)).mpr (Nat.le_refl 21)) (wp_some ⟨h1, fun k hk => h2 k (by omega)⟩)
  | succ m ih =>
    intro d n σ hd hn h1 h2
    obtain ⟨n, rfl⟩ : ∃ z, n = z + 1 := ⟨n - 1, by omega⟩
    have step : ∀ x y : Int32, x = (if d = 20 then -b else -a) → y = (if d = 20 then b else a) → wp (f_X3_start_2 n (nI (d + 1)) a b (bd_st (bd_st σ 79 d x) 80 d y)) (fun _ σ' => (∀ r, r ≠ 79 → r ≠ 80 → σ' r = σ0 r) ∧ ∀ k, k ≤ 20 → σ' 79 k = (if k = 20 then -b else -a) ∧ σ' 80 k = (if k = 20 then b else a)) := by
      intro x y hx hy
      refine ih (d + 1) n _ (by omega) (by omega) (fun r q1 q2 => by rw [st_ne q2, st_ne q1]; exact h1 r q1 q2) (fun k hk => ?_)
      rw [st_ne (show (79 : Nat) ≠ 80 by decide)]
      by_cases e : k = d
      · subst e; rw [st_same, st_same]; exact ⟨hx, hy⟩
      · rw [st_off e, st_off e, st_ne (show (80 : Nat) ≠ 79 by decide)]; exact h2 k (by omega)
    unfold f_X3_start_2
    refine wp_iff (fun q => ?_) (wp_if (fun q => ?_) (fun q => ?_))
    · have := (nle (a := 21) (by decide) (by omega)).mp q
      omega
    · have e : d = 20 := (neq (b := 20) (by omega) (by decide)).mp q
      unfold f_X3_start_26
      refine wp_lt (wp_wr d rfl (by omega) (by decide) (wp_ift q (wp_wr d rfl (by omega) (by decide) (wp_lt ?_))))
      rw [nI_1]
      exact step _ _ (if_pos e).symm (if_pos e).symm
    · have e : ¬ d = 20 := fun z => q ((neq (b := 20) (by omega) (by decide)).mpr z)
      unfold f_X3_start_26
      refine wp_lt (wp_wr d rfl (by omega) (by decide) (wp_iff q (wp_wr d rfl (by omega) (by decide) (wp_lt ?_))))
      rw [nI_1]
      exact step _ _ (if_neg e).symm (if_neg e).symm
theorem s_start {a b : Int32} {σ : bd_S} : wp (f_X3_start a b σ) (fun _ σ' => (∀ r, r ≠ 79 → r ≠ 80 → σ' r = σ r) ∧ ∀ k, k ≤ 20 → σ' 79 k = (if k = 20 then -b else -a) ∧ σ' 80 k = (if k = 20 then b else a)) := by
  unfold f_X3_start
  exact s_start_2 21 0 FU_ σ (by decide) (by rw [FU_v]; omega) (fun _ _ _ => rfl) (fun k hk => absurd hk (Nat.not_lt_zero k))
theorem gq_bd {σ : bd_S} {s c : Nat} (hh : 0 ≤ (σ 73 (3 * s + c)).toInt ∧ (σ 73 (3 * s + c)).toInt ≤ 5) (hw : ∀ k, 0 ≤ (σ 65 k).toInt ∧ (σ 65 k).toInt ≤ 9) : ∀ d : Nat, -25 * (d : Int) ≤ gq σ s c d ∧ gq σ s c d ≤ 25 * (d : Int) := by
  intro d
  induction d with
  | zero => unfold gq; omega
  | succ d ih =>
    have h := hw d
    unfold gq
    generalize (σ 73 (3 * s + c)).toInt = x at *
    have h1 : x * (-5) ≤ x * ((σ 65 d).toInt - 5) := sp_mle hh.1 (by omega)
    have h2 : x * ((σ 65 d).toInt - 5) ≤ x * 5 := sp_mle hh.1 (by omega)
    omega
/-- one step of what the warmth makes it gain -/
theorem gq_step {h w : Int32} {g : Int32} {z : Int} (hh : 0 ≤ h.toInt ∧ h.toInt ≤ 5) (hw : 0 ≤ w.toInt ∧ w.toInt ≤ 9) (hz : g.toInt = z) (hb : -1000 ≤ z ∧ z ≤ 1000) : (g + h * (w - 5)).toInt = z + h.toInt * (w.toInt - 5) := by
  have e5 : (5 : Int32).toInt = 5 := rfl
  have h0 : (w - 5).toInt = w.toInt - 5 := by rw [fb_subI] <;> rw [e5] <;> omega
  have h1 : h.toInt * (-5) ≤ h.toInt * (w.toInt - 5) := sp_mle hh.1 (by omega)
  have h2 : h.toInt * (w.toInt - 5) ≤ h.toInt * 5 := sp_mle hh.1 (by omega)
  have h3 : (h * (w - 5)).toInt = h.toInt * (w.toInt - 5) := by rw [fb_mulI, h0] <;> rw [h0] <;> omega
  rw [fb_addI, h3, hz] <;> rw [h3, hz] <;> omega
theorem s_lay_10 {σ0 : bd_S} {s c : Nat} (hs : s < 4) (hc : c < 3) (hh : 0 ≤ (σ0 73 (3 * s + c)).toInt ∧ (σ0 73 (3 * s + c)).toInt ≤ 5) (hw : ∀ k, 0 ≤ (σ0 65 k).toInt ∧ (σ0 65 k).toInt ≤ 9) {K : Int32 → Int32 → bd_S → Option (Int32 × bd_S)} {P : Int32 → bd_S → Prop}
    (hk : ∀ σ, (∀ r, r ≠ 81 → σ r = σ0 r) → (∀ k, k < 20 → cg σ k = gq σ0 s c k) → wp (K (nI s) (nI c) σ) P) : ∀ (m d n : Nat) (σ : bd_S), 1 ≤ d → d + m = 20 → m < n → (∀ r, r ≠ 81 → σ r = σ0 r) → (∀ k, k < d → cg σ k = gq σ0 s c k) → wp (f_X3_lay_10 K n (nI d) (nI s) (nI c) σ) P := by
  intro m
  induction m with
  | zero =>
    intro d n σ h1 hd hn e1 e2
    obtain ⟨n, rfl⟩ : ∃ z, n = z + 1 := ⟨n - 1, by omega⟩
    have : d = 20 := by omega
    subst this
    unfold f_X3_lay_10
    exact wp_ift ((nle (by decide) (by decide)).mpr (Nat.le_refl 20)) (hk σ e1 e2)
  | succ m ih =>
    intro d n σ h1 hd hn e1 e2
    obtain ⟨n, rfl⟩ : ∃ z, n = z + 1 := ⟨n - 1, by omega⟩
    obtain ⟨e, rfl⟩ : ∃ e, d = e + 1 := ⟨d - 1, by omega⟩
    unfold f_X3_lay_10
    refine wp_iff (fun q => ?_) ?_
    · have := (nle (a := 20) (by decide) (by omega)).mp q
      omega
    refine wp_lt ?_
    rw [nI_pred]
    refine wp_rd e rfl (by omega) (by decide) (wp_lt (wp_lt (wp_rd (3 * s + c) ix3 (by omega) (by decide) (wp_lt (wp_rd e rfl (by omega) (by decide) (wp_lt (wp_lt (wp_lt (wp_wr (e + 1) rfl (by omega) (by decide) (wp_lt ?_))))))))))
    rw [nI_1]
    refine ih (e + 1 + 1) n _ (by omega) (by omega) (by omega) (fun r q => by rw [st_ne q]; exact e1 r q) (fun k hk => ?_)
    show (bd_st σ 81 (e + 1) _ 81 k).toInt = _
    by_cases ek : k = e + 1
    · subst ek
      have b := gq_bd hh hw e
      rw [st_same, e1 73 (by decide), e1 65 (by decide)]
      rw [gq_step hh (hw e) (e2 e (by omega)) (by omega)]
      rfl
    · rw [st_off ek]
      exact e2 k (by omega)
