theorem sp_nar_g {g g' lo hi : Nat → Int} (h : ∀ d, d < 20 → g d = g' d) (hn : sp_nar g lo hi) : sp_nar g' lo hi := fun i j hij hj => by
  have q := hn i j hij hj
  rw [h i (by omega), h j hj] at q
  exact q
theorem sp_cl_g {g g' lo hi : Nat → Int} {Ad : (Nat → Int) → (Nat → Int) → Prop} (h : ∀ d, d < 20 → g d = g' d) (hc : sp_cl g Ad lo hi) : sp_cl g' Ad lo hi :=
  ⟨hc.1, sp_nar_g h hc.2.1, hc.2.2.1, fun lo' hi' q1 q2 q3 => hc.2.2.2 lo' hi' q1 (sp_nar_g (fun d hd => (h d hd).symm) q2) q3⟩
theorem sp_no_g {g g' : Nat → Int} {Ad : (Nat → Int) → (Nat → Int) → Prop} (h : ∀ d, d < 20 → g d = g' d) (hc : sp_no g Ad) : sp_no g' Ad :=
  fun lo' hi' q1 q2 q3 => hc lo' hi' q1 (sp_nar_g (fun d hd => (h d hd).symm) q2) q3
def qI (σ0 : bd_S) (s c : Nat) : Prop := (s < 4 ∧ c < 3) ∧ qL σ0 ∧ (nts σ0 s ≤ 12 ∧ σ0 66 s = nI (nts σ0 s)) ∧ (∀ k, k < nts σ0 s → qN σ0 (12 * s + k)) ∧ (0 ≤ (σ0 73 (3 * s + c)).toInt ∧ (σ0 73 (3 * s + c)).toInt ≤ 5) ∧ (∀ k, 0 ≤ (σ0 65 k).toInt ∧ (σ0 65 k).toInt ≤ 9) ∧ σ0 81 0 = 0
/-- what learning answers -/
def LR (σ0 : bd_S) (s c w : Nat) (sl : Nat → Int) (r : Int32) (lo hi : Nat → Int) : Prop := (r = 1 ∧ sp_cl (gq σ0 s c) (Adm0 σ0 s c w sl) lo hi) ∨ (r = 0 ∧ sp_no (gq σ0 s c) (Adm0 σ0 s c w sl))
theorem s_lay {σ0 σ : bd_S} {s c w : Nat} {sl : Nat → Int} (hI : qI σ0 s c) (hV : qR σ0 σ) (hw : ∀ d, d < 20 → (nI d = σ 55 30 ↔ d = w)) (hsl : ∀ d, d < 20 → (σ 63 d).toInt = sl d) (hb : ∀ d, d < 20 → -180 ≤ sl d ∧ sl d ≤ 180) :
    wp (f_X3_lay (nI s) (nI c) σ) (fun r σ' => qU σ σ' ∧ LR σ0 s c w sl r (cl σ') (ch σ')) := by
  obtain ⟨⟨hs, hc⟩, hL, hn, hN, hh, hwm, h81⟩ := hI
  unfold f_X3_lay
  refine wp_c s_start (fun _ σ1 h1 => ?_)
  obtain ⟨f1, f2⟩ := h1
  have e73 : σ1 73 (3 * s + c) = σ0 73 (3 * s + c) := by rw [f1 73 (by decide) (by decide)]; exact hV.at (by decide)
  have e65 : ∀ k, σ1 65 k = σ0 65 k := fun k => by rw [f1 65 (by decide) (by decide)]; exact hV.at (by decide)
  have e81 : σ1 81 0 = 0 := by rw [f1 81 (by decide) (by decide), hV 81 0 (by decide)]; exact h81
  have eg : ∀ d, gq σ1 s c d = gq σ0 s c d := fun d => by
    induction d with
    | zero => rfl
    | succ d ih => unfold gq; rw [ih, e73, e65]
  refine s_lay_10 (σ0 := σ1) hs hc (by rw [e73]; exact hh) (fun k => by rw [e65]; exact hwm k) (fun σ2 g1 g2 => ?_) 19 1 FU_ σ1 (by decide) (by decide) (by rw [FU_v]; omega) (fun _ _ => rfl) (fun k hk => ?_)
  · have U1 : qU σ σ1 := fun r k q => by unfold qS at q; rw [f1 r (by omega) (by omega)]
    have U2 : qU σ1 σ2 := fun r k q => by
      unfold qS at q
      by_cases e : r = 81
      · subst e
        have k0 : k = 0 := by omega
        subst k0
        have h := g2 0 (by decide)
        have h : (σ2 81 0).toInt = 0 := h
        rw [e81]
        exact ti_eq.mpr h
      · rw [g1 r e]
    have E1 : ∀ k, k ≤ 20 → cl σ2 k = sp_j (fun _ => -99999) (-99) k ∧ ch σ2 k = sp_j (fun _ => 99999) 99 k := fun k hk => by
      have h := f2 k hk
      show (σ2 79 k).toInt = _ ∧ (σ2 80 k).toInt = _
      rw [g1 79 (by decide), g1 80 (by decide), h.1, h.2]
      unfold sp_j
      by_cases e : k = 20
      · rw [if_pos e, if_pos e, if_pos e, if_pos e]; exact ⟨rfl, rfl⟩
      · rw [if_neg e, if_neg e, if_neg e, if_neg e]; exact ⟨rfl, rfl⟩
    have B2 : Bn σ2 := by
      refine ⟨fun k hk => ?_, ?_, fun k hk => ?_⟩
      · have h := E1 k (by omega)
        rw [sp_jd hk, sp_jd hk] at h
        omega
      · have h := E1 20 (by omega)
        rw [sp_jr, sp_jr] at h
        omega
      · rw [g2 k hk, eg]
        have := gq_bd hh hwm k
        omega
    have hV2 : qR σ0 σ2 := hV.tr (U1.tr U2)
    refine wp_mono (s_60 (σs := σ2) hs hc hL hn hN hV2 (fun d hd => by rw [g1 55 (by decide), f1 55 (by decide) (by decide)]; exact hw d hd) (fun d hd => by rw [g1 63 (by decide), f1 63 (by decide) (by decide)]; exact hsl d hd) hb B2 (nts σ0 s) 0 FU_ σ2 (by omega) (by rw [FU_v]; omega) Nst.rf (fun lo hi => ?_)) (fun r σ' h => ?_)
    · unfold Adn
      constructor
      · intro z
        refine ⟨fun k hk => ?_, fun k hk => absurd hk (Nat.not_lt_zero k)⟩
        rw [← (E1 k hk).1, ← (E1 k hk).2]
        exact z k hk
      · rintro ⟨z, -⟩ k hk
        rw [(E1 k hk).1, (E1 k hk).2]
        exact z k hk
    · have EG : ∀ d, d < 20 → cg σ2 d = gq σ0 s c d := fun d hd => by rw [g2 d hd, eg]
      refine ⟨(U1.tr U2).tr h.1.v, ?_⟩
      rcases h.2 with ⟨q1, q2⟩ | ⟨q1, q2⟩
      · exact Or.inl ⟨q1, sp_cl_g EG q2⟩
      · exact Or.inr ⟨q1, sp_no_g EG q2⟩
  · have : k = 0 := by omega
    subst this
    show (σ1 81 0).toInt = 0
    rw [e81]
    rfl
/-! the same spans with and without what is gained beside the rate -/
def sh (g lo : Nat → Int) : Nat → Int := fun k => if k < 20 then lo k + g k else lo k
theorem sh_d {g lo : Nat → Int} {k : Nat} (h : k < 20) : sh g lo k = lo k + g k := if_pos h
theorem sh_r (g lo : Nat → Int) : sh g lo 20 = lo 20 := if_neg (by decide)
theorem sh_nar {g g1 g2 lo hi : Nat → Int} (hg : ∀ k, k < 20 → g2 k = g1 k + g k) (h : sp_nar g1 lo hi) : sp_nar g2 (sh g lo) (sh g hi) := fun i j hij hj => by
  have q := h i j hij hj
  have h1 := hg i (by omega)
  have h2 := hg j hj
  rw [sh_d (show i < 20 by omega), sh_d (show i < 20 by omega), sh_d hj, sh_d hj, sh_r, sh_r]
  omega
theorem sh_ne {g lo hi : Nat → Int} (h : sp_ne lo hi) : sp_ne (sh g lo) (sh g hi) := fun k hk => by
  have q := h k hk
  unfold sh
  split <;> omega
theorem sh_sub {g lo hi a b a' b' : Nat → Int} (ha : ∀ k, k ≤ 20 → a' k = sh g a k) (hb : ∀ k, k ≤ 20 → b' k = sh g b k) (h : sp_sub lo hi a b) : sp_sub (sh g lo) (sh g hi) a' b' := fun k hk => by
  have q := h k hk
  rw [ha k hk, hb k hk]
  unfold sh
  split <;> omega
theorem sh_un {g lo : Nat → Int} {k : Nat} : sh g (sh (fun k => - g k) lo) k = lo k := by
  unfold sh
  by_cases e : k < 20
  · simp only [if_pos e]; omega
  · simp only [if_neg e]
theorem sh_nu {g lo : Nat → Int} {k : Nat} : sh (fun k => - g k) (sh g lo) k = lo k := by
  unfold sh
  by_cases e : k < 20
  · simp only [if_pos e]; omega
  · simp only [if_neg e]
theorem sh_cl {g lo hi a b a' b' : Nat → Int} (ha : ∀ k, k ≤ 20 → a' k = sh g a k) (hb : ∀ k, k ≤ 20 → b' k = sh g b k) (h : sp_cl (fun _ => 0) (fun lo hi => sp_sub lo hi a b) lo hi) : sp_cl g (fun lo hi => sp_sub lo hi a' b') (sh g lo) (sh g hi) := by
  refine ⟨sh_sub ha hb h.1, sh_nar (fun k _ => by show g k = 0 + g k; omega) h.2.1, sh_ne h.2.2.1, fun x y q1 q2 q3 k hk => ?_⟩
  have z := h.2.2.2 (sh (fun k => - g k) x) (sh (fun k => - g k) y) (sh_sub (fun k hk => by
    have e := ha k hk
    unfold sh at e ⊢
    split <;> simp_all <;> omega) (fun k hk => by
    have e := hb k hk
    unfold sh at e ⊢
    split <;> simp_all <;> omega) q1) (sh_nar (fun k _ => by show (0 : Int) = g k + - g k; omega) q2) (sh_ne q3)
  have z := sh_sub (g := g) (fun _ _ => rfl) (fun _ _ => rfl) z k hk
  rw [sh_un, sh_un] at z
  exact z
theorem sh_no {g a b a' b' : Nat → Int} (ha : ∀ k, k ≤ 20 → a' k = sh g a k) (hb : ∀ k, k ≤ 20 → b' k = sh g b k) (h : sp_no (fun _ => 0) (fun lo hi => sp_sub lo hi a b)) : sp_no g (fun lo hi => sp_sub lo hi a' b') := by
  intro x y q1 q2 q3
  exact h (sh (fun k => - g k) x) (sh (fun k => - g k) y) (sh_sub (fun k hk => by
    have e := ha k hk
    unfold sh at e ⊢
    split <;> simp_all <;> omega) (fun k hk => by
    have e := hb k hk
    unfold sh at e ⊢
    split <;> simp_all <;> omega) q1) (sh_nar (fun k _ => by show (0 : Int) = g k + - g k; omega) q2) (sh_ne q3)
/-! bits -/
theorem k_one : ∀ d, d < 32 → ∀ i, i < 32 → bt (1 <<< (nI d &&& 31)) i = decide (i = d) := by decide +kernel
theorem k_and (x y : Int32) (i : Nat) : bt (x &&& y) i = (bt x i && bt y i) := by unfold bt; rw [Int32.toBitVec_and, BitVec.getLsbD_and]
theorem k_or (x y : Int32) (i : Nat) : bt (x ||| y) i = (bt x i || bt y i) := by unfold bt; rw [Int32.toBitVec_or, BitVec.getLsbD_or]
theorem k_xor (x y : Int32) (i : Nat) : bt (x ^^^ y) i = (bt x i ^^ bt y i) := by unfold bt; rw [Int32.toBitVec_xor, BitVec.getLsbD_xor]
theorem k_ext {x y : Int32} (h : ∀ i, i < 32 → bt x i = bt y i) : x = y := Int32.toBitVec_inj.mp (BitVec.eq_of_getLsbD_eq (fun i hi => h i hi))
theorem k_zero (i : Nat) : bt 0 i = false := BitVec.getLsbD_zero
theorem k_has {x : Int32} {d : Nat} (hd : d < 32) : x &&& (1 <<< (nI d &&& 31)) = 0 ↔ bt x d = false := by
  constructor
  · intro h
    have h1 : bt (x &&& (1 <<< (nI d &&& 31))) d = bt 0 d := by rw [h]
    rw [k_and, k_one d hd d hd, k_zero] at h1
    simpa using h1
  · intro h
    refine k_ext (fun i hi => ?_)
    rw [k_and, k_one d hd i hi, k_zero]
    by_cases e : i = d
    · subst e; rw [h]; rfl
    · simp [e]
