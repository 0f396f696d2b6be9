/-! SLIPPED -/
def slv (σ : bd_S) (d : Nat) (v : Int) : Nat → Int := fun k => if k = d then v else s63 σ k
def bears (σ : bd_S) (d : Nat) (v : Int) (s c : Nat) : Prop := isSet σ s c d → ¬ gone σ s c 99 (slv σ d v)
def okv (σ : bd_S) (nk d : Nat) (v : Int) : Prop := ∀ s, s < nk → ∀ c, c < 3 → bears σ d v s c
def vf (ε : Int) (k : Nat) : Int := if ε = 1 then (k : Int) - 60 else 60 - (k : Int)
theorem vf_bd {ε : Int} {k : Nat} (h : k ≤ 121) : -61 ≤ vf ε k ∧ vf ε k ≤ 61 := by
  unfold vf; split <;> omega
theorem vf_in {ε : Int} {k : Nat} (h : k < 121) : -60 ≤ vf ε k ∧ vf ε k ≤ 60 := by
  unfold vf; split <;> omega
theorem vf_out {ε : Int} {k : Nat} (h : ¬ k < 121) : ¬ (-60 ≤ vf ε k ∧ vf ε k ≤ 60) := by
  unfold vf; split <;> omega
theorem vf_s {ε : Int} {k : Nat} (h : ε = 1 ∨ ε = -1) : vf ε (k + 1) = vf ε k + ε := by
  rcases h with rfl | rfl
  · unfold vf; rw [if_pos rfl, if_pos rfl]; omega
  · unfold vf; rw [if_neg (by decide), if_neg (by decide)]; omega
theorem slv_bd {σ : bd_S} (hI : Inv σ) {d : Nat} {v : Int} (hv : -60 ≤ v ∧ v ≤ 60) (k : Nat) : -180 ≤ slv σ d v k ∧ slv σ d v k ≤ 180 := by
  have := s63_bd hI k
  unfold slv; split <;> omega
theorem s_bearsSlip {σ0 σ : bd_S} {s c d : Nat} {v : Int32} (hI : Inv σ0) (hU : qU σ0 σ) (hs : s < 4) (hc : c < 3) (hd : d < 20) (hv : -60 ≤ v.toInt ∧ v.toInt ≤ 60) : wp (f_X2_bearsSlip (19 + 9 * s) (nI c) (nI d) v σ) (fun r σ' => qU σ0 σ' ∧ ((r = 1 ∧ bears σ0 d v.toInt s c) ∨ (r = 0 ∧ ¬ bears σ0 d v.toInt s c))) := by
  obtain ⟨e1, e2, e3, -⟩ := hI.2.2.2.2 s hs
  unfold f_X2_bearsSlip
  refine wp_c (s_isSetOn hI hU.v hs hc hd) (fun r σ' h => ?_)
  obtain ⟨rfl, h⟩ := h
  rcases h with ⟨rfl, ht⟩ | ⟨rfl, ht⟩
  · refine wp_iff (by decide) (wp_rd d rfl hd (by decide) (wp_lt ?_))
    have e12 : σ' 12 d = σ0 63 d := by rw [hU 12 d (by unfold qS; omega)]; exact (hI.2.2.1.2.2.1 d).1
    have b := s63_bd hI d
    have b' : -60 ≤ (σ0 63 d).toInt ∧ (σ0 63 d).toInt ≤ 60 := b
    have e5 : (v - σ' 12 d).toInt = v.toInt - s63 σ0 d := by
      rw [e12]
      show _ = v.toInt - (σ0 63 d).toInt
      rw [fb_subI] <;> omega
    refine wp_c (s_learnBut (σ0 := σ0) (w := 99) (sl := slv σ0 d v.toInt) hs hc e1 hI.2.1 e2 e3 hI.qL (hI.qC hU.v) (fun k => (hI.2.2.1.2.2.2.1 k).2) hU.v (fun k hk => m1_nI hk) (fun k hk => ?_) (by rw [e5]; omega)) (fun r σ2 q => ?_)
    · rw [e5]
      unfold slv
      by_cases e : k = d
      · subst e; rw [if_pos rfl, if_pos rfl]; omega
      · rw [if_neg e, if_neg (fun z => e ((neq (by omega) (by omega)).mp z))]; omega
    · have u2 : qU σ0 σ2 := hU.tr (q.1.u (Or.inr rfl))
      rcases q.2.a with ⟨rfl, q', -⟩ | ⟨rfl, q'⟩
      · exact wp_iff (by decide) (wp_zr (Or.inr rfl) ⟨u2, Or.inl ⟨rfl, fun _ => q'⟩⟩)
      · exact wp_ift rfl (wp_zr (Or.inl rfl) ⟨u2, Or.inr ⟨rfl, fun z => z ht q'⟩⟩)
  · exact wp_ift rfl (wp_zr (Or.inr rfl) ⟨hU, Or.inl ⟨rfl, fun z => absurd z ht⟩⟩)
theorem dm_3 : ∀ a, a < 12 → nI a / 3 = nI (a / 3) ∧ nI a - nI a / 3 * 3 = nI (a % 3) := by decide +kernel
theorem dm_q : ∀ q, q < 13 → 0 < q → ∀ a, a < 13 → nI a - nI a / nI q * nI q = nI (a % q) := by decide +kernel
theorem nz_q : ∀ q, q < 13 → 0 < q → ¬ nI q = 0 := by decide +kernel
/-- in a row of as many as there are clocks every clock stands -/
theorem row_all {Q : Nat → Prop} {nk b : Nat} (h0 : nk ≤ 4) (hb : 3 * nk ≤ b) (h : ∀ j, j < b → b ≤ j + 3 * nk → Q (j % (3 * nk))) : ∀ t, t < 3 * nk → Q t := by
  intro t ht
  have key : ∀ j, j < b → b ≤ j + 3 * nk → j % (3 * nk) = t → Q t := fun j q1 q2 q3 => q3 ▸ h j q1 q2
  have hnk : nk = 1 ∨ nk = 2 ∨ nk = 3 ∨ nk = 4 := by omega
  rcases hnk with rfl | rfl | rfl | rfl
  · exact key (b - 1 - (b - 1 - t) % 3) (by omega) (by omega) (by omega)
  · exact key (b - 1 - (b - 1 - t) % 6) (by omega) (by omega) (by omega)
  · exact key (b - 1 - (b - 1 - t) % 9) (by omega) (by omega) (by omega)
  · exact key (b - 1 - (b - 1 - t) % 12) (by omega) (by omega) (by omega)
def ffA (σ : bd_S) (nk d : Nat) (ε : Int) (r : Int32) : Prop := ∃ k, k ≤ 121 ∧ (∀ k', k' < k → ¬ okv σ nk d (vf ε k')) ∧ (k < 121 → okv σ nk d (vf ε k)) ∧ r.toInt = vf ε k
theorem ff_C {σ0 : bd_S} (hI : Inv σ0) {d nk : Nat} (hd : d < 20) (hn : nk ≤ 4) {ε : Int} (hε : ε = 1 ∨ ε = -1) {x3 : Int32} (h3 : x3.toInt = ε) : ∀ (M i ct b k n : Nat) (v : Int32) (σ : bd_S), (121 - k) * 13 + (12 - ct) < M → M < n → i + M ≤ 1900 → k ≤ 121 → ct ≤ 3 * nk → ct ≤ b → (nk = 0 → b = 0) →
    (∀ j, j < b → b ≤ j + ct → bears σ0 d (vf ε k) (j % (3 * nk) / 3) (j % (3 * nk) % 3)) → (∀ k', k' < k → ¬ okv σ0 nk d (vf ε k')) → v.toInt = vf ε k → qU σ0 σ →
    wp (f_X2_firstFittingSlip_20 n (nI i) (nI ct) (nI (b % (3 * nk))) v (nI (3 * nk)) (nI d) x3 σ) (fun r σ' => qU σ0 σ' ∧ ffA σ0 nk d ε r) := by
  intro M
  induction M with
  | zero => intro i ct b k n v σ h; omega
  | succ M ih =>
    intro i ct b k n v σ hM hn' hi hk hct hcb h0 hrow hno hv hU
    obtain ⟨n, rfl⟩ : ∃ z, n = z + 1 := ⟨n - 1, by omega⟩
    have e60 : (60 : Int32).toInt = 60 := rfl
    have eM : (1000000 : Int32).toInt = 1000000 := rfl
    have hvb := vf_bd (ε := ε) hk
    unfold f_X2_firstFittingSlip_20
    refine wp_iff (fun q => ?_) (wp_if (fun q => ?_) (fun q => ?_))
    · have := ti_le.mp q
      rw [eM, ti_nI (by omega)] at this
      omega
    · have q := (nle (by omega) (by omega)).mp q
      have ec : ct = 3 * nk := by omega
      subst ec
      refine wp_some ⟨hU, k, hk, hno, fun hk' => ?_, hv⟩
      intro s hs c hc
      have z := row_all (Q := fun t => bears σ0 d (vf ε k) (t / 3) (t % 3)) hn hcb hrow (3 * s + c) (by omega)
      have z : bears σ0 d (vf ε k) ((3 * s + c) / 3) ((3 * s + c) % 3) := z
      rw [show (3 * s + c) / 3 = s by omega, show (3 * s + c) % 3 = c by omega] at z
      exact z
    · have q : ¬ 3 * nk ≤ ct := fun z => q ((nle (by omega) (by omega)).mpr z)
      have hnk : 0 < nk := by omega
      by_cases hk1 : k < 121
      · have hvi := vf_in (ε := ε) hk1
        refine wp_e (bey_t rfl (by rw [e60, hv]; exact hvi)) (wp_ift rfl ?_)
        obtain ⟨a, hat⟩ : ∃ a, b % (3 * nk) = a := ⟨_, rfl⟩
        have ha : a < 3 * nk := by rw [← hat]; exact Nat.mod_lt _ (by omega)
        rw [hat]
        obtain ⟨d1, d2⟩ := dm_3 a (by omega)
        refine wp_dv (by decide) ?_
        rw [d1]
        refine wp_rs (a / 3) rfl (by omega) (wp_rm (by decide) ?_)
        rw [d2]
        refine wp_c (s_bearsSlip hI hU (by omega) (by omega) hd (by rw [hv]; exact hvi)) (fun r σ' h => ?_)
        obtain ⟨u, h⟩ := h
        rw [hv] at h
        rcases h with ⟨rfl, h⟩ | ⟨rfl, h⟩
        · refine wp_iff (by decide) (wp_lt (wp_lt (wp_rm (nz_q _ (by omega) (by omega)) (wp_lt ?_))))
          rw [nI_1, nI_1, nI_1, dm_q (3 * nk) (by omega) (by omega) (a + 1) (by omega), ← hat, Nat.mod_add_mod]
          refine ih (i + 1) (ct + 1) (b + 1) k n v σ' (by omega) (by omega) (by omega) hk (by omega) (by omega) (by omega) (fun j q1 q2 => ?_) hno hv u
          by_cases e : j = b
          · subst e; rw [hat]; exact h
          · exact hrow j (by omega) (by omega)
        · refine wp_ift rfl (wp_lt (wp_lt ?_))
          rw [nI_1, ← hat]
          refine ih (i + 1) 0 b (k + 1) n (v + x3) σ' (by omega) (by omega) (by omega) (by omega) (by omega) (by omega) h0 (fun j q1 q2 => by omega) (fun k' hk' => ?_) ?_ u
          · by_cases e : k' = k
            · subst e
              exact fun z => h (z (a / 3) (by omega) (a % 3) (by omega))
            · exact hno k' (by omega)
          · rw [vf_s hε, fb_addI, hv, h3] <;> rw [hv, h3] <;> omega
      · have hvo := vf_out (ε := ε) hk1
        refine wp_e (bey_f rfl (by rw [e60, hv]; exact hvo)) (wp_iff (by decide) (wp_some ⟨hU, k, hk, hno, fun z => absurd z hk1, hv⟩))
theorem s_first {σ0 σ : bd_S} (hI : Inv σ0) {d nk : Nat} (hd : d < 20) (hn : hS σ0 nk) {ε : Int} (hε : ε = 1 ∨ ε = -1) {x2 x3 : Int32} (h2 : x2.toInt = vf ε 0) (h3 : x3.toInt = ε) (hU : qU σ0 σ) : wp (f_X2_firstFittingSlip (nI d) x2 x3 σ) (fun r σ' => qU σ0 σ' ∧ ffA σ0 nk d ε r) := by
  unfold f_X2_firstFittingSlip
  refine wp_lt (wp_lt ?_)
  have h4 := hn.1
  rw [(hn.u hU).2.1, show (3 : Int32) = nI 3 from rfl, pk_mul, Nat.mul_comm]
  have z := ff_C hI hd hn.1 hε h3 1700 0 0 0 0 FU_ x2 σ (by omega) (by rw [FU_v]; omega) (by omega) (by omega) (by omega) (by omega) (fun _ => rfl) (fun j hj => absurd hj (Nat.not_lt_zero j)) (fun j hj => absurd hj (Nat.not_lt_zero j)) h2 hU
  rw [Nat.zero_mod] at z
  exact z
