theorem nar_1 : vp_nar .boolean 1 = 1 := by decide
theorem nar_0 : vp_nar .boolean 0 = 0 := by decide
theorem s_note {σ : bd_S} {s n : Nat} {a b e f g : Int32} (hs : s < 4) (hn : n < 12) (h8 : σ (19 + 9 * s) 8 = nI n) : wp (f_X1_note (19 + 9 * s) a b e f g σ) (fun r σ' => r = nI (n + 1) ∧ (∀ r k, ¬ (r = 19 + 9 * s ∧ k = 8) → ¬ (19 + 9 * s + 1 ≤ r ∧ r ≤ 19 + 9 * s + 5 ∧ k = n) → σ' r k = σ r k) ∧ σ' (19 + 9 * s) 8 = nI (n + 1) ∧
    σ' (19 + 9 * s + 1) n = a ∧ σ' (19 + 9 * s + 2) n = b ∧ σ' (19 + 9 * s + 3) n = vp_nar .boolean e ∧ σ' (19 + 9 * s + 4) n = f ∧ σ' (19 + 9 * s + 5) n = g) := by
  unfold f_X1_note
  refine wp_lt (wp_ift (by rw [h8]; exact (nlt (b := 12) (by omega) (by decide)).mpr hn) (wp_lt (wp_wr n h8 hn (by decide) (wp_lt ?_))))
  refine wp_wr n (by rw [st_ne (by omega)]; exact h8) hn (by decide) (wp_lt ?_)
  refine wp_wr n (by rw [st_2 (by omega) (by omega)]; exact h8) hn (by decide) (wp_lt ?_)
  refine wp_wr n (by rw [st_ne (by omega), st_2 (by omega) (by omega)]; exact h8) hn (by decide) (wp_lt ?_)
  refine wp_wr n (by rw [st_4 (by omega) (by omega) (by omega) (by omega)]; exact h8) hn (by decide) (wp_lt (wp_lt (wp_lt (wp_lt ?_))))
  rw [st_same, st_ne (show 19 + 9 * s ≠ 19 + 9 * s + 5 by omega), st_4 (by omega) (by omega) (by omega) (by omega), h8, nI_1]
  refine wp_some ⟨rfl, fun r k z1 z2 => ?_, st_same, ?_, ?_, ?_, ?_, ?_⟩
  · rw [st_2 (by omega) (by omega), st_4 (by omega) (by omega) (by omega) (by omega)]
  · repeat rw [st_all]
    repeat (first | rw [if_neg (by omega)] | rw [if_pos (by omega)])
  · repeat rw [st_all]
    repeat (first | rw [if_neg (by omega)] | rw [if_pos (by omega)])
  · repeat rw [st_all]
    repeat (first | rw [if_neg (by omega)] | rw [if_pos (by omega)])
  · repeat rw [st_all]
    repeat (first | rw [if_neg (by omega)] | rw [if_pos (by omega)])
  · repeat rw [st_all]
    repeat (first | rw [if_neg (by omega)] | rw [if_pos (by omega)])
theorem s_mark {σ : bd_S} {s n : Nat} {a b e f g : Int32} (hs : s < 4) (hn : n < 12) (h8 : σ 66 s = nI n) : wp (f_X3_mark (nI s) a b e f g σ) (fun r σ' => r = nI (n + 1) ∧ (∀ r k, ¬ (r = 66 ∧ k = s) → ¬ (67 ≤ r ∧ r ≤ 71 ∧ k = 12 * s + n) → σ' r k = σ r k) ∧ σ' 66 s = nI (n + 1) ∧
    σ' 67 (12 * s + n) = a ∧ σ' 68 (12 * s + n) = b ∧ σ' 69 (12 * s + n) = e ∧ σ' 70 (12 * s + n) = f ∧ σ' 71 (12 * s + n) = g) := by
  unfold f_X3_mark
  refine wp_rd s rfl hs (by decide) ?_
  rw [h8]
  refine wp_iff (fun q => ?_) (wp_lt (wp_rd s rfl hs (by decide) (wp_lt ?_)))
  · have := (neq (b := 12) (by omega) (by decide)).mp q
    omega
  rw [h8, ix12]
  refine wp_wr (12 * s + n) rfl (by omega) (by decide) (wp_wr (12 * s + n) rfl (by omega) (by decide) (wp_wr (12 * s + n) rfl (by omega) (by decide) (wp_wr (12 * s + n) rfl (by omega) (by decide) (wp_wr (12 * s + n) rfl (by omega) (by decide) (wp_rd s rfl hs (by decide) (wp_lt ?_))))))
  rw [st_ne (show (66 : Nat) ≠ 71 by decide), st_4 (by omega) (by omega) (by omega) (by omega), h8, nI_1]
  refine wp_wr s rfl hs (by decide) (wp_rd s rfl hs (by decide) (wp_some ⟨st_same, fun r k z1 z2 => ?_, st_same, ?_, ?_, ?_, ?_, ?_⟩))
  · rw [st_2 (by omega) (by omega), st_4 (by omega) (by omega) (by omega) (by omega)]
  · repeat rw [st_all]
    repeat (first | rw [if_neg (by omega)] | rw [if_pos (by omega)])
  · repeat rw [st_all]
    repeat (first | rw [if_neg (by omega)] | rw [if_pos (by omega)])
  · repeat rw [st_all]
    repeat (first | rw [if_neg (by omega)] | rw [if_pos (by omega)])
  · repeat rw [st_all]
    repeat (first | rw [if_neg (by omega)] | rw [if_pos (by omega)])
  · repeat rw [st_all]
    repeat (first | rw [if_neg (by omega)] | rw [if_pos (by omega)])
/-- a note in both -/
theorem s_both {σ : bd_S} (hI : Inv σ) {s d : Nat} {a ball f g how by' shows : Int32} (hs : s < 4) (hlt : ¬ (σ 55 12).toInt ≤ (s : Int)) (hd : d < 20)
    (h1 : vp_nar .boolean ball = 0 ↔ how = 3) (h2 : how = 0 ∨ how = 1 ∨ how = 2 ∨ how = 3) (h3 : -9999 ≤ by'.toInt ∧ by'.toInt ≤ 9999 ∧ -99999 ≤ shows.toInt ∧ shows.toInt ≤ 99999) (h4 : how ≠ 3 → 0 ≤ by'.toInt ∧ by'.toInt ≤ 30 ∧ -9999 ≤ shows.toInt ∧ shows.toInt ≤ 9999)
    (h5 : f.toInt = (if how = 3 then shows.toInt - 4 * by'.toInt - 4 else shows.toInt - (if how = 2 then 7 * by'.toInt + 3 else if how = 1 then 1 else 2))) (h6 : g.toInt = (if how = 3 then shows.toInt - 4 * by'.toInt + 4 else shows.toInt - (if how = 2 then 5 * by'.toInt - 3 else if how = 1 then -1 else -2)))  :
    wp (f_X1_note (19 + 9 * s) a (nI d) ball f g σ) (fun r σ1 => (σ1 0 15 = σ 0 15 ∧ σ1 55 12 = σ 55 12) ∧ wp (f_X3_mark (nI s) a (nI d) how by' shows σ1) (fun r' σ2 => r' = r ∧ Inv σ2)) := by
  obtain ⟨e1, e2, e3, e4⟩ := hI.2.2.2.2 s hs
  obtain ⟨⟨n1, n2⟩, n3, n4⟩ := e1
  by_cases hn : nts σ s < 12
  · refine wp_mono (s_note hs hn (n3.trans n2)) (fun r σ1 q => ?_)
    obtain ⟨rfl, A, a8, a1, a2, a3, a4, a5⟩ := q
    refine ⟨⟨A 0 15 (by omega) (by omega), A 55 12 (by omega) (by omega)⟩, wp_mono (s_mark hs hn (by rw [A 66 s (by omega) (by omega)]; exact n2)) (fun r σ2 q => ?_)⟩
    obtain ⟨rfl, B, b8, b1, b2, b3, b4, b5⟩ := q
    refine ⟨rfl, ?_⟩
    have C : ∀ r k, ¬ (r = 19 + 9 * s ∧ k = 8) → ¬ (19 + 9 * s + 1 ≤ r ∧ r ≤ 19 + 9 * s + 5 ∧ k = nts σ s) → ¬ (r = 66 ∧ k = s) → ¬ (67 ≤ r ∧ r ≤ 71 ∧ k = 12 * s + nts σ s) → σ2 r k = σ r k := fun r k z1 z2 z3 z4 => (B r k z3 z4).trans (A r k z1 z2)
    have en : nts σ2 s = nts σ s + 1 := by
      show nv (σ2 66 s) = _
      rw [b8]
      exact nv_nI (by omega)
    refine hI.s hs (fun r k q => ?_) ⟨⟨by omega, by rw [en, b8]⟩, ?_, fun k hk => ?_⟩ (e2.cg (fun r k q => C r k (by omega) (by omega) (by omega) (by omega))) (e3.cg (fun r k q => C r k (by omega) (by omega) (by omega) (by omega))) ⟨e4.1.cg (fun r k q => C r k (by omega) (by omega) (by omega) (by omega)), fun z => absurd z (by rw [C 55 12 (by omega) (by omega) (by omega) (by omega)]; exact hlt)⟩
    · unfold sD at q
      exact C r k (by omega) (by omega) (by omega) (by omega)
    · rw [B _ _ (by omega) (by omega), a8, b8]
    · rw [en] at hk
      by_cases ek : k = nts σ s
      · subst ek
        have ed : dy σ2 (12 * s + nts σ s) = d := by
          show nv (σ2 68 _) = _
          rw [b2]
          exact nv_nI (by omega)
        unfold NR ltN snN
        rw [ed, b1, b2, b3, b4, b5, B (19 + 9 * s + 1) _ (by omega) (by omega), B (19 + 9 * s + 2) _ (by omega) (by omega), B (19 + 9 * s + 3) _ (by omega) (by omega), B (19 + 9 * s + 4) _ (by omega) (by omega), B (19 + 9 * s + 5) _ (by omega) (by omega), a1, a2, a3, a4, a5]
        exact ⟨rfl, ⟨hd, rfl⟩, rfl, h1, h2, h3, h4, h5, h6⟩
      · have z := n4 k (by omega)
        unfold NR dy ltN snN at z ⊢
        simp only [C 67 (12 * s + k) (by omega) (by omega) (by omega) (by omega), C 68 (12 * s + k) (by omega) (by omega) (by omega) (by omega), C 69 (12 * s + k) (by omega) (by omega) (by omega) (by omega), C 70 (12 * s + k) (by omega) (by omega) (by omega) (by omega), C 71 (12 * s + k) (by omega) (by omega) (by omega) (by omega), C (19 + 9 * s + 1) k (by omega) (by omega) (by omega) (by omega), C (19 + 9 * s + 2) k (by omega) (by omega) (by omega) (by omega), C (19 + 9 * s + 3) k (by omega) (by omega) (by omega) (by omega), C (19 + 9 * s + 4) k (by omega) (by omega) (by omega) (by omega), C (19 + 9 * s + 5) k (by omega) (by omega) (by omega) (by omega)]
        exact z
  · have hn : nts σ s = 12 := by omega
    rw [hn] at n2
    unfold f_X1_note f_X3_mark
    refine wp_lt (wp_iff (fun q => ?_) (wp_some ⟨⟨rfl, rfl⟩, wp_rd s rfl hs (by decide) (wp_ift n2 (wp_some ⟨rfl, hI⟩))⟩))
    rw [n3, n2] at q
    exact absurd q (by decide)
