/-! SPANS: lo k, hi k for the days k < 20 and (k = 20) the rate; g: what is gained beside the rate -/
def sp_nar (g lo hi : Nat → Int) : Prop := ∀ i j : Nat, i < j → j < 20 →
  lo i + ((j : Int) - i) * lo 20 + (g j - g i) ≤ lo j ∧ hi j ≤ hi i + ((j : Int) - i) * hi 20 + (g j - g i) ∧
  lo j - ((j : Int) - i) * hi 20 - (g j - g i) ≤ lo i ∧ hi i ≤ hi j - ((j : Int) - i) * lo 20 - (g j - g i) ∧
  lo j - hi i - (g j - g i) ≤ ((j : Int) - i) * lo 20 ∧ ((j : Int) - i) * hi 20 ≤ hi j - lo i - (g j - g i)
def sp_ne (lo hi : Nat → Int) : Prop := ∀ k, k ≤ 20 → lo k ≤ hi k
/-- the first lies in the second -/
def sp_sub (lo hi lo' hi' : Nat → Int) : Prop := ∀ k, k ≤ 20 → lo' k ≤ lo k ∧ hi k ≤ hi' k
/-- the widest narrow spans that are allowed; there are none -/
def sp_cl (g : Nat → Int) (Ad : (Nat → Int) → (Nat → Int) → Prop) (lo hi : Nat → Int) : Prop :=
  Ad lo hi ∧ sp_nar g lo hi ∧ sp_ne lo hi ∧ ∀ lo' hi', Ad lo' hi' → sp_nar g lo' hi' → sp_ne lo' hi' → sp_sub lo' hi' lo hi
def sp_no (g : Nat → Int) (Ad : (Nat → Int) → (Nat → Int) → Prop) : Prop := ∀ lo hi, Ad lo hi → sp_nar g lo hi → sp_ne lo hi → False
theorem sp_cl_uniq {g : Nat → Int} {Ad : (Nat → Int) → (Nat → Int) → Prop} {lo hi lo' hi' : Nat → Int} (h : sp_cl g Ad lo hi) (h' : sp_cl g Ad lo' hi') : ∀ k, k ≤ 20 → lo k = lo' k ∧ hi k = hi' k := by
  intro k hk
  have h1 := h.2.2.2 lo' hi' h'.1 h'.2.1 h'.2.2.1 k hk
  have h2 := h'.2.2.2 lo hi h.1 h.2.1 h.2.2.1 k hk
  omega
theorem sp_cl_no {g : Nat → Int} {Ad : (Nat → Int) → (Nat → Int) → Prop} {lo hi : Nat → Int} (h : sp_cl g Ad lo hi) (h' : sp_no g Ad) : False := h' lo hi h.1 h.2.1 h.2.2.1
/-- only what is narrow and not empty is asked for -/
theorem sp_cl_congr {g : Nat → Int} {Ad Ad' : (Nat → Int) → (Nat → Int) → Prop} (hh : ∀ lo hi, sp_nar g lo hi → sp_ne lo hi → (Ad lo hi ↔ Ad' lo hi)) {lo hi : Nat → Int} (h : sp_cl g Ad lo hi) : sp_cl g Ad' lo hi :=
  ⟨(hh lo hi h.2.1 h.2.2.1).mp h.1, h.2.1, h.2.2.1, fun lo' hi' h1 h2 h3 => h.2.2.2 lo' hi' ((hh lo' hi' h2 h3).mpr h1) h2 h3⟩
theorem sp_no_congr {g : Nat → Int} {Ad Ad' : (Nat → Int) → (Nat → Int) → Prop} (hh : ∀ lo hi, sp_nar g lo hi → sp_ne lo hi → (Ad lo hi ↔ Ad' lo hi)) (h : sp_no g Ad) : sp_no g Ad' :=
  fun lo hi h1 h2 h3 => h lo hi ((hh lo hi h2 h3).mpr h1) h2 h3
/-- products -/
theorem sp_mul3 (a b c r : Int) : (c - a) * r = (c - b) * r + (b - a) * r := by
  rw [← Int.add_mul]
  congr 1
  omega
theorem sp_mle {n r s : Int} (hn : 0 ≤ n) (h : r ≤ s) : n * r ≤ n * s := Int.mul_le_mul_of_nonneg_left h hn
/-- the greatest of finitely many -/
theorem sp_max (f : Nat → Int) : ∀ n : Nat, 0 < n → ∃ m, m < n ∧ ∀ d, d < n → f d ≤ f m := by
  intro n
  induction n with
  | zero => intro h; exact absurd h (Nat.lt_irrefl 0)
  | succ n ih =>
    intro _
    by_cases hn : n = 0
    · subst hn
      exact ⟨0, by omega, fun d hd => by have : d = 0 := by omega
                                         subst this; exact Int.le_refl _⟩
    · obtain ⟨m, hm, hd⟩ := ih (by omega)
      by_cases h : f m ≤ f n
      · refine ⟨n, by omega, fun d hd' => ?_⟩
        by_cases e : d = n
        · subst e; exact Int.le_refl _
        · exact Int.le_trans (hd d (by omega)) h
      · refine ⟨m, by omega, fun d hd' => ?_⟩
        by_cases e : d = n
        · subst e; omega
        · exact hd d (by omega)
section SPC
variable {a b A1 A2 B1 B2 : Nat → Int} {lr0 hr0 lr hr : Int}
/-- through every rate that all pairs leave there is a line within all spans -/
theorem sp_line (hne : ∀ d, d < 20 → a d ≤ b d) {t : Int} (hl : ∀ i j : Nat, i < j → j < 20 → a j - b i ≤ ((j : Int) - i) * t) (hh : ∀ i j : Nat, i < j → j < 20 → ((j : Int) - i) * t ≤ b j - a i) : ∃ x0 : Int, ∀ d : Nat, d < 20 → a d ≤ x0 + (d : Int) * t ∧ x0 + (d : Int) * t ≤ b d := by
  obtain ⟨m, hm, hd⟩ := sp_max (fun d => a d - (d : Int) * t) 20 (by decide)
  refine ⟨a m - (m : Int) * t, fun d hd' => ?_⟩
  have h1 : a d - (d : Int) * t ≤ a m - (m : Int) * t := hd d hd'
  refine ⟨by omega, ?_⟩
  rcases Nat.lt_trichotomy m d with h | h | h
  · have h2 := hh m d h hd'
    rw [Int.sub_mul] at h2
    omega
  · subst h
    have := hne m hm
    omega
  · have h2 := hl d m h hm
    rw [Int.sub_mul] at h2
    omega
/-- forth: A1 by the days before -/
theorem sp_fw (h0 : A1 0 = a 0) (hs : ∀ d, d + 1 < 20 → A1 (d + 1) = max (a (d + 1)) (A1 d + lr)) : ∀ d : Nat, d < 20 → ∀ x : Int, A1 d ≤ x ↔ ∀ j : Nat, j ≤ d → a j + ((d : Int) - j) * lr ≤ x := by
  intro d
  induction d with
  | zero =>
    intro _ x
    rw [h0]
    constructor
    · intro h j hj
      have : j = 0 := by omega
      subst this
      simpa using h
    · intro h
      simpa using h 0 (Nat.le_refl 0)
  | succ d ih =>
    intro hd x
    rw [hs d hd, Int.max_le]
    have key := ih (by omega) (x - lr)
    have e : ∀ j : Nat, (((d + 1 : Nat) : Int) - j) * lr = ((d : Int) - j) * lr + lr := by
      intro j
      rw [show (((d + 1 : Nat) : Int) - j) = ((d : Int) - j) + 1 by omega, Int.add_mul, Int.one_mul]
    constructor
    · intro h j hj
      by_cases ej : j = d + 1
      · subst ej
        rw [Int.sub_self, Int.zero_mul]
        omega
      · have := key.mp (by omega) j (by omega)
        rw [e]
        omega
    · intro h
      refine ⟨?_, ?_⟩
      · have := h (d + 1) (Nat.le_refl _)
        rw [Int.sub_self, Int.zero_mul] at this
        omega
      · have := key.mpr (fun j hj => by
          have := h j (by omega)
          rw [e] at this
          omega)
        omega
/-- back: A2 by the days behind -/
theorem sp_bw (h0 : A2 19 = A1 19) (hs : ∀ d, d + 1 < 20 → A2 d = max (A1 d) (A2 (d + 1) - hr)) : ∀ k d : Nat, d + k = 19 → ∀ x : Int, A2 d ≤ x ↔ ∀ e : Nat, d ≤ e → e < 20 → A1 e - ((e : Int) - d) * hr ≤ x := by
  intro k
  induction k with
  | zero =>
    intro d hd x
    have : d = 19 := by omega
    subst this
    rw [h0]
    constructor
    · intro h e he1 he2
      have : e = 19 := by omega
      subst this
      rw [Int.sub_self, Int.zero_mul]
      omega
    · intro h
      have := h 19 (Nat.le_refl _) (by decide)
      rw [Int.sub_self, Int.zero_mul] at this
      omega
  | succ k ih =>
    intro d hd x
    rw [hs d (by omega), Int.max_le]
    have key := ih (d + 1) (by omega) (x + hr)
    have e : ∀ j : Nat, ((j : Int) - d) * hr = ((j : Int) - (d + 1 : Nat)) * hr + hr := by
      intro j
      rw [show ((j : Int) - d) = ((j : Int) - (d + 1 : Nat)) + 1 by omega, Int.add_mul, Int.one_mul]
    constructor
    · intro h j hj1 hj2
      by_cases ej : j = d
      · subst ej
        rw [Int.sub_self, Int.zero_mul]
        omega
      · have := key.mp (by omega) j (by omega) hj2
        rw [e]
        omega
    · intro h
      refine ⟨?_, ?_⟩
      · have := h d (Nat.le_refl _) (by omega)
        rw [Int.sub_self, Int.zero_mul] at this
        omega
      · have := key.mpr (fun j hj1 hj2 => by
          have := h j (by omega) hj2
          rw [e] at this
          omega)
        omega
end SPC
/-- one end of the days' spans, narrowed forth and back -/
theorem sp_ends {a A1 A2 : Nat → Int} {lr hr : Int} (hlh : lr ≤ hr) (f0 : A1 0 = a 0) (fs : ∀ d, d + 1 < 20 → A1 (d + 1) = max (a (d + 1)) (A1 d + lr)) (b0 : A2 19 = A1 19) (bs : ∀ d, d + 1 < 20 → A2 d = max (A1 d) (A2 (d + 1) - hr)) :
    (∀ d : Nat, d < 20 → a d ≤ A2 d) ∧ (∀ i j : Nat, i < j → j < 20 → A2 i + ((j : Int) - i) * lr ≤ A2 j ∧ A2 j - ((j : Int) - i) * hr ≤ A2 i) ∧
    (∀ (x : Nat → Int) (t u : Int), lr ≤ t → u ≤ hr → (∀ d, d < 20 → a d ≤ x d) → (∀ i j : Nat, i < j → j < 20 → x i + ((j : Int) - i) * t ≤ x j ∧ x j - ((j : Int) - i) * u ≤ x i) → ∀ d, d < 20 → A2 d ≤ x d) := by
  have F := sp_fw f0 fs
  have Bk := sp_bw b0 bs
  have F' : ∀ e j : Nat, e < 20 → j ≤ e → a j + ((e : Int) - j) * lr ≤ A1 e := fun e j he hj => (F e he (A1 e)).mp (Int.le_refl _) j hj
  have B' : ∀ d e : Nat, d ≤ e → e < 20 → A1 e - ((e : Int) - d) * hr ≤ A2 d := fun d e h1 h2 => (Bk (19 - d) d (by omega) (A2 d)).mp (Int.le_refl _) e h1 h2
  have step : ∀ e j : Nat, e ≤ j → j < 20 → A1 e + ((j : Int) - e) * lr ≤ A1 j := by
    intro e j hej hj
    have h1 := (F e (by omega) (A1 j - ((j : Int) - e) * lr)).mpr (fun k hk => by
      have h2 := F' j k hj (by omega)
      have h3 := sp_mul3 (k : Int) e j lr
      omega)
    omega
  refine ⟨fun d hd => ?_, fun i j hij hj => ⟨?_, ?_⟩, fun x t u ht hu hax hx d hd => ?_⟩
  · have h1 := F' d d hd (Nat.le_refl _)
    have h2 := B' d d (Nat.le_refl _) hd
    rw [Int.sub_self, Int.zero_mul] at h1 h2
    omega
  · have h := (Bk (19 - i) i (by omega) (A2 j - ((j : Int) - i) * lr)).mpr (fun e he1 he2 => ?_)
    · omega
    · by_cases hje : j ≤ e
      · have h1 := B' j e hje he2
        have h2 := sp_mul3 (i : Int) j e hr
        have h3 : ((j : Int) - i) * lr ≤ ((j : Int) - i) * hr := sp_mle (by omega) hlh
        omega
      · have h1 := step e j (by omega) hj
        have h2 := B' j j (Nat.le_refl _) hj
        rw [Int.sub_self, Int.zero_mul] at h2
        have h3 := sp_mul3 (i : Int) e j lr
        have h4 : ((e : Int) - i) * lr ≤ ((e : Int) - i) * hr := sp_mle (by omega) hlh
        omega
  · have h := (Bk (19 - j) j (by omega) (A2 i + ((j : Int) - i) * hr)).mpr (fun e he1 he2 => ?_)
    · omega
    · have h1 := B' i e (by omega) he2
      have h2 := sp_mul3 (i : Int) j e hr
      omega
  · refine (Bk (19 - d) d (by omega) (x d)).mpr (fun e he1 he2 => ?_)
    have hxe : A1 e ≤ x e := (F e he2 (x e)).mpr (fun k hk => by
      by_cases ek : k = e
      · subst ek
        rw [Int.sub_self, Int.zero_mul]
        have := hax k he2
        omega
      · have h1 := (hx k e (by omega) he2).1
        have h2 := hax k (by omega)
        have h3 : ((e : Int) - k) * lr ≤ ((e : Int) - k) * t := sp_mle (by omega) ht
        omega)
    by_cases ed : e = d
    · subst ed
      rw [Int.sub_self, Int.zero_mul]
      omega
    · have h1 := (hx d e (by omega) he2).2
      have h3 : ((e : Int) - d) * u ≤ ((e : Int) - d) * hr := sp_mle (by omega) hu
      omega
/-- days and rate as one row -/
def sp_j (a : Nat → Int) (r : Int) : Nat → Int := fun k => if k = 20 then r else a k
theorem sp_jd {a : Nat → Int} {r : Int} {k : Nat} (h : k < 20) : sp_j a r k = a k := if_neg (by omega)
theorem sp_jr (a : Nat → Int) (r : Int) : sp_j a r 20 = r := if_pos rfl
theorem sp_core {a b A1 A2 B1 B2 : Nat → Int} {lr0 hr0 lr hr : Int} (hne : ∀ d, d < 20 → a d ≤ b d) (hlh : lr ≤ hr)
    (GL : ∀ t : Int, lr ≤ t ↔ (lr0 ≤ t ∧ ∀ i j : Nat, i < j → j < 20 → a j - b i ≤ ((j : Int) - i) * t))
    (GH : ∀ t : Int, t ≤ hr ↔ (t ≤ hr0 ∧ ∀ i j : Nat, i < j → j < 20 → ((j : Int) - i) * t ≤ b j - a i))
    (f0 : A1 0 = a 0) (fs : ∀ d, d + 1 < 20 → A1 (d + 1) = max (a (d + 1)) (A1 d + lr)) (b0 : A2 19 = A1 19) (bs : ∀ d, d + 1 < 20 → A2 d = max (A1 d) (A2 (d + 1) - hr))
    (f0' : B1 0 = b 0) (fs' : ∀ d, d + 1 < 20 → B1 (d + 1) = min (b (d + 1)) (B1 d + hr)) (b0' : B2 19 = B1 19) (bs' : ∀ d, d + 1 < 20 → B2 d = min (B1 d) (B2 (d + 1) - lr)) :
    sp_cl (fun _ => 0) (fun lo hi => sp_sub lo hi (sp_j a lr0) (sp_j b hr0)) (sp_j A2 lr) (sp_j B2 hr) := by
  have hA := sp_ends hlh f0 fs b0 bs
  have hB := sp_ends (a := fun d => - b d) (A1 := fun d => - B1 d) (A2 := fun d => - B2 d) (lr := - hr) (hr := - lr) (by omega) (by show - B1 0 = - b 0; rw [f0']) (fun d hd => by show - B1 (d + 1) = max (- b (d + 1)) (- B1 d + - hr); rw [fs' d hd]; omega) (by show - B2 19 = - B1 19; rw [b0']) (fun d hd => by show - B2 d = max (- B1 d) (- B2 (d + 1) - - lr); rw [bs' d hd]; omega)
  have line : ∀ t : Int, lr ≤ t → t ≤ hr → ∃ x0 : Int, ∀ d : Nat, d < 20 → A2 d ≤ x0 + (d : Int) * t ∧ x0 + (d : Int) * t ≤ B2 d := by
    intro t h1 h2
    obtain ⟨x0, hx⟩ := sp_line hne ((GL t).mp h1).2 ((GH t).mp h2).2
    refine ⟨x0, fun d hd => ⟨?_, ?_⟩⟩
    · refine hA.2.2 (fun d => x0 + (d : Int) * t) t t h1 h2 (fun d hd => (hx d hd).1) (fun i j hij hj => ?_) d hd
      show x0 + (i : Int) * t + ((j : Int) - i) * t ≤ x0 + (j : Int) * t ∧ x0 + (j : Int) * t - ((j : Int) - i) * t ≤ x0 + (i : Int) * t
      rw [Int.sub_mul]
      omega
    · have h := hB.2.2 (fun d => - (x0 + (d : Int) * t)) (- t) (- t) (by omega) (by omega) (fun d hd => by show - b d ≤ - (x0 + (d : Int) * t); have := (hx d hd).2; omega) (fun i j hij hj => by
        show - (x0 + (i : Int) * t) + ((j : Int) - i) * (- t) ≤ - (x0 + (j : Int) * t) ∧ - (x0 + (j : Int) * t) - ((j : Int) - i) * (- t) ≤ - (x0 + (i : Int) * t)
        rw [Int.mul_neg, Int.sub_mul]
        omega) d hd
      have h : - B2 d ≤ - (x0 + (d : Int) * t) := h
      omega
  obtain ⟨x0, hx0⟩ := line lr (Int.le_refl _) hlh
  obtain ⟨x1, hx1⟩ := line hr hlh (Int.le_refl _)
  refine ⟨fun k hk => ?_, fun i j hij hj => ?_, fun k hk => ?_, fun lo hi hsub hnar hne' k hk => ?_⟩
  · by_cases e : k = 20
    · subst e
      rw [sp_jr, sp_jr, sp_jr, sp_jr]
      exact ⟨((GL lr).mp (Int.le_refl _)).1, ((GH hr).mp (Int.le_refl _)).1⟩
    · have hk' : k < 20 := by omega
      rw [sp_jd hk', sp_jd hk', sp_jd hk', sp_jd hk']
      have h1 := hA.1 k hk'
      have h2 : - b k ≤ - B2 k := hB.1 k hk'
      omega
  · rw [sp_jd hj, sp_jd (Nat.lt_trans hij hj), sp_jd hj, sp_jd (Nat.lt_trans hij hj), sp_jr, sp_jr]
    have h1 := hA.2.1 i j hij hj
    have h2 : - B2 i + ((j : Int) - i) * (- hr) ≤ - B2 j ∧ - B2 j - ((j : Int) - i) * (- lr) ≤ - B2 i := hB.2.1 i j hij hj
    rw [Int.mul_neg, Int.mul_neg] at h2
    have e0i := hx0 i (Nat.lt_trans hij hj)
    have e0j := hx0 j hj
    have e1i := hx1 i (Nat.lt_trans hij hj)
    have e1j := hx1 j hj
    have m0 : ((j : Int) - i) * lr = (j : Int) * lr - (i : Int) * lr := Int.sub_mul _ _ _
    have m1 : ((j : Int) - i) * hr = (j : Int) * hr - (i : Int) * hr := Int.sub_mul _ _ _
    show A2 i + ((j : Int) - i) * lr + (0 - 0) ≤ A2 j ∧ B2 j ≤ B2 i + ((j : Int) - i) * hr + (0 - 0) ∧ A2 j - ((j : Int) - i) * hr - (0 - 0) ≤ A2 i ∧ B2 i ≤ B2 j - ((j : Int) - i) * lr - (0 - 0) ∧ A2 j - B2 i - (0 - 0) ≤ ((j : Int) - i) * lr ∧ ((j : Int) - i) * hr ≤ B2 j - A2 i - (0 - 0)
    refine ⟨?_, ?_, ?_, ?_, ?_, ?_⟩ <;> omega
  · by_cases e : k = 20
    · subst e
      rw [sp_jr, sp_jr]
      exact hlh
    · have hk' : k < 20 := by omega
      rw [sp_jd hk', sp_jd hk']
      have := hx0 k hk'
      omega
  · have hs : ∀ d, d < 20 → a d ≤ lo d ∧ hi d ≤ b d := fun d hd => by
      have h := hsub d (by omega)
      rw [sp_jd hd, sp_jd hd] at h
      exact h
    have hr20 := hsub 20 (Nat.le_refl _)
    rw [sp_jr, sp_jr] at hr20
    have hL : lr ≤ lo 20 := (GL (lo 20)).mpr ⟨hr20.1, fun i j hij hj => by
      have h1 := (hnar i j hij hj).2.2.2.2.1
      have h2 := hs i (Nat.lt_trans hij hj)
      have h3 := hs j hj
      simp only [Int.sub_self, Int.sub_zero] at h1
      omega⟩
    have hH : hi 20 ≤ hr := (GH (hi 20)).mpr ⟨hr20.2, fun i j hij hj => by
      have h1 := (hnar i j hij hj).2.2.2.2.2
      have h2 := hs i (Nat.lt_trans hij hj)
      have h3 := hs j hj
      simp only [Int.sub_self, Int.sub_zero] at h1
      omega⟩
    by_cases e : k = 20
    · subst e
      rw [sp_jr, sp_jr]
      exact ⟨hL, hH⟩
    · have hk' : k < 20 := by omega
      rw [sp_jd hk', sp_jd hk']
      refine ⟨hA.2.2 lo (lo 20) (hi 20) hL hH (fun d hd => (hs d hd).1) (fun i j hij hj => ?_) k hk', ?_⟩
      · have h1 := (hnar i j hij hj)
        simp only [Int.sub_self, Int.sub_zero, Int.add_zero] at h1
        exact ⟨h1.1, h1.2.2.1⟩
      · have h := hB.2.2 (fun d => - hi d) (- hi 20) (- lo 20) (by omega) (by omega) (fun d hd => by show - b d ≤ - hi d; have := (hs d hd).2; omega) (fun i j hij hj => by
          show - hi i + ((j : Int) - i) * (- hi 20) ≤ - hi j ∧ - hi j - ((j : Int) - i) * (- lo 20) ≤ - hi i
          have h1 := (hnar i j hij hj)
          simp only [Int.sub_self, Int.sub_zero, Int.add_zero] at h1
          rw [Int.mul_neg, Int.mul_neg]
          omega) k hk'
        have h : - B2 k ≤ - hi k := h
        omega
theorem sp_core_no {a b : Nat → Int} {lr0 hr0 lr hr : Int} (hlh : hr < lr)
    (GL : ∀ t : Int, lr ≤ t ↔ (lr0 ≤ t ∧ ∀ i j : Nat, i < j → j < 20 → a j - b i ≤ ((j : Int) - i) * t))
    (GH : ∀ t : Int, t ≤ hr ↔ (t ≤ hr0 ∧ ∀ i j : Nat, i < j → j < 20 → ((j : Int) - i) * t ≤ b j - a i)) :
    sp_no (fun _ => 0) (fun lo hi => sp_sub lo hi (sp_j a lr0) (sp_j b hr0)) := by
  intro lo hi hsub hnar hne'
  have hs : ∀ d, d < 20 → a d ≤ lo d ∧ hi d ≤ b d := fun d hd => by
    have h := hsub d (by omega)
    rw [sp_jd hd, sp_jd hd] at h
    exact h
  have hr20 := hsub 20 (Nat.le_refl _)
  rw [sp_jr, sp_jr] at hr20
  have hL : lr ≤ lo 20 := (GL (lo 20)).mpr ⟨hr20.1, fun i j hij hj => by
    have h1 := (hnar i j hij hj).2.2.2.2.1
    have h2 := hs i (Nat.lt_trans hij hj)
    have h3 := hs j hj
    simp only [Int.sub_self, Int.sub_zero] at h1
    omega⟩
  have hH : hi 20 ≤ hr := (GH (hi 20)).mpr ⟨hr20.2, fun i j hij hj => by
    have h1 := (hnar i j hij hj).2.2.2.2.2
    have h2 := hs i (Nat.lt_trans hij hj)
    have h3 := hs j hj
    simp only [Int.sub_self, Int.sub_zero] at h1
    omega⟩
  have := hne' 20 (Nat.le_refl _)
  omega
theorem sp_core_no2 {g a b : Nat → Int} {d : Nat} (hd : d ≤ 20) (h : b d < a d) : sp_no g (fun lo hi => sp_sub lo hi a b) := by
  intro lo hi hsub _ hne'
  have h1 := hsub d hd
  have h2 := hne' d hd
  omega
theorem sp_nar_ext {g lo hi lo' hi' : Nat → Int} (h1 : ∀ k, k ≤ 20 → lo' k = lo k) (h2 : ∀ k, k ≤ 20 → hi' k = hi k) (h : sp_nar g lo hi) : sp_nar g lo' hi' := by
  intro i j hij hj
  rw [h1 i (by omega), h1 j (by omega), h1 20 (by omega), h2 i (by omega), h2 j (by omega), h2 20 (by omega)]
  exact h i j hij hj
theorem sp_cl_ext {g lo hi lo' hi' a b : Nat → Int} (h : sp_cl g (fun lo hi => sp_sub lo hi a b) lo hi) (h1 : ∀ k, k ≤ 20 → lo' k = lo k) (h2 : ∀ k, k ≤ 20 → hi' k = hi k) : sp_cl g (fun lo hi => sp_sub lo hi a b) lo' hi' := by
  refine ⟨fun k hk => ?_, sp_nar_ext h1 h2 h.2.1, fun k hk => ?_, fun x y q1 q2 q3 k hk => ?_⟩
  · rw [h1 k hk, h2 k hk]; exact h.1 k hk
  · rw [h1 k hk, h2 k hk]; exact h.2.2.1 k hk
  · rw [h1 k hk, h2 k hk]; exact h.2.2.2 x y q1 q2 q3 k hk
