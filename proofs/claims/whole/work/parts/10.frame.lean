/-! the state of both objects as numbers: σ role place. Roles 0..54: BallDrops and what it holds; 55..84: the reference -/
abbrev bd_S : Type := Nat → Nat → Int32
def bd_sr (σ : bd_S) (r : Nat) (f : Nat → Int32) : bd_S := fun q => if q = r then f else σ q
def bd_st (σ : bd_S) (r k : Nat) (v : Int32) : bd_S := bd_sr σ r (upd (σ r) k v)
theorem bd_sr_self (σ : bd_S) (r : Nat) (f : Nat → Int32) : bd_sr σ r f r = f := if_pos rfl
theorem bd_sr_ne (σ : bd_S) {r q : Nat} (f : Nat → Int32) (h : q ≠ r) : bd_sr σ r f q = σ q := if_neg h
/-! programs: what a method does to the numbers; none: a place outside its row, a division by 0, no end in time -/
def bd_lt {α β : Type} (x : β) (k : β → Option α) : Option α := k x
def bd_rd {α : Type} (σ : bd_S) (r : Nat) (i : Int32) (m : Nat) (k : Int32 → Option α) : Option α := if i < 0 ∨ m ≤ i.toNatClampNeg then none else k (σ r i.toNatClampNeg)
def bd_wr {α : Type} (σ : bd_S) (r : Nat) (i : Int32) (m : Nat) (v : Int32) (k : bd_S → Option α) : Option α := if i < 0 ∨ m ≤ i.toNatClampNeg then none else k (bd_st σ r i.toNatClampNeg v)
def bd_rs {α : Type} (i : Int32) (k : Nat → Option α) : Option α := if i < 0 ∨ 4 ≤ i.toNatClampNeg then none else k (19 + 9 * i.toNatClampNeg)
def bd_dv {α : Type} (x y : Int32) (k : Int32 → Option α) : Option α := if y = 0 then none else k (x / y)
def bd_rm {α : Type} (x y : Int32) (k : Int32 → Option α) : Option α := if y = 0 then none else k (x - x / y * y)
def bd_dvl {α : Type} (x y : Int64) (k : Int64 → Option α) : Option α := if y = 0 then none else k (x / y)
def bd_rml {α : Type} (x y : Int64) (k : Int64 → Option α) : Option α := if y = 0 then none else k (x - x / y * y)
def bd_zr (v : Int32) (σ : bd_S) : Option (Int32 × bd_S) := if v = 0 ∨ v = 1 then some (v, σ) else none
def bd_b {α β : Type} (x : Option (β × bd_S)) (k : β → bd_S → Option α) : Option α := x.elim none (fun p => k p.1 p.2)
def bd_cp {α : Type} (σ : bd_S) (r1 : Nat) (sp : Int32) (r2 : Nat) (dp n : Int32) (m : Nat) (k : bd_S → Option α) : Option α := if sp < 0 ∨ dp < 0 ∨ n < 0 ∨ m < sp.toNatClampNeg + n.toNatClampNeg ∨ m < dp.toNatClampNeg + n.toNatClampNeg then none else k (bd_sr σ r2 (va_cpy (σ r1) (σ r2) sp.toNatClampNeg dp.toNatClampNeg n.toNatClampNeg))
theorem bd_b_some {α β : Type} {x : Option (β × bd_S)} {k : β → bd_S → Option α} {y : α} (h : bd_b x k = some y) : ∃ r σ', x = some (r, σ') ∧ k r σ' = some y := by
  cases x with
  | none => cases h
  | some p => exact ⟨p.1, p.2, rfl, h⟩
/-- kinds: 0 Line, 1 Ship, 2 BallDrops, 3 BallDropsModel, 4 ints, 5 booleans, 6 ships -/
def bd_kl : List (Nat × Nat) := [(2, 0), (0, 0), (4, 20), (4, 20), (0, 0), (4, 20), (4, 20), (0, 0), (4, 20), (4, 20), (4, 2), (4, 2), (4, 20), (4, 20), (6, 4), (4, 4), (4, 4), (4, 3), (4, 3),
  (1, 0), (4, 12), (4, 12), (5, 12), (4, 12), (4, 12), (4, 3), (4, 3), (4, 3), (1, 0), (4, 12), (4, 12), (5, 12), (4, 12), (4, 12), (4, 3), (4, 3), (4, 3), (1, 0), (4, 12), (4, 12), (5, 12), (4, 12), (4, 12), (4, 3), (4, 3), (4, 3), (1, 0), (4, 12), (4, 12), (5, 12), (4, 12), (4, 12), (4, 3), (4, 3), (4, 3),
  (3, 0), (4, 21), (4, 21), (4, 21), (4, 21), (4, 21), (4, 2), (4, 2), (4, 20), (5, 20), (4, 20), (4, 4), (4, 48), (4, 48), (4, 48), (4, 48), (4, 48), (5, 80), (4, 12), (4, 12), (4, 4), (4, 12), (4, 4), (4, 4), (4, 21), (4, 21), (4, 20), (4, 3), (4, 3), (5, 3)]
def bd_kd (r : Nat) : Nat × Nat := bd_kl.getD r (9, 0)
def bd_isL (r : Nat) : Prop := r = 1 ∨ r = 4 ∨ r = 7
def bd_isS (r : Nat) : Prop := r = 19 ∨ r = 28 ∨ r = 37 ∨ r = 46
/-- what stands fixed: classes, arrays' classes, addresses by role, what may change, how many roles there are, how many ships -/
abbrev bd_E : Type := va_G × (ClassId × ClassId × ClassId) × (Nat → Nat) × (Nat → Prop) × Nat × Nat
abbrev bd_D (E : bd_E) : va_G := E.1
abbrev bd_cI (E : bd_E) : ClassId := E.2.1.1
abbrev bd_cZ (E : bd_E) : ClassId := E.2.1.2.1
abbrev bd_cO (E : bd_E) : ClassId := E.2.1.2.2
abbrev bd_ad (E : bd_E) : Nat → Nat := E.2.2.1
abbrev bd_A (E : bd_E) : Nat → Prop := E.2.2.2.1
abbrev bd_N (E : bd_E) : Nat := E.2.2.2.2.1
abbrev bd_nS (E : bd_E) : Nat := E.2.2.2.2.2
def bd_fs (E : bd_E) (f : Nat → Int32) (r c : Nat) : List Value := if c = 0 then [.ref (bd_ad E (r + 1)), .ref (bd_ad E (r + 2)), .int (f 2), .int (f 3)]
  else if c = 1 then [.ref (bd_ad E (r + 1)), .ref (bd_ad E (r + 2)), .ref (bd_ad E (r + 3)), .ref (bd_ad E (r + 4)), .ref (bd_ad E (r + 5)), .ref (bd_ad E (r + 6)), .ref (bd_ad E (r + 7)), .ref (bd_ad E (r + 8)), .int (f 8), .int (f 9), .int (f 10)]
  else if c = 2 then [.ref (bd_ad E (r + 1)), .ref (bd_ad E (r + 4)), .ref (bd_ad E (r + 7)), .ref (bd_ad E (r + 10)), .ref (bd_ad E (r + 11)), .ref (bd_ad E (r + 12)), .ref (bd_ad E (r + 13)), .ref (bd_ad E (r + 14)), .ref (bd_ad E (r + 15)), .ref (bd_ad E (r + 16)), .ref (bd_ad E (r + 17)), .ref (bd_ad E (r + 18)), .int (f 12), .int (f 13), .int (f 14), .int (f 15)]
  else [.int (f 0), .ref (bd_ad E (r + 1)), .ref (bd_ad E (r + 2)), .ref (bd_ad E (r + 3)), .int (f 4), .ref (bd_ad E (r + 4)), .ref (bd_ad E (r + 5)), .ref (bd_ad E (r + 6)), .ref (bd_ad E (r + 7)), .ref (bd_ad E (r + 8)), .ref (bd_ad E (r + 9)), .ref (bd_ad E (r + 10)), .int (f 12), .ref (bd_ad E (r + 11)), .ref (bd_ad E (r + 12)), .ref (bd_ad E (r + 13)), .ref (bd_ad E (r + 14)), .ref (bd_ad E (r + 15)), .ref (bd_ad E (r + 16)), .ref (bd_ad E (r + 17)), .ref (bd_ad E (r + 18)), .ref (bd_ad E (r + 19)), .ref (bd_ad E (r + 20)), .ref (bd_ad E (r + 21)), .ref (bd_ad E (r + 22)), .ref (bd_ad E (r + 23)), .ref (bd_ad E (r + 24)), .ref (bd_ad E (r + 25)), .ref (bd_ad E (r + 26)), .int (f 29), .int (f 30), .ref (bd_ad E (r + 27)), .ref (bd_ad E (r + 28)), .ref (bd_ad E (r + 29)), .int (f 34), .int (f 35)]
def bd_ce (E : bd_E) (f : Nat → Int32) (r : Nat) (k : Nat × Nat) : va_E := if k.1 = 4 then .inl (bd_cI E, k.2, .inl f) else if k.1 = 5 then .inl (bd_cZ E, k.2, .inl f)
  else if k.1 = 6 then .inl (bd_cO E, 4, .inr (.inr (.inr (.inr (fun j => if j < bd_nS E then some (bd_ad E (19 + 9 * j)) else none)))))
  else .inr (k.1, bd_fs E f r k.1)
def bd_cell (E : bd_E) (σ : bd_S) (r : Nat) : va_E := bd_ce E (σ r) r (bd_kd r)
def bd_w (E : bd_E) (σ : bd_S) : va_W := (List.range (bd_N E)).map (fun r => (bd_ad E r, bd_cell E σ r))
theorem bd_w_get (E : bd_E) (σ : bd_S) {r : Nat} (h : r < bd_N E) : (bd_w E σ)[r]? = some (bd_ad E r, bd_cell E σ r) := by simp [bd_w, h]
theorem bd_w_at (E : bd_E) (σ : bd_S) {r : Nat} (h : r < bd_N E) {k : Nat × Nat} (hk : bd_kd r = k) : (bd_w E σ)[r]? = some (bd_ad E r, bd_ce E (σ r) r k) := by subst hk; exact bd_w_get E σ h
theorem bd_w_set (E : bd_E) (σ : bd_S) (f : Nat → Int32) {r : Nat} (h : r < bd_N E) : (bd_w E σ).set r (bd_ad E r, bd_cell E (bd_sr σ r f) r) = bd_w E (bd_sr σ r f) := by
  refine List.ext_getElem? (fun j => ?_)
  rw [List.getElem?_set]
  have hl : (bd_w E σ).length = bd_N E := by simp [bd_w]
  by_cases hj : r = j
  · subst hj
    rw [if_pos rfl, hl, if_pos h, bd_w_get E _ h]
  · rw [if_neg hj]
    simp only [bd_w, List.getElem?_map]
    cases hq : (List.range (bd_N E))[j]? with
    | none => rfl
    | some q =>
      have hqj : j = q := by
        have h2 := List.getElem?_eq_some_iff.mp hq
        obtain ⟨h3, h4⟩ := h2
        rw [List.getElem_range] at h4
        exact h4
      subst hqj
      simp only [Option.map_some, bd_cell, bd_sr_ne σ f (Ne.symm hj)]
def bd_ok (E : bd_E) (n : Nat) : Prop := (∀ i j, i < bd_N E → j < bd_N E → bd_ad E i = bd_ad E j → i = j) ∧ (∀ i, i < bd_N E → bd_A E (bd_ad E i)) ∧ n ≤ bd_N E ∧ (54 < n → bd_nS E = 4)
theorem bd_ok.mono {E : bd_E} {n k : Nat} (h : bd_ok E n) (hk : k ≤ n) : bd_ok E k := ⟨h.1, h.2.1, Nat.le_trans hk h.2.2.1, fun q => h.2.2.2 (Nat.lt_of_lt_of_le q hk)⟩
theorem bd_ok.dis {E : bd_E} {n : Nat} (h : bd_ok E n) (σ : bd_S) : va_D (bd_A E) (bd_w E σ) := by
  have key : ∀ (i : Nat) (p : Nat × va_E), (bd_w E σ)[i]? = some p → i < bd_N E ∧ p.1 = bd_ad E i := by
    intro i p hi
    have h1 : i < bd_N E := by
      have h2 := (List.getElem?_eq_some_iff.mp hi).1
      simpa [bd_w] using h2
    rw [bd_w_get E σ h1] at hi
    cases hi
    exact ⟨h1, rfl⟩
  refine ⟨fun i j p q hi hj hpq => ?_, fun k q hk => ?_⟩
  · obtain ⟨a1, a2⟩ := key i p hi
    obtain ⟨b1, b2⟩ := key j q hj
    exact h.1 i j a1 b1 (by rw [← a2, ← b2]; exact hpq)
  · obtain ⟨a1, a2⟩ := key k q hk
    rw [a2]
    exact h.2.1 k a1
abbrev bd_tys (E : bd_E) : List (ClassId × FieldType) := [(bd_cI E, .int), (bd_cZ E, .boolean), (bd_cO E, .object "BallDrops$Ship")]
/-! the tables' words, kept through every call -/
def bd_T (U : State) : Prop := ∀ w ∈ lw_tbl, goodWord w = true → ∀ a : Array Value, w.before a U = true
def bd_isN : Cond → Bool
  | .fieldLinkNest _ _ _ _ _ _ => true
  | .methodLinkNest _ _ _ _ => true
  | .arrayOver (.object _) => true
  | _ => false
def bd_Nw (U : State) : Prop := ∀ w ∈ lw_tbl, bd_isN w = true → va_Nw w U
theorem bd_T.warm {s U : State} (h : bd_T s) (hW : s.WarmedH U.vm) : bd_T U := fun w hm hg a => word_at hW (good_of_word hg) (h w hm hg a)
theorem bd_Nw.warm {s U : State} (h : bd_Nw s) (hW : s.WarmedH U.vm) : bd_Nw U := by
  intro w hm hg
  have hz := h w hm hg
  cases w <;> first | exact va_Nw.warmF hW hz | exact va_Nw.warmM hW hz | (rename_i ty; cases ty <;> first | exact va_AO.moved hW.alike hz | cases hg) | cases hg
theorem bd_Nw.same {s U : State} (h : bd_Nw s) (hv : s.vm = U.vm) : bd_Nw U := by
  intro w hm hg
  have hz := h w hm hg
  cases w <;> first | exact va_Nw.same rfl hv hz | (rename_i ty; cases ty <;> first | exact va_AO.moved (by rw [hv]; exact Vm.Alike.refl U.vm) hz | cases hg) | cases hg
def bd_in (w : Cond) : Prop := w ∈ lw_tbl ∧ goodWord w = true
theorem bd_T.at {s : State} (h : bd_T s) {w : Cond} (hw : bd_in w) (a : Array Value) : w.before a s = true := h w hw.1 hw.2 a
def bd_inN (w : Cond) : Prop := w ∈ lw_tbl ∧ bd_isN w = true ∧ w.onTables = true
theorem bd_Nw.at {s : State} (h : bd_Nw s) {w : Cond} (hw : bd_inN w) (a : Array Value) : w.before a s = true := va_Nw.use hw.2.2 (h w hw.1 hw.2.1)
/-! contracts -/
def bd_Pre (E : bd_E) (av : List Value) (σ : bd_S) : Array Value → State → Prop := va_Pc av (fun U => va_P (bd_D E) vwCl (bd_w E σ) U.heap ∧ va_K (bd_D E) vwCl (bd_tys E) U ∧ bd_T U ∧ bd_Nw U)
theorem bd_Pre.blind (E : bd_E) (av : List Value) (σ : bd_S) : FrameBlind (bd_Pre E av σ) := fun a U g mk q => by
  obtain ⟨h0, hP, hK, hT, hN⟩ := q
  exact ⟨h0, hP, va_K.moved (u := U) (U := U.calling g mk a) (Vm.Alike.refl U.vm) hK, hT.warm (U := U.calling g mk a) (State.WarmedH.refl U), hN.same rfl⟩
def bd_Qi (E : bd_E) (o : Int32 × bd_S) : Array Value → State → Outcome → State → Prop := va_Qi (fun (r : Int32) (_ : Unit) => r = o.1) (fun _ t => va_P (bd_D E) vwCl (bd_w E o.2) t.heap) (bd_A E)
def bd_Ql (E : bd_E) (o : Int64 × bd_S) : Array Value → State → Outcome → State → Prop := va_Ql (fun (r : Int64) (_ : Unit) => r = o.1) (fun _ t => va_P (bd_D E) vwCl (bd_w E o.2) t.heap) (bd_A E)
def bd_Qv (E : bd_E) (o : Unit × bd_S) : Array Value → State → Outcome → State → Prop := va_Qv (fun (_ : Unit) => True) (fun _ t => va_P (bd_D E) vwCl (bd_w E o.2) t.heap) (bd_A E)
/-- a method's contract: where its program answers, it returns so -/
def bd_M {α : Type} (Qc : bd_E → α → Array Value → State → Outcome → State → Prop) (l : Launch) (y : MethodName) (cc : ByteArray) (mL : Nat) (ret : Option FieldType) (fr lo : Nat) (E : bd_E) (av : List Value) (σ : bd_S) (f : Option α) : Prop :=
  ∀ out : α, f = some out → Met l y [.code y cc mL ret] { frames := fr, cells := 0, slots := 0, locals := lo } (bd_Pre E av σ) (Qc E out) 0 0 (bd_A E)
/-! the judgement in a method's body -/
abbrev bd_G : Type := Program × Launch × Env × Room × State × MethodId × Array Value × List Frame × Method × Code × (State → Prop) × bd_E × Nat × Nat
abbrev g_p (G : bd_G) : Program := G.1
abbrev g_l (G : bd_G) : Launch := G.2.1
abbrev g_e (G : bd_G) : Env := G.2.2.1
abbrev g_R (G : bd_G) : Room := G.2.2.2.1
abbrev g_s (G : bd_G) : State := G.2.2.2.2.1
abbrev g_m (G : bd_G) : MethodId := G.2.2.2.2.2.1
abbrev g_a (G : bd_G) : Array Value := G.2.2.2.2.2.2.1
abbrev g_b (G : bd_G) : List Frame := G.2.2.2.2.2.2.2.1
abbrev g_M (G : bd_G) : Method := G.2.2.2.2.2.2.2.2.1
abbrev g_c (G : bd_G) : Code := G.2.2.2.2.2.2.2.2.2.1
abbrev g_Q (G : bd_G) : State → Prop := G.2.2.2.2.2.2.2.2.2.2.1
abbrev g_E (G : bd_G) : bd_E := G.2.2.2.2.2.2.2.2.2.2.2.1
abbrev g_k (G : bd_G) : Nat := G.2.2.2.2.2.2.2.2.2.2.2.2.1
abbrev g_n (G : bd_G) : Nat := G.2.2.2.2.2.2.2.2.2.2.2.2.2
def bd_WL (G : bd_G) (σ : bd_S) (pc : Nat) (lv : List (Nat × Value)) (st : List Value) : Prop :=
  ∀ (H : Heap) (locs : List Loc) (ls : Array Slot), va_P (bd_D (g_E G)) vwCl (bd_w (g_E G) σ) H → va_S (bd_A (g_E G)) (g_s G).heap H locs → lv_has ls (g_c G).maxLocals lv → W (g_p G) (g_l G) (g_e G) (g_R G) (g_s G) (g_m G) (g_a G) (g_b G) (g_M G) (g_c G) H locs (g_k G) (g_n G) (g_Q G) (F0 (g_m G) pc ls st)
def bd_OK (G : bd_G) (cc : ByteArray) (nL : Nat) (own : String) (n fr lo : Nat) (rt : Option FieldType) : Prop :=
  (g_p G).tables.exec = Jvm.exec ∧ (g_c G).code = cc ∧ (g_c G).maxLocals = nL ∧ (g_s G).vm.findClass own = some (g_m G).cls ∧ va_K (bd_D (g_E G)) vwCl (bd_tys (g_E G)) (g_s G) ∧ bd_T (g_s G) ∧ bd_Nw (g_s G) ∧ (g_M G).locks = false ∧ bd_ok (g_E G) n ∧ fr ≤ (g_R G).frames ∧ lo ≤ (g_R G).locals ∧ (g_M G).sig.returnType = rt ∧ g_k G ≤ (g_R G).cells ∧ g_n G ≤ (g_R G).slots
def bd_WF {α : Type} (G : bd_G) (out : α) (F : Option α) (σ : bd_S) (pc : Nat) (lv : List (Nat × Value)) (st : List Value) : Prop := F = some out → bd_WL G σ pc lv st
def bd_ends {α : Type} (Qc : bd_E → α → Array Value → State → Outcome → State → Prop) (G : bd_G) (out : α) : Prop := g_Q G = MQ (g_b G) (Qc (g_E G) out) (g_a G) (g_s G) (g_k G) (g_n G) (bd_A (g_E G))
section BDO
variable {G : bd_G} {cc : ByteArray} {nL : Nat} {own : String} {n fr lo : Nat} {rt : Option FieldType}
theorem bd_OK.hx (h : bd_OK G cc nL own n fr lo rt) : (g_p G).tables.exec = Jvm.exec := h.1
theorem bd_OK.hb (h : bd_OK G cc nL own n fr lo rt) : (g_c G).code = cc := h.2.1
theorem bd_OK.hml (h : bd_OK G cc nL own n fr lo rt) : (g_c G).maxLocals = nL := h.2.2.1
theorem bd_OK.hown (h : bd_OK G cc nL own n fr lo rt) : (g_s G).vm.findClass own = some (g_m G).cls := h.2.2.2.1
theorem bd_OK.hK (h : bd_OK G cc nL own n fr lo rt) : va_K (bd_D (g_E G)) vwCl (bd_tys (g_E G)) (g_s G) := h.2.2.2.2.1
theorem bd_OK.hT (h : bd_OK G cc nL own n fr lo rt) : bd_T (g_s G) := h.2.2.2.2.2.1
theorem bd_OK.hN (h : bd_OK G cc nL own n fr lo rt) : bd_Nw (g_s G) := h.2.2.2.2.2.2.1
theorem bd_OK.hlk (h : bd_OK G cc nL own n fr lo rt) : (g_M G).locks = false := h.2.2.2.2.2.2.2.1
theorem bd_OK.hE (h : bd_OK G cc nL own n fr lo rt) : bd_ok (g_E G) n := h.2.2.2.2.2.2.2.2.1
theorem bd_OK.hfr (h : bd_OK G cc nL own n fr lo rt) : fr ≤ (g_R G).frames := h.2.2.2.2.2.2.2.2.2.1
theorem bd_OK.hlo (h : bd_OK G cc nL own n fr lo rt) : lo ≤ (g_R G).locals := h.2.2.2.2.2.2.2.2.2.2.1
theorem bd_OK.hr (h : bd_OK G cc nL own n fr lo rt) : (g_M G).sig.returnType = rt := h.2.2.2.2.2.2.2.2.2.2.2.1
theorem bd_OK.hk (h : bd_OK G cc nL own n fr lo rt) : g_k G ≤ (g_R G).cells := h.2.2.2.2.2.2.2.2.2.2.2.2.1
theorem bd_OK.hn (h : bd_OK G cc nL own n fr lo rt) : g_n G ≤ (g_R G).slots := h.2.2.2.2.2.2.2.2.2.2.2.2.2
end BDO
/-- a contract out of a body's walk, for JDK classes too -/
theorem bd_ofW {y : MethodName} {rm : Room} {Pc : Array Value → State → Prop} {Qc : Array Value → State → Outcome → State → Prop} {l : Launch} {mc ms : Nat} {free : Addr → Prop} {cc : ByteArray} {maxL : Nat} {ret : Option FieldType} (hy : plainFor y = true)
    (body : ∀ p e s m args below meth c s₁, BodyLoose p l y (headSpec [.code y cc maxL ret] rm) cc maxL ret e s m args below meth c s₁ → c.maxLocals = maxL → Pc args s →
      W p l e rm s m args below meth c s.heap [] 0 0 (MQ below Qc args s mc ms free) (entryFrame m args maxL)) : Met l y [.code y cc maxL ret] rm Pc Qc mc ms free := by
  refine MetFree.of_bodySF (code := cc) (maxLocals := maxL) (ret := ret) hy (fun args s m h hn => ?_) (fun p e s m args below meth c s₁ B hml hP _ => ?_)
  · obtain ⟨meth, c, h1, h2, h3, h4, h5, h6, -, -⟩ := Cond.code_spec hn (atoms_spec (ws := [.code y cc maxL ret]) h _ List.mem_cons_self)
    exact ⟨meth, c, h1, h2, h3, h4, h5, h6⟩
  · have hh0 : s₁.heap = s.heap := by rw [B.state]; rfl
    obtain ⟨t, a1, o, b1, b2, b3⟩ := body p e s m args below meth c s₁ B hml hP s₁ hh0 (Stand.of_body B)
    exact ⟨t, o, a1, b1, b2, ⟨b3.1, b3.2⟩⟩
/-- a contract out of a walk of the body -/
theorem bd_open {α : Type} (Qc : bd_E → α → Array Value → State → Outcome → State → Prop) {l : Launch} {y : MethodName} {cc : ByteArray} {mL : Nat} {ret : Option FieldType} {fr lo : Nat} {E : bd_E} {av : List Value} {σ : bd_S} {f : Option α} {n : Nat} (hy : plainFor y = true) (hE : bd_ok E n) (hle : (lg_sl av).length ≤ mL)
    (h : ∀ (G : bd_G) (out : α), bd_OK G cc mL y.cls n fr lo ret → g_E G = E → g_l G = l → bd_ends Qc G out → bd_WF G out f σ 0 (lv_args 0 av) []) : bd_M Qc l y cc mL ret fr lo E av σ f := by
  intro out hout
  refine bd_ofW hy ?_
  intro p e s m args below meth c s₁ B hml hv
  obtain ⟨rfl, hP, hK, hT, hN⟩ := hv
  have hown : s.vm.findClass y.cls = some m.cls := findClass_of_methodNamed B.named
  have hl := lv_entry av (n := mL) hle
  rw [lg_entry_eq]
  rw [← hml] at hl
  have h1 := h (p, l, e, { frames := fr, cells := 0, slots := 0, locals := lo }, s, m, av.toArray, below, meth, c, MQ below (Qc E out) av.toArray s 0 0 (bd_A E), E, 0, 0) out
    ⟨B.exec, B.bytes, hml, hown, hK, hT, hN, B.notSynchronized, hE, Nat.le_refl _, Nat.le_refl _, B.returns, Nat.zero_le _, Nat.zero_le _⟩ rfl rfl rfl hout s.heap [] _ hP va_S.rf hl
  rw [hml] at h1
  exact h1

section BDR
variable {G : bd_G} {cc : ByteArray} {nL : Nat} {own : String} {n fr lo : Nat} {rt : Option FieldType} {α : Type} {out : α} {F F1 F2 : Option α} {σ : bd_S} {pc : Nat} {lv lr : List (Nat × Value)} {st : List Value}
theorem rr_iconst (hG : bd_OK G cc nL own n fr lo rt) {c : Int} {v : Int32} (hd : decode cc pc = .ok (.iconst c, 1)) (hv : Int32.ofInt c = v) (kk : bd_WF G out F σ (pc + 1) lv (.int v :: st)) : bd_WF G out F σ pc lv st :=
  fun hF H locs ls hP hS hl => lv_iconst hG.hx hG.hb hd hv (kk hF H locs ls hP hS hl)
theorem rr_bipush (hG : bd_OK G cc nL own n fr lo rt) {c : Int} {v : Int32} (hd : decode cc pc = .ok (.bipush c, 2)) (hv : (Int8.ofInt c).toInt32 = v) (kk : bd_WF G out F σ (pc + 2) lv (.int v :: st)) : bd_WF G out F σ pc lv st :=
  fun hF H locs ls hP hS hl => lv_bipush hG.hx hG.hb hd hv (kk hF H locs ls hP hS hl)
theorem rr_sipush (hG : bd_OK G cc nL own n fr lo rt) {c : Int} {v : Int32} (hd : decode cc pc = .ok (.sipush c, 3)) (hv : (Int16.ofInt c).toInt32 = v) (kk : bd_WF G out F σ (pc + 3) lv (.int v :: st)) : bd_WF G out F σ pc lv st :=
  fun hF H locs ls hP hS hl => lv_sipush hG.hx hG.hb hd hv (kk hF H locs ls hP hS hl)
theorem rr_lconst (hG : bd_OK G cc nL own n fr lo rt) {c : Fin 2} {v : Int64} (hd : decode cc pc = .ok (.lconst c, 1)) (hv : Int64.ofNat (c : Nat) = v) (kk : bd_WF G out F σ (pc + 1) lv (.long v :: st)) : bd_WF G out F σ pc lv st :=
  fun hF H locs ls hP hS hl => lv_lconst hG.hx hG.hb hd hv (kk hF H locs ls hP hS hl)
theorem rr_ldc (hG : bd_OK G cc nL own n fr lo rt) {v : Int32} {idx : Nat} (hc : bd_in (.constant own idx v)) (hd : decode cc pc = .ok (.ldc idx, 2)) (kk : bd_WF G out F σ (pc + 2) lv (.int v :: st)) : bd_WF G out F σ pc lv st :=
  fun hF H locs ls hP hS hl => lv_ldc hG.hx hG.hb hG.hown (hG.hT.at hc _) hd (kk hF H locs ls hP hS hl)
theorem rr_ldcw (hG : bd_OK G cc nL own n fr lo rt) {v : Int32} {idx : Nat} (hc : bd_in (.constant own idx v)) (hd : decode cc pc = .ok (.ldc_w idx, 3)) (kk : bd_WF G out F σ (pc + 3) lv (.int v :: st)) : bd_WF G out F σ pc lv st :=
  fun hF H locs ls hP hS hl => lv_ldcw hG.hx hG.hb hG.hown (hG.hT.at hc _) hd (kk hF H locs ls hP hS hl)
theorem rr_ldc2 (hG : bd_OK G cc nL own n fr lo rt) {v : Int64} {idx : Nat} (hc : bd_in (.constantLong own idx v)) (hd : decode cc pc = .ok (.ldc2_w idx, 3)) (kk : bd_WF G out F σ (pc + 3) lv (.long v :: st)) : bd_WF G out F σ pc lv st :=
  fun hF H locs ls hP hS hl => lv_ldc2 hG.hx hG.hb hG.hown (hG.hT.at hc _) hd (kk hF H locs ls hP hS hl)
theorem rr_iload_n (hG : bd_OK G cc nL own n fr lo rt) {k : Fin 4} {i : Nat} {x : Int32} (hd : decode cc pc = .ok (.iload_n k, 1)) (hi : (k : Nat) = i) (j : Nat) (hj : lv[j]? = some (i, .int x)) (kk : bd_WF G out F σ (pc + 1) lv (.int x :: st)) : bd_WF G out F σ pc lv st :=
  fun hF H locs ls hP hS hl => lv_iload_n hG.hx hG.hb hd hi (lv_at hl j hj) (kk hF H locs ls hP hS hl)
theorem rr_iload (hG : bd_OK G cc nL own n fr lo rt) {i : Nat} {x : Int32} (hd : decode cc pc = .ok (.iload i, 2)) (j : Nat) (hj : lv[j]? = some (i, .int x)) (kk : bd_WF G out F σ (pc + 2) lv (.int x :: st)) : bd_WF G out F σ pc lv st :=
  fun hF H locs ls hP hS hl => lv_iload hG.hx hG.hb hd (lv_at hl j hj) (kk hF H locs ls hP hS hl)
theorem rr_lload_n (hG : bd_OK G cc nL own n fr lo rt) {k : Fin 4} {i : Nat} {x : Int64} (hd : decode cc pc = .ok (.lload_n k, 1)) (hi : (k : Nat) = i) (j : Nat) (hj : lv[j]? = some (i, .long x)) (kk : bd_WF G out F σ (pc + 1) lv (.long x :: st)) : bd_WF G out F σ pc lv st :=
  fun hF H locs ls hP hS hl => lv_lload_n hG.hx hG.hb hd hi (lv_at hl j hj) (kk hF H locs ls hP hS hl)
theorem rr_lload (hG : bd_OK G cc nL own n fr lo rt) {i : Nat} {x : Int64} (hd : decode cc pc = .ok (.lload i, 2)) (j : Nat) (hj : lv[j]? = some (i, .long x)) (kk : bd_WF G out F σ (pc + 2) lv (.long x :: st)) : bd_WF G out F σ pc lv st :=
  fun hF H locs ls hP hS hl => lv_lload hG.hx hG.hb hd (lv_at hl j hj) (kk hF H locs ls hP hS hl)
theorem rr_aload_n (hG : bd_OK G cc nL own n fr lo rt) {k : Fin 4} {i : Nat} {x : Nat} (hd : decode cc pc = .ok (.aload_n k, 1)) (hi : (k : Nat) = i) (j : Nat) (hj : lv[j]? = some (i, .ref x)) (kk : bd_WF G out F σ (pc + 1) lv (.ref x :: st)) : bd_WF G out F σ pc lv st :=
  fun hF H locs ls hP hS hl => lv_aload_n hG.hx hG.hb hd hi (lv_at hl j hj) (kk hF H locs ls hP hS hl)
theorem rr_aload (hG : bd_OK G cc nL own n fr lo rt) {i : Nat} {x : Nat} (hd : decode cc pc = .ok (.aload i, 2)) (j : Nat) (hj : lv[j]? = some (i, .ref x)) (kk : bd_WF G out F σ (pc + 2) lv (.ref x :: st)) : bd_WF G out F σ pc lv st :=
  fun hF H locs ls hP hS hl => lv_aload hG.hx hG.hb hd (lv_at hl j hj) (kk hF H locs ls hP hS hl)
theorem rr_istore_n (hG : bd_OK G cc nL own n fr lo rt) {k : Fin 4} {i : Nat} {x : Int32} (hd : decode cc pc = .ok (.istore_n k, 1)) (hi : (k : Nat) = i) (hn : i < nL) (hf : lv.filter (fun q => !(q.1 == i) && !(q.1 + 1 == i && q.2.category == 2)) = lr) (kk : bd_WF G out F σ (pc + 1) ((i, .int x) :: lr) st) : bd_WF G out F σ pc lv (.int x :: st) :=
  fun hF H locs ls hP hS hl => lv_istore_n hG.hx hG.hb hd hi hl (by rw [hG.hml]; exact hn) (congrArg (fun z => (i, Value.int x) :: z) hf) (fun ls2 hl2 => kk hF H locs ls2 hP hS hl2)
theorem rr_istore (hG : bd_OK G cc nL own n fr lo rt) {i : Nat} {x : Int32} (hd : decode cc pc = .ok (.istore i, 2)) (hn : i < nL) (hf : lv.filter (fun q => !(q.1 == i) && !(q.1 + 1 == i && q.2.category == 2)) = lr) (kk : bd_WF G out F σ (pc + 2) ((i, .int x) :: lr) st) : bd_WF G out F σ pc lv (.int x :: st) :=
  fun hF H locs ls hP hS hl => lv_istore hG.hx hG.hb hd hl (by rw [hG.hml]; exact hn) (congrArg (fun z => (i, Value.int x) :: z) hf) (fun ls2 hl2 => kk hF H locs ls2 hP hS hl2)
theorem rr_lstore_n (hG : bd_OK G cc nL own n fr lo rt) {k : Fin 4} {i : Nat} {x : Int64} (hd : decode cc pc = .ok (.lstore_n k, 1)) (hi : (k : Nat) = i) (hn : i + 1 < nL) (hf : lv.filter (fun q => !(q.1 == i) && (!(q.1 == i + 1) && !(q.1 + 1 == i && q.2.category == 2))) = lr) (kk : bd_WF G out F σ (pc + 1) ((i, .long x) :: lr) st) : bd_WF G out F σ pc lv (.long x :: st) :=
  fun hF H locs ls hP hS hl => lv_lstore_n hG.hx hG.hb hd hi hl (by rw [hG.hml]; exact hn) (congrArg (fun z => (i, Value.long x) :: z) hf) (fun ls2 hl2 => kk hF H locs ls2 hP hS hl2)
theorem rr_lstore (hG : bd_OK G cc nL own n fr lo rt) {i : Nat} {x : Int64} (hd : decode cc pc = .ok (.lstore i, 2)) (hn : i + 1 < nL) (hf : lv.filter (fun q => !(q.1 == i) && (!(q.1 == i + 1) && !(q.1 + 1 == i && q.2.category == 2))) = lr) (kk : bd_WF G out F σ (pc + 2) ((i, .long x) :: lr) st) : bd_WF G out F σ pc lv (.long x :: st) :=
  fun hF H locs ls hP hS hl => lv_lstore hG.hx hG.hb hd hl (by rw [hG.hml]; exact hn) (congrArg (fun z => (i, Value.long x) :: z) hf) (fun ls2 hl2 => kk hF H locs ls2 hP hS hl2)
theorem rr_astore_n (hG : bd_OK G cc nL own n fr lo rt) {k : Fin 4} {i : Nat} {x : Nat} (hd : decode cc pc = .ok (.astore_n k, 1)) (hi : (k : Nat) = i) (hn : i < nL) (hf : lv.filter (fun q => !(q.1 == i) && !(q.1 + 1 == i && q.2.category == 2)) = lr) (kk : bd_WF G out F σ (pc + 1) ((i, .ref x) :: lr) st) : bd_WF G out F σ pc lv (.ref x :: st) :=
  fun hF H locs ls hP hS hl => lv_astore_n hG.hx hG.hb hd hi hl (by rw [hG.hml]; exact hn) (congrArg (fun z => (i, Value.ref x) :: z) hf) (fun ls2 hl2 => kk hF H locs ls2 hP hS hl2)
theorem rr_astore (hG : bd_OK G cc nL own n fr lo rt) {i : Nat} {x : Nat} (hd : decode cc pc = .ok (.astore i, 2)) (hn : i < nL) (hf : lv.filter (fun q => !(q.1 == i) && !(q.1 + 1 == i && q.2.category == 2)) = lr) (kk : bd_WF G out F σ (pc + 2) ((i, .ref x) :: lr) st) : bd_WF G out F σ pc lv (.ref x :: st) :=
  fun hF H locs ls hP hS hl => lv_astore hG.hx hG.hb hd hl (by rw [hG.hml]; exact hn) (congrArg (fun z => (i, Value.ref x) :: z) hf) (fun ls2 hl2 => kk hF H locs ls2 hP hS hl2)
theorem rr_iinc (hG : bd_OK G cc nL own n fr lo rt) {i : Nat} {c : Int} {x v : Int32} {k : Int32 → Option α} (hd : decode cc pc = .ok (.iinc i c, 3)) (j : Nat) (hj : lv[j]? = some (i, .int x)) (hv : Int32.ofInt c = v) (hn : i < nL) (hf : lv.filter (fun q => !(q.1 == i) && !(q.1 + 1 == i && q.2.category == 2)) = lr) (kk : ∀ z, bd_WF G out (k z) σ (pc + 3) ((i, .int z) :: lr) st) : bd_WF G out (bd_lt (x + v) k) σ pc lv st :=
  fun hF H locs ls hP hS hl => lv_iinc hG.hx hG.hb hd hl hj (by rw [hv]) (by rw [hG.hml]; exact hn) (congrArg (fun z => (i, Value.int (x + v)) :: z) hf) (fun ls2 hl2 => kk _ hF H locs ls2 hP hS hl2)
theorem rr_iadd (hG : bd_OK G cc nL own n fr lo rt) {x y : Int32} {k : Int32 → Option α} (hd : decode cc pc = .ok (.iadd, 1)) (kk : ∀ z, bd_WF G out (k z) σ (pc + 1) lv (.int z :: st)) : bd_WF G out (bd_lt (x + y) k) σ pc lv (.int y :: .int x :: st) :=
  fun hF H locs ls hP hS hl => lv_iadd hG.hx hG.hb hd (kk _ hF H locs ls hP hS hl)
theorem rr_isub (hG : bd_OK G cc nL own n fr lo rt) {x y : Int32} {k : Int32 → Option α} (hd : decode cc pc = .ok (.isub, 1)) (kk : ∀ z, bd_WF G out (k z) σ (pc + 1) lv (.int z :: st)) : bd_WF G out (bd_lt (x - y) k) σ pc lv (.int y :: .int x :: st) :=
  fun hF H locs ls hP hS hl => lv_isub hG.hx hG.hb hd (kk _ hF H locs ls hP hS hl)
theorem rr_imul (hG : bd_OK G cc nL own n fr lo rt) {x y : Int32} {k : Int32 → Option α} (hd : decode cc pc = .ok (.imul, 1)) (kk : ∀ z, bd_WF G out (k z) σ (pc + 1) lv (.int z :: st)) : bd_WF G out (bd_lt (x * y) k) σ pc lv (.int y :: .int x :: st) :=
  fun hF H locs ls hP hS hl => lv_imul hG.hx hG.hb hd (kk _ hF H locs ls hP hS hl)
theorem rr_iand (hG : bd_OK G cc nL own n fr lo rt) {x y : Int32} {k : Int32 → Option α} (hd : decode cc pc = .ok (.iand, 1)) (kk : ∀ z, bd_WF G out (k z) σ (pc + 1) lv (.int z :: st)) : bd_WF G out (bd_lt (x &&& y) k) σ pc lv (.int y :: .int x :: st) :=
  fun hF H locs ls hP hS hl => lv_iand hG.hx hG.hb hd (kk _ hF H locs ls hP hS hl)
theorem rr_ior (hG : bd_OK G cc nL own n fr lo rt) {x y : Int32} {k : Int32 → Option α} (hd : decode cc pc = .ok (.ior, 1)) (kk : ∀ z, bd_WF G out (k z) σ (pc + 1) lv (.int z :: st)) : bd_WF G out (bd_lt (x ||| y) k) σ pc lv (.int y :: .int x :: st) :=
  fun hF H locs ls hP hS hl => lv_ior hG.hx hG.hb hd (kk _ hF H locs ls hP hS hl)
theorem rr_ixor (hG : bd_OK G cc nL own n fr lo rt) {x y : Int32} {k : Int32 → Option α} (hd : decode cc pc = .ok (.ixor, 1)) (kk : ∀ z, bd_WF G out (k z) σ (pc + 1) lv (.int z :: st)) : bd_WF G out (bd_lt (x ^^^ y) k) σ pc lv (.int y :: .int x :: st) :=
  fun hF H locs ls hP hS hl => lv_ixor hG.hx hG.hb hd (kk _ hF H locs ls hP hS hl)
theorem rr_ishl (hG : bd_OK G cc nL own n fr lo rt) {x y : Int32} {k : Int32 → Option α} (hd : decode cc pc = .ok (.ishl, 1)) (kk : ∀ z, bd_WF G out (k z) σ (pc + 1) lv (.int z :: st)) : bd_WF G out (bd_lt (x <<< (y &&& 31)) k) σ pc lv (.int y :: .int x :: st) :=
  fun hF H locs ls hP hS hl => lv_ishl hG.hx hG.hb hd (kk _ hF H locs ls hP hS hl)
theorem rr_ishr (hG : bd_OK G cc nL own n fr lo rt) {x y : Int32} {k : Int32 → Option α} (hd : decode cc pc = .ok (.ishr, 1)) (kk : ∀ z, bd_WF G out (k z) σ (pc + 1) lv (.int z :: st)) : bd_WF G out (bd_lt (x >>> (y &&& 31)) k) σ pc lv (.int y :: .int x :: st) :=
  fun hF H locs ls hP hS hl => lv_ishr hG.hx hG.hb hd (kk _ hF H locs ls hP hS hl)
theorem rr_iushr (hG : bd_OK G cc nL own n fr lo rt) {x y : Int32} {k : Int32 → Option α} (hd : decode cc pc = .ok (.iushr, 1)) (kk : ∀ z, bd_WF G out (k z) σ (pc + 1) lv (.int z :: st)) : bd_WF G out (bd_lt ((x.toUInt32 >>> (y.toUInt32 &&& Int32.toUInt32 31)).toInt32) k) σ pc lv (.int y :: .int x :: st) :=
  fun hF H locs ls hP hS hl => lv_iushr hG.hx hG.hb hd rfl (kk _ hF H locs ls hP hS hl)
theorem rr_ladd (hG : bd_OK G cc nL own n fr lo rt) {x y : Int64} {k : Int64 → Option α} (hd : decode cc pc = .ok (.ladd, 1)) (kk : ∀ z, bd_WF G out (k z) σ (pc + 1) lv (.long z :: st)) : bd_WF G out (bd_lt (x + y) k) σ pc lv (.long y :: .long x :: st) :=
  fun hF H locs ls hP hS hl => lv_ladd hG.hx hG.hb hd (kk _ hF H locs ls hP hS hl)
theorem rr_lsub (hG : bd_OK G cc nL own n fr lo rt) {x y : Int64} {k : Int64 → Option α} (hd : decode cc pc = .ok (.lsub, 1)) (kk : ∀ z, bd_WF G out (k z) σ (pc + 1) lv (.long z :: st)) : bd_WF G out (bd_lt (x - y) k) σ pc lv (.long y :: .long x :: st) :=
  fun hF H locs ls hP hS hl => lv_lsub hG.hx hG.hb hd (kk _ hF H locs ls hP hS hl)
theorem rr_lmul (hG : bd_OK G cc nL own n fr lo rt) {x y : Int64} {k : Int64 → Option α} (hd : decode cc pc = .ok (.lmul, 1)) (kk : ∀ z, bd_WF G out (k z) σ (pc + 1) lv (.long z :: st)) : bd_WF G out (bd_lt (x * y) k) σ pc lv (.long y :: .long x :: st) :=
  fun hF H locs ls hP hS hl => lv_lmul hG.hx hG.hb hd (kk _ hF H locs ls hP hS hl)
theorem rr_lcmp (hG : bd_OK G cc nL own n fr lo rt) {x y : Int64} {k : Int32 → Option α} (hd : decode cc pc = .ok (.lcmp, 1)) (kk : ∀ z, bd_WF G out (k z) σ (pc + 1) lv (.int z :: st)) : bd_WF G out (bd_lt (lg_cmp x y) k) σ pc lv (.long y :: .long x :: st) :=
  fun hF H locs ls hP hS hl => W.lcmp hG.hx hG.hb hd (kk _ hF H locs ls hP hS hl)
theorem rr_ineg (hG : bd_OK G cc nL own n fr lo rt) {x : Int32} {k : Int32 → Option α} (hd : decode cc pc = .ok (.ineg, 1)) (kk : ∀ z, bd_WF G out (k z) σ (pc + 1) lv (.int z :: st)) : bd_WF G out (bd_lt (-x) k) σ pc lv (.int x :: st) :=
  fun hF H locs ls hP hS hl => lv_ineg hG.hx hG.hb hd (kk _ hF H locs ls hP hS hl)
theorem rr_i2l (hG : bd_OK G cc nL own n fr lo rt) {x : Int32} {k : Int64 → Option α} (hd : decode cc pc = .ok (.i2l, 1)) (kk : ∀ z, bd_WF G out (k z) σ (pc + 1) lv (.long z :: st)) : bd_WF G out (bd_lt (x.toInt64) k) σ pc lv (.int x :: st) :=
  fun hF H locs ls hP hS hl => lv_i2l hG.hx hG.hb hd rfl (kk _ hF H locs ls hP hS hl)
theorem rr_idiv (hG : bd_OK G cc nL own n fr lo rt) {x y : Int32} {k : Int32 → Option α} (hd : decode cc pc = .ok (.idiv, 1)) (kk : ∀ z, bd_WF G out (k z) σ (pc + 1) lv (.int z :: st)) : bd_WF G out (bd_dv x y k) σ pc lv (.int y :: .int x :: st) := by
  intro hF H locs ls hP hS hl
  unfold bd_dv at hF
  split at hF
  · cases hF
  · rename_i hne
    exact lv_idiv hG.hx hG.hb hd hne (kk _ hF H locs ls hP hS hl)
theorem rr_irem (hG : bd_OK G cc nL own n fr lo rt) {x y : Int32} {k : Int32 → Option α} (hd : decode cc pc = .ok (.irem, 1)) (kk : ∀ z, bd_WF G out (k z) σ (pc + 1) lv (.int z :: st)) : bd_WF G out (bd_rm x y k) σ pc lv (.int y :: .int x :: st) := by
  intro hF H locs ls hP hS hl
  unfold bd_rm at hF
  split at hF
  · cases hF
  · rename_i hne
    exact lv_irem hG.hx hG.hb hd hne (kk _ hF H locs ls hP hS hl)
theorem rr_ldiv (hG : bd_OK G cc nL own n fr lo rt) {x y : Int64} {k : Int64 → Option α} (hd : decode cc pc = .ok (.ldiv, 1)) (kk : ∀ z, bd_WF G out (k z) σ (pc + 1) lv (.long z :: st)) : bd_WF G out (bd_dvl x y k) σ pc lv (.long y :: .long x :: st) := by
  intro hF H locs ls hP hS hl
  unfold bd_dvl at hF
  split at hF
  · cases hF
  · rename_i hne
    exact lv_ldiv hG.hx hG.hb hd hne (kk _ hF H locs ls hP hS hl)
theorem rr_lrem (hG : bd_OK G cc nL own n fr lo rt) {x y : Int64} {k : Int64 → Option α} (hd : decode cc pc = .ok (.lrem, 1)) (kk : ∀ z, bd_WF G out (k z) σ (pc + 1) lv (.long z :: st)) : bd_WF G out (bd_rml x y k) σ pc lv (.long y :: .long x :: st) := by
  intro hF H locs ls hP hS hl
  unfold bd_rml at hF
  split at hF
  · cases hF
  · rename_i hne
    exact lv_lrem hG.hx hG.hb hd hne (kk _ hF H locs ls hP hS hl)
theorem rr_dup (hG : bd_OK G cc nL own n fr lo rt) {v : Value} (hd : decode cc pc = .ok (.dup, 1)) (hv : v.category = 1) (kk : bd_WF G out F σ (pc + 1) lv (v :: v :: st)) : bd_WF G out F σ pc lv (v :: st) :=
  fun hF H locs ls hP hS hl => lv_dup hG.hx hG.hb hd hv (kk hF H locs ls hP hS hl)
theorem rr_pop (hG : bd_OK G cc nL own n fr lo rt) {v : Value} (hd : decode cc pc = .ok (.pop, 1)) (hv : v.category = 1) (kk : bd_WF G out F σ (pc + 1) lv st) : bd_WF G out F σ pc lv (v :: st) :=
  fun hF H locs ls hP hS hl => lv_pop hG.hx hG.hb hd hv (kk hF H locs ls hP hS hl)
theorem rr_dup2 (hG : bd_OK G cc nL own n fr lo rt) {v u : Value} (hd : decode cc pc = .ok (.dup2, 1)) (hv : v.category = 1) (hu : u.category = 1) (kk : bd_WF G out F σ (pc + 1) lv (v :: u :: v :: u :: st)) : bd_WF G out F σ pc lv (v :: u :: st) :=
  fun hF H locs ls hP hS hl => lv_dup2_11 hG.hx hG.hb hd hv hu (kk hF H locs ls hP hS hl)
theorem rr_dup_x1 (hG : bd_OK G cc nL own n fr lo rt) {v u : Value} (hd : decode cc pc = .ok (.dup_x1, 1)) (hv : v.category = 1) (hu : u.category = 1) (kk : bd_WF G out F σ (pc + 1) lv (v :: u :: v :: st)) : bd_WF G out F σ pc lv (v :: u :: st) :=
  fun hF H locs ls hP hS hl => lv_dup_x1 hG.hx hG.hb hd hv hu (kk hF H locs ls hP hS hl)
theorem rr_goto (hG : bd_OK G cc nL own n fr lo rt) {off : Int} {tgt : Nat} (hd : decode cc pc = .ok (.goto off, 3)) (ht : (pc : Int) + off = (tgt : Int)) (kk : bd_WF G out F σ tgt lv st) : bd_WF G out F σ pc lv st :=
  fun hF H locs ls hP hS hl => lv_goto hG.hx hG.hb hd ht (kk hF H locs ls hP hS hl)
theorem rr_if_eq (hG : bd_OK G cc nL own n fr lo rt) {x : Int32} {off : Int} (tgt : Nat) (hd : decode cc pc = .ok (.ifCond .eq off, 3)) (ht : (pc : Int) + off = (tgt : Int)) (k1 : bd_WF G out F1 σ tgt lv st) (k2 : bd_WF G out F2 σ (pc + 3) lv st) : bd_WF G out (if x = 0 then F1 else F2) σ pc lv (.int x :: st) := by
  intro hF H locs ls hP hS hl
  refine lv_if_eq hG.hx hG.hb hd ht (fun q => ?_) (fun q => ?_)
  · rw [if_pos q] at hF; exact k1 hF H locs ls hP hS hl
  · rw [if_neg q] at hF; exact k2 hF H locs ls hP hS hl
theorem rr_if_lt (hG : bd_OK G cc nL own n fr lo rt) {x : Int32} {off : Int} (tgt : Nat) (hd : decode cc pc = .ok (.ifCond .lt off, 3)) (ht : (pc : Int) + off = (tgt : Int)) (k1 : bd_WF G out F1 σ tgt lv st) (k2 : bd_WF G out F2 σ (pc + 3) lv st) : bd_WF G out (if x < 0 then F1 else F2) σ pc lv (.int x :: st) := by
  intro hF H locs ls hP hS hl
  refine lv_if_lt hG.hx hG.hb hd ht (fun q => ?_) (fun q => ?_)
  · rw [if_pos q] at hF; exact k1 hF H locs ls hP hS hl
  · rw [if_neg q] at hF; exact k2 hF H locs ls hP hS hl
theorem rr_if_ge (hG : bd_OK G cc nL own n fr lo rt) {x : Int32} {off : Int} (tgt : Nat) (hd : decode cc pc = .ok (.ifCond .ge off, 3)) (ht : (pc : Int) + off = (tgt : Int)) (k1 : bd_WF G out F1 σ tgt lv st) (k2 : bd_WF G out F2 σ (pc + 3) lv st) : bd_WF G out (if 0 ≤ x then F1 else F2) σ pc lv (.int x :: st) := by
  intro hF H locs ls hP hS hl
  refine lv_if_ge hG.hx hG.hb hd ht (fun q => ?_) (fun q => ?_)
  · rw [if_pos q] at hF; exact k1 hF H locs ls hP hS hl
  · rw [if_neg q] at hF; exact k2 hF H locs ls hP hS hl
theorem rr_if_gt (hG : bd_OK G cc nL own n fr lo rt) {x : Int32} {off : Int} (tgt : Nat) (hd : decode cc pc = .ok (.ifCond .gt off, 3)) (ht : (pc : Int) + off = (tgt : Int)) (k1 : bd_WF G out F1 σ tgt lv st) (k2 : bd_WF G out F2 σ (pc + 3) lv st) : bd_WF G out (if 0 < x then F1 else F2) σ pc lv (.int x :: st) := by
  intro hF H locs ls hP hS hl
  refine lv_if_gt hG.hx hG.hb hd ht (fun q => ?_) (fun q => ?_)
  · rw [if_pos q] at hF; exact k1 hF H locs ls hP hS hl
  · rw [if_neg q] at hF; exact k2 hF H locs ls hP hS hl
theorem rr_if_le (hG : bd_OK G cc nL own n fr lo rt) {x : Int32} {off : Int} (tgt : Nat) (hd : decode cc pc = .ok (.ifCond .le off, 3)) (ht : (pc : Int) + off = (tgt : Int)) (k1 : bd_WF G out F1 σ tgt lv st) (k2 : bd_WF G out F2 σ (pc + 3) lv st) : bd_WF G out (if x ≤ 0 then F1 else F2) σ pc lv (.int x :: st) := by
  intro hF H locs ls hP hS hl
  refine lv_if_le hG.hx hG.hb hd ht (fun q => ?_) (fun q => ?_)
  · rw [if_pos q] at hF; exact k1 hF H locs ls hP hS hl
  · rw [if_neg q] at hF; exact k2 hF H locs ls hP hS hl
theorem rr_icmp_eq (hG : bd_OK G cc nL own n fr lo rt) {x y : Int32} {off : Int} (tgt : Nat) (hd : decode cc pc = .ok (.if_icmp .eq off, 3)) (ht : (pc : Int) + off = (tgt : Int)) (k1 : bd_WF G out F1 σ tgt lv st) (k2 : bd_WF G out F2 σ (pc + 3) lv st) : bd_WF G out (if x = y then F1 else F2) σ pc lv (.int y :: .int x :: st) := by
  intro hF H locs ls hP hS hl
  refine lv_icmp_eq hG.hx hG.hb hd ht (fun q => ?_) (fun q => ?_)
  · rw [if_pos q] at hF; exact k1 hF H locs ls hP hS hl
  · rw [if_neg q] at hF; exact k2 hF H locs ls hP hS hl
theorem rr_icmp_lt (hG : bd_OK G cc nL own n fr lo rt) {x y : Int32} {off : Int} (tgt : Nat) (hd : decode cc pc = .ok (.if_icmp .lt off, 3)) (ht : (pc : Int) + off = (tgt : Int)) (k1 : bd_WF G out F1 σ tgt lv st) (k2 : bd_WF G out F2 σ (pc + 3) lv st) : bd_WF G out (if x < y then F1 else F2) σ pc lv (.int y :: .int x :: st) := by
  intro hF H locs ls hP hS hl
  refine lv_icmp_lt hG.hx hG.hb hd ht (fun q => ?_) (fun q => ?_)
  · rw [if_pos q] at hF; exact k1 hF H locs ls hP hS hl
  · rw [if_neg q] at hF; exact k2 hF H locs ls hP hS hl
theorem rr_icmp_ge (hG : bd_OK G cc nL own n fr lo rt) {x y : Int32} {off : Int} (tgt : Nat) (hd : decode cc pc = .ok (.if_icmp .ge off, 3)) (ht : (pc : Int) + off = (tgt : Int)) (k1 : bd_WF G out F1 σ tgt lv st) (k2 : bd_WF G out F2 σ (pc + 3) lv st) : bd_WF G out (if y ≤ x then F1 else F2) σ pc lv (.int y :: .int x :: st) := by
  intro hF H locs ls hP hS hl
  refine lv_icmp_ge hG.hx hG.hb hd ht (fun q => ?_) (fun q => ?_)
  · rw [if_pos q] at hF; exact k1 hF H locs ls hP hS hl
  · rw [if_neg q] at hF; exact k2 hF H locs ls hP hS hl
theorem rr_icmp_gt (hG : bd_OK G cc nL own n fr lo rt) {x y : Int32} {off : Int} (tgt : Nat) (hd : decode cc pc = .ok (.if_icmp .gt off, 3)) (ht : (pc : Int) + off = (tgt : Int)) (k1 : bd_WF G out F1 σ tgt lv st) (k2 : bd_WF G out F2 σ (pc + 3) lv st) : bd_WF G out (if y < x then F1 else F2) σ pc lv (.int y :: .int x :: st) := by
  intro hF H locs ls hP hS hl
  refine lv_icmp_gt hG.hx hG.hb hd ht (fun q => ?_) (fun q => ?_)
  · rw [if_pos q] at hF; exact k1 hF H locs ls hP hS hl
  · rw [if_neg q] at hF; exact k2 hF H locs ls hP hS hl
theorem rr_icmp_le (hG : bd_OK G cc nL own n fr lo rt) {x y : Int32} {off : Int} (tgt : Nat) (hd : decode cc pc = .ok (.if_icmp .le off, 3)) (ht : (pc : Int) + off = (tgt : Int)) (k1 : bd_WF G out F1 σ tgt lv st) (k2 : bd_WF G out F2 σ (pc + 3) lv st) : bd_WF G out (if x ≤ y then F1 else F2) σ pc lv (.int y :: .int x :: st) := by
  intro hF H locs ls hP hS hl
  refine lv_icmp_le hG.hx hG.hb hd ht (fun q => ?_) (fun q => ?_)
  · rw [if_pos q] at hF; exact k1 hF H locs ls hP hS hl
  · rw [if_neg q] at hF; exact k2 hF H locs ls hP hS hl
theorem rr_if_ne (hG : bd_OK G cc nL own n fr lo rt) {x : Int32} {off : Int} (tgt : Nat) (hd : decode cc pc = .ok (.ifCond .ne off, 3)) (ht : (pc : Int) + off = (tgt : Int)) (k1 : bd_WF G out F1 σ tgt lv st) (k2 : bd_WF G out F2 σ (pc + 3) lv st) : bd_WF G out (if x = 0 then F2 else F1) σ pc lv (.int x :: st) := by
  intro hF H locs ls hP hS hl
  refine lv_if_ne hG.hx hG.hb hd ht (fun q => ?_) (fun q => ?_)
  · rw [if_neg q] at hF; exact k1 hF H locs ls hP hS hl
  · rw [if_pos q] at hF; exact k2 hF H locs ls hP hS hl
theorem rr_icmp_ne (hG : bd_OK G cc nL own n fr lo rt) {x y : Int32} {off : Int} (tgt : Nat) (hd : decode cc pc = .ok (.if_icmp .ne off, 3)) (ht : (pc : Int) + off = (tgt : Int)) (k1 : bd_WF G out F1 σ tgt lv st) (k2 : bd_WF G out F2 σ (pc + 3) lv st) : bd_WF G out (if x = y then F2 else F1) σ pc lv (.int y :: .int x :: st) := by
  intro hF H locs ls hP hS hl
  refine lv_icmp_ne hG.hx hG.hb hd ht (fun q => ?_) (fun q => ?_)
  · rw [if_neg q] at hF; exact k1 hF H locs ls hP hS hl
  · rw [if_pos q] at hF; exact k2 hF H locs ls hP hS hl
theorem rr_sub (ks : List Nat) (h : lv_pick lv ks = lr) (kk : bd_WF G out F σ pc lr st) : bd_WF G out F σ pc lv st := fun hF H locs ls hP hS hl => kk hF H locs ls hP hS (lv_sub hl ks h)
theorem bd_vin {i : Int32} {m : Nat} (h : ¬ (i < 0 ∨ m ≤ i.toNatClampNeg)) : vp_in i m := h
theorem bd_lN {E : bd_E} {n r : Nat} (h : bd_ok E n) (hr : r < n) : r < bd_N E := Nat.lt_of_lt_of_le hr h.2.2.1
theorem rr_iald (hG : bd_OK G cc nL own n fr lo rt) {r m : Nat} {i : Int32} {k : Int32 → Option α} (hk : bd_kd r = (4, m)) (hr : r < n) (hd : decode cc pc = .ok (.iaload, 1)) (kk : ∀ z, bd_WF G out (k z) σ (pc + 1) lv (.int z :: st)) : bd_WF G out (bd_rd σ r i m k) σ pc lv (.int i :: .ref (bd_ad (g_E G) r) :: st) := by
  intro hF H locs ls hP hS hl
  unfold bd_rd at hF
  split at hF
  · cases hF
  · rename_i hin
    exact va_iald hG.hx hG.hb hG.hK hP r 0 (bd_w_at _ σ (bd_lN hG.hE hr) hk) rfl (bd_vin hin) hd (kk _ hF H locs ls hP hS hl)
theorem rr_zald (hG : bd_OK G cc nL own n fr lo rt) {r m : Nat} {i : Int32} {k : Int32 → Option α} (hk : bd_kd r = (5, m)) (hr : r < n) (hd : decode cc pc = .ok (.baload, 1)) (kk : ∀ z, bd_WF G out (k z) σ (pc + 1) lv (.int z :: st)) : bd_WF G out (bd_rd σ r i m k) σ pc lv (.int i :: .ref (bd_ad (g_E G) r) :: st) := by
  intro hF H locs ls hP hS hl
  unfold bd_rd at hF
  split at hF
  · cases hF
  · rename_i hin
    exact va_zald hG.hx hG.hb hG.hK hP r 1 (bd_w_at _ σ (bd_lN hG.hE hr) hk) rfl (bd_vin hin) hd (kk _ hF H locs ls hP hS hl)
theorem rr_iast (hG : bd_OK G cc nL own n fr lo rt) {r m : Nat} {i x : Int32} {k : bd_S → Option α} (hk : bd_kd r = (4, m)) (hr : r < n) (hd : decode cc pc = .ok (.iastore, 1)) (kk : ∀ z : bd_S, bd_WF G out (k z) z (pc + 1) lv st) : bd_WF G out (bd_wr σ r i m x k) σ pc lv (.int x :: .int i :: .ref (bd_ad (g_E G) r) :: st) := by
  intro hF H locs ls hP hS hl
  unfold bd_wr at hF
  split at hF
  · cases hF
  · rename_i hin
    have hrN := bd_lN hG.hE hr
    refine va_iast hG.hx hG.hb hG.hK hP (hG.hE.dis σ) hS r 0 (bd_w_at _ σ hrN hk) rfl (bd_vin hin) hd (fun H1 locs1 hP1 _ hS1 => ?_)
    refine kk _ hF H1 locs1 ls ?_ hS1 hl
    have he := bd_w_set (g_E G) σ (upd (σ r) i.toNatClampNeg x) hrN
    have hc : bd_cell (g_E G) (bd_sr σ r (upd (σ r) i.toNatClampNeg x)) r = bd_ce (g_E G) (upd (σ r) i.toNatClampNeg x) r (4, m) := by
      unfold bd_cell
      rw [bd_sr_self, hk]
    rw [hc] at he
    unfold bd_st
    rw [← he]
    exact hP1
theorem rr_zast (hG : bd_OK G cc nL own n fr lo rt) {r m : Nat} {i x : Int32} {k : bd_S → Option α} (hk : bd_kd r = (5, m)) (hr : r < n) (hd : decode cc pc = .ok (.bastore, 1)) (kk : ∀ z : bd_S, bd_WF G out (k z) z (pc + 1) lv st) : bd_WF G out (bd_wr σ r i m (vp_nar .boolean x) k) σ pc lv (.int x :: .int i :: .ref (bd_ad (g_E G) r) :: st) := by
  intro hF H locs ls hP hS hl
  unfold bd_wr at hF
  split at hF
  · cases hF
  · rename_i hin
    have hrN := bd_lN hG.hE hr
    refine va_zast hG.hx hG.hb hG.hK hP (hG.hE.dis σ) hS r 1 (bd_w_at _ σ hrN hk) rfl (bd_vin hin) hd (fun H1 locs1 hP1 _ hS1 => ?_)
    refine kk _ hF H1 locs1 ls ?_ hS1 hl
    have he := bd_w_set (g_E G) σ (upd (σ r) i.toNatClampNeg (vp_nar .boolean x)) hrN
    have hc : bd_cell (g_E G) (bd_sr σ r (upd (σ r) i.toNatClampNeg (vp_nar .boolean x))) r = bd_ce (g_E G) (upd (σ r) i.toNatClampNeg (vp_nar .boolean x)) r (5, m) := by
      unfold bd_cell
      rw [bd_sr_self, hk]
    rw [hc] at he
    unfold bd_st
    rw [← he]
    exact hP1
theorem rr_aald (hG : bd_OK G cc nL own n fr lo rt) {i : Int32} {k : Nat → Option α} (hn : 54 < n) (hd : decode cc pc = .ok (.aaload, 1)) (kk : ∀ r, bd_isS r → bd_WF G out (k r) σ (pc + 1) lv (.ref (bd_ad (g_E G) r) :: st)) : bd_WF G out (bd_rs i k) σ pc lv (.int i :: .ref (bd_ad (g_E G) 14) :: st) := by
  intro hF H locs ls hP hS hl
  unfold bd_rs at hF
  split at hF
  · cases hF
  · rename_i hin
    have hlt : i.toNatClampNeg < 4 := Nat.not_le.mp fun q => hin (Or.inr q)
    have hnS : bd_nS (g_E G) = 4 := hG.hE.2.2.2 (by omega)
    refine va_aldq hG.hx hG.hb hG.hK hP 14 2 (C := "BallDrops$Ship") (n := 4) (f := fun j => if j < bd_nS (g_E G) then some (bd_ad (g_E G) (19 + 9 * j)) else none) (bd_w_at _ σ (bd_lN hG.hE (by omega)) (k := (6, 4)) rfl) rfl (bd_vin hin) hd ?_
    have e : va_rf ((fun j => if j < bd_nS (g_E G) then some (bd_ad (g_E G) (19 + 9 * j)) else none) i.toNatClampNeg) = .ref (bd_ad (g_E G) (19 + 9 * i.toNatClampNeg)) := by
      show va_rf (if i.toNatClampNeg < bd_nS (g_E G) then some (bd_ad (g_E G) (19 + 9 * i.toNatClampNeg)) else none) = _
      rw [if_pos (by rw [hnS]; exact hlt)]
      rfl
    rw [e]
    exact kk _ (by unfold bd_isS; omega) hF H locs ls hP hS hl
theorem rr_get (hG : bd_OK G cc nL own n fr lo rt) {r ci idx : Nat} {C ref : String} {T : u_T} {N : Nat} {v : Value} (hk : bd_kd r = (ci, 0)) (hr : r < n) (hc : vwCl[ci]? = some (C, T, N)) (hci : ci < 4) (hin : ∀ w ∈ u_ws C T N, bd_in w) (k : Nat) (hkN : k < N) (hl9 : bd_in (.fieldLink own idx ref (T k).2.1 (T k).2.2.1)) (href : (T k).1 = ref) (hv : (bd_fs (g_E G) (σ r) r ci)[k]? = some v) (hd : decode cc pc = .ok (.getfield idx, 3)) (kk : bd_WF G out F σ (pc + 3) lv (v :: st)) : bd_WF G out F σ pc lv (.ref (bd_ad (g_E G) r) :: st) := by
  intro hF H locs ls hP hS hl
  have he : (bd_w (g_E G) σ)[r]? = some (bd_ad (g_E G) r, .inr (ci, bd_fs (g_E G) (σ r) r ci)) := by
    rw [bd_w_at _ σ (bd_lN hG.hE hr) hk]
    unfold bd_ce
    rw [if_neg (by simp only; omega), if_neg (by simp only; omega), if_neg (by simp only; omega)]
  subst href
  exact va_get hG.hx hG.hb (Ts := u_ws C T N) (fun w hw => hG.hT.at (hin w hw) _) (fun _ h => h) hG.hown hG.hK hP r he hc k hkN (hG.hT.at hl9 _) (fun _ h => h) hv hd (kk hF H locs ls hP hS hl)
theorem rr_getN (hG : bd_OK G cc nL own n fr lo rt) {r ci idx : Nat} {C ref host : String} {T : u_T} {N : Nat} {v : Value} (hk : bd_kd r = (ci, 0)) (hr : r < n) (hc : vwCl[ci]? = some (C, T, N)) (hci : ci < 4) (hin : ∀ w ∈ u_ws C T N, bd_in w) (k : Nat) (hkN : k < N) (hl9 : bd_inN (.fieldLinkNest own idx ref (T k).2.1 (T k).2.2.1 host)) (href : (T k).1 = ref) (hv : (bd_fs (g_E G) (σ r) r ci)[k]? = some v) (hd : decode cc pc = .ok (.getfield idx, 3)) (kk : bd_WF G out F σ (pc + 3) lv (v :: st)) : bd_WF G out F σ pc lv (.ref (bd_ad (g_E G) r) :: st) := by
  intro hF H locs ls hP hS hl
  have he : (bd_w (g_E G) σ)[r]? = some (bd_ad (g_E G) r, .inr (ci, bd_fs (g_E G) (σ r) r ci)) := by
    rw [bd_w_at _ σ (bd_lN hG.hE hr) hk]
    unfold bd_ce
    rw [if_neg (by simp only; omega), if_neg (by simp only; omega), if_neg (by simp only; omega)]
  subst href
  exact va_getN hG.hx hG.hb (Ts := u_ws C T N) (fun w hw => hG.hT.at (hin w hw) _) (fun _ h => h) hG.hown hG.hK hP r he hc k hkN (hG.hN.at hl9 _) (fun _ h => h) hv hd (kk hF H locs ls hP hS hl)
theorem rr_put (hG : bd_OK G cc nL own n fr lo rt) {r ci idx : Nat} {C ref : String} {T : u_T} {N : Nat} {x : Int32} {κ : bd_S → Option α} {ty0 : Nat → FieldType} {ty : FieldType} (hk : bd_kd r = (ci, 0)) (hr : r < n) (hc : vwCl[ci]? = some (C, T, N)) (hci : ci < 4) (hin : ∀ w ∈ u_ws C T N, bd_in w) (hty : ∀ k, k < N → parseFieldDescriptor (T k).2.2.1 = some (ty0 k)) (hnm : ∀ a, a < N → ∀ b, b < N → a ≠ b → (T a).2.1 ≠ (T b).2.1) (k : Nat) (hkN : k < N) (hl9 : bd_in (.fieldLink own idx ref (T k).2.1 (T k).2.2.1)) (href : (T k).1 = ref) (hfin : (T k).2.2.2 = false) (hd0 : parseFieldDescriptor (T k).2.2.1 = some ty) (hnw : narrow ty (.int x) = .int x) (hft : fits ty (.int x) = true) (hlen : ∀ f, k < (bd_fs (g_E G) f r ci).length) (hset : ∀ f, (bd_fs (g_E G) f r ci).set k (.int x) = bd_fs (g_E G) (upd f k x) r ci) (hd : decode cc pc = .ok (.putfield idx, 3)) (kk : ∀ z : bd_S, bd_WF G out (κ z) z (pc + 3) lv st) : bd_WF G out (bd_lt (bd_st σ r k x) κ) σ pc lv (.int x :: .ref (bd_ad (g_E G) r) :: st) := by
  intro hF H locs ls hP hS hl
  have hrN := bd_lN hG.hE hr
  have hce : ∀ f, bd_ce (g_E G) f r (ci, 0) = .inr (ci, bd_fs (g_E G) f r ci) := fun f => by
    unfold bd_ce
    rw [if_neg (by simp only; omega), if_neg (by simp only; omega), if_neg (by simp only; omega)]
  have he : (bd_w (g_E G) σ)[r]? = some (bd_ad (g_E G) r, .inr (ci, bd_fs (g_E G) (σ r) r ci)) := by
    rw [bd_w_at _ σ hrN hk, hce]
  subst href
  refine va_put hG.hx hG.hb (Ts := u_ws C T N) (fun w hw => hG.hT.at (hin w hw) _) (fun _ h => h) ty0 hty hnm hG.hown hG.hK hP (hG.hE.dis σ) hS r he hc k hkN (hG.hT.at hl9 _) (fun _ h => h) hfin hd0 hnw hft (hlen _) hd (fun H1 locs1 hP1 _ hS1 => ?_)
  refine kk _ hF H1 locs1 ls ?_ hS1 hl
  have h5 := bd_w_set (g_E G) σ (upd (σ r) k x) hrN
  have h6 : bd_cell (g_E G) (bd_sr σ r (upd (σ r) k x)) r = .inr (ci, (bd_fs (g_E G) (σ r) r ci).set k (.int x)) := by
    unfold bd_cell
    rw [bd_sr_self, hk, hce, hset]
  rw [h6] at h5
  unfold bd_st
  rw [← h5]
  exact hP1
theorem rr_putN (hG : bd_OK G cc nL own n fr lo rt) {r ci idx : Nat} {C ref host : String} {T : u_T} {N : Nat} {x : Int32} {κ : bd_S → Option α} {ty0 : Nat → FieldType} {ty : FieldType} (hk : bd_kd r = (ci, 0)) (hr : r < n) (hc : vwCl[ci]? = some (C, T, N)) (hci : ci < 4) (hin : ∀ w ∈ u_ws C T N, bd_in w) (hty : ∀ k, k < N → parseFieldDescriptor (T k).2.2.1 = some (ty0 k)) (hnm : ∀ a, a < N → ∀ b, b < N → a ≠ b → (T a).2.1 ≠ (T b).2.1) (k : Nat) (hkN : k < N) (hl9 : bd_inN (.fieldLinkNest own idx ref (T k).2.1 (T k).2.2.1 host)) (href : (T k).1 = ref) (hfin : (T k).2.2.2 = false) (hd0 : parseFieldDescriptor (T k).2.2.1 = some ty) (hnw : narrow ty (.int x) = .int x) (hft : fits ty (.int x) = true) (hlen : ∀ f, k < (bd_fs (g_E G) f r ci).length) (hset : ∀ f, (bd_fs (g_E G) f r ci).set k (.int x) = bd_fs (g_E G) (upd f k x) r ci) (hd : decode cc pc = .ok (.putfield idx, 3)) (kk : ∀ z : bd_S, bd_WF G out (κ z) z (pc + 3) lv st) : bd_WF G out (bd_lt (bd_st σ r k x) κ) σ pc lv (.int x :: .ref (bd_ad (g_E G) r) :: st) := by
  intro hF H locs ls hP hS hl
  have hrN := bd_lN hG.hE hr
  have hce : ∀ f, bd_ce (g_E G) f r (ci, 0) = .inr (ci, bd_fs (g_E G) f r ci) := fun f => by
    unfold bd_ce
    rw [if_neg (by simp only; omega), if_neg (by simp only; omega), if_neg (by simp only; omega)]
  have he : (bd_w (g_E G) σ)[r]? = some (bd_ad (g_E G) r, .inr (ci, bd_fs (g_E G) (σ r) r ci)) := by
    rw [bd_w_at _ σ hrN hk, hce]
  subst href
  refine va_putN hG.hx hG.hb (Ts := u_ws C T N) (fun w hw => hG.hT.at (hin w hw) _) (fun _ h => h) ty0 hty hnm hG.hown hG.hK hP (hG.hE.dis σ) hS r he hc k hkN (hG.hN.at hl9 _) (fun _ h => h) hfin hd0 hnw hft (hlen _) hd (fun H1 locs1 hP1 _ hS1 => ?_)
  refine kk _ hF H1 locs1 ls ?_ hS1 hl
  have h5 := bd_w_set (g_E G) σ (upd (σ r) k x) hrN
  have h6 : bd_cell (g_E G) (bd_sr σ r (upd (σ r) k x)) r = .inr (ci, (bd_fs (g_E G) (σ r) r ci).set k (.int x)) := by
    unfold bd_cell
    rw [bd_sr_self, hk, hce, hset]
  rw [h6] at h5
  unfold bd_st
  rw [← h5]
  exact hP1
theorem rr_iret (hG : bd_OK G cc nL own n fr lo (some .int)) {o : Int32 × bd_S} {v : Int32} (ho : bd_ends bd_Qi G o) (hd : decode cc pc = .ok (.ireturn, 1)) : bd_WF G o (some (v, σ)) σ pc lv [.int v] := by
  intro hF H locs ls hP hS hl
  cases hF
  rw [ho]
  exact W.iret hG.hx hG.hb hG.hr (fun t ht hW => ⟨⟨v, (), rfl, rfl, by subst ht; exact hP⟩, hS.F ht⟩) hS.2.2 hd hG.hlk
theorem rr_zret (hG : bd_OK G cc nL own n fr lo (some .boolean)) {o : Int32 × bd_S} {v : Int32} (ho : bd_ends bd_Qi G o) (hd : decode cc pc = .ok (.ireturn, 1)) : bd_WF G o (bd_zr v σ) σ pc lv [.int v] := by
  intro hF H locs ls hP hS hl
  unfold bd_zr at hF
  split at hF
  · rename_i hv
    cases hF
    rw [ho]
    refine W.zret hG.hx hG.hb hG.hr ?_ (fun t ht hW => ⟨⟨v, (), rfl, rfl, by subst ht; exact hP⟩, hS.F ht⟩) hS.2.2 hd hG.hlk
    rcases hv with rfl | rfl <;> decide
  · cases hF
theorem rr_lret (hG : bd_OK G cc nL own n fr lo (some .long)) {o : Int64 × bd_S} {v : Int64} (ho : bd_ends bd_Ql G o) (hd : decode cc pc = .ok (.lreturn, 1)) : bd_WF G o (some (v, σ)) σ pc lv [.long v] := by
  intro hF H locs ls hP hS hl
  cases hF
  rw [ho]
  exact W.lret hG.hx hG.hb hG.hr (fun t ht hW => ⟨⟨v, (), rfl, rfl, by subst ht; exact hP⟩, hS.F ht⟩) hS.2.2 hd hG.hlk
theorem rr_vret (hG : bd_OK G cc nL own n fr lo none) {o : Unit × bd_S} (ho : bd_ends bd_Qv G o) (hd : decode cc pc = .ok (.return_, 1)) : bd_WF G o (some ((), σ)) σ pc lv [] := by
  intro hF H locs ls hP hS hl
  cases hF
  rw [ho]
  exact W.vret hG.hx hG.hb hG.hr (fun t ht hW => ⟨⟨(), rfl, trivial, by subst ht; exact hP⟩, hS.F ht⟩) hS.2.2 hd hG.hlk
theorem rr_mmax (hG : bd_OK G cc nL own n fr lo rt) {x y : Int32} {idx : Nat} {k : Int32 → Option α} (h1 : bd_in (.methodLink own idx Lib.Math.max.name)) (h2 : bd_in (.static Lib.Math.max.name)) (h3 : bd_in (.initialized "java/lang/Math")) (h4 : bd_in (.code Lib.Math.max.name Lib.Math.max.code 2 (some .int))) (hfr : 1 ≤ fr) (hlo : (st.map fun v => v.category).sum + 13 ≤ lo) (hd : decode cc pc = .ok (.invokestatic idx, 3)) (kk : ∀ z, bd_WF G out (k z) σ (pc + 3) lv (.int z :: st)) : bd_WF G out (bd_lt (if x < y then y else x) k) σ pc lv (.int y :: .int x :: st) :=
  fun hF H locs ls hP hS hl => va_mmax hG.hx hG.hb hl.1.symm hG.hown (hG.hT.at h1 _) (hG.hT.at h2 _) (hG.hT.at h3 _) (hG.hT.at h4 _) (Nat.le_trans hfr hG.hfr) (Nat.le_trans hlo hG.hlo) hG.hk hG.hn hd (kk _ hF H locs ls hP hS hl)
theorem rr_mmin (hG : bd_OK G cc nL own n fr lo rt) {x y : Int32} {idx : Nat} {k : Int32 → Option α} (h1 : bd_in (.methodLink own idx Lib.Math.min.name)) (h2 : bd_in (.static Lib.Math.min.name)) (h3 : bd_in (.initialized "java/lang/Math")) (h4 : bd_in (.code Lib.Math.min.name Lib.Math.min.code 2 (some .int))) (hfr : 1 ≤ fr) (hlo : (st.map fun v => v.category).sum + 13 ≤ lo) (hd : decode cc pc = .ok (.invokestatic idx, 3)) (kk : ∀ z, bd_WF G out (k z) σ (pc + 3) lv (.int z :: st)) : bd_WF G out (bd_lt (if y < x then y else x) k) σ pc lv (.int y :: .int x :: st) :=
  fun hF H locs ls hP hS hl => va_mmin hG.hx hG.hb hl.1.symm hG.hown (hG.hT.at h1 _) (hG.hT.at h2 _) (hG.hT.at h3 _) (hG.hT.at h4 _) (Nat.le_trans hfr hG.hfr) (Nat.le_trans hlo hG.hlo) hG.hk hG.hn hd (kk _ hF H locs ls hP hS hl)
def bd_lk (own : String) (idx : Nat) (y : MethodName) (bytes : ByteArray) (mL : Nat) (ret : Option FieldType) (nr : Nat) : Prop := bd_in (.code y bytes mL ret) ∧ bd_in (.initialized y.cls) ∧ bd_in (.methodLink own idx y) ∧ (y.cls ≠ "java/lang/invoke/MethodHandle" ∧ y.cls ≠ "java/lang/invoke/VarHandle") ∧ (parseMethodDescriptor y.desc).map (fun d => d.parameters.length) = some nr
def bd_lkN (own : String) (idx : Nat) (y : MethodName) (host : String) (bytes : ByteArray) (mL : Nat) (ret : Option FieldType) (nr : Nat) : Prop := bd_in (.code y bytes mL ret) ∧ bd_in (.initialized y.cls) ∧ bd_inN (.methodLinkNest own idx y host) ∧ (y.cls ≠ "java/lang/invoke/MethodHandle" ∧ y.cls ≠ "java/lang/invoke/VarHandle") ∧ (parseMethodDescriptor y.desc).map (fun d => d.parameters.length) = some nr
theorem bd_callB {idx nr mL fr1 lo1 : Nat} {y : MethodName} {bytes : ByteArray} {ret : Option FieldType} (hG : bd_OK G cc nL own n fr lo rt) (h : bd_lk own idx y bytes mL ret nr) (hf : fr1 + 1 ≤ fr) (hl : 8 + (mL + 11) + lo1 ≤ lo) : CallB (g_R G) (g_s G) (g_a G) own idx y bytes mL ret [.code y bytes mL ret] { frames := fr1, cells := 0, slots := 0, locals := lo1 } 0 0 nr := by
  obtain ⟨h1, h2, h3, h4, h5⟩ := h
  refine ⟨rfl, rfl, Nat.le_trans hf hG.hfr, Nat.le_trans hl hG.hlo, fun w hw a U hW => ?_, List.mem_singleton.mpr rfl, hG.hT.at h1 _, hG.hT.at h2 _, h4, fun sig hs => ?_, hG.hT.at h3 _⟩
  · rw [List.mem_singleton.mp hw]
    exact (hG.hT.warm hW).at h1 a
  · rw [hs] at h5
    exact (Option.some.inj h5).symm
theorem bd_callN {idx nr mL fr1 lo1 : Nat} {y : MethodName} {host : String} {bytes : ByteArray} {ret : Option FieldType} (hG : bd_OK G cc nL own n fr lo rt) (h : bd_lkN own idx y host bytes mL ret nr) (hf : fr1 + 1 ≤ fr) (hl : 8 + (mL + 11) + lo1 ≤ lo) : va_CN (g_R G) (g_s G) (g_a G) own idx y host bytes mL ret [.code y bytes mL ret] { frames := fr1, cells := 0, slots := 0, locals := lo1 } 0 0 nr := by
  obtain ⟨h1, h2, h3, h4, h5⟩ := h
  refine ⟨⟨rfl, rfl, Nat.le_trans hf hG.hfr, Nat.le_trans hl hG.hlo, fun w hw a U hW => ?_, List.mem_singleton.mpr rfl⟩, hG.hT.at h1 _, hG.hT.at h2 _, h4, fun sig hs => ?_, hG.hN.at h3 _⟩
  · rw [List.mem_singleton.mp hw]
    exact (hG.hT.warm hW).at h1 a
  · rw [hs] at h5
    exact (Option.some.inj h5).symm
theorem bd_recv {r ci : Nat} {q : vw_C} {H : Heap} (hG : bd_OK G cc nL own n fr lo rt) (hk : bd_kd r = (ci, 0)) (hr : r < n) (hci : ci < 4) (hc : vwCl[ci]? = some q) (hP : va_P (bd_D (g_E G)) vwCl (bd_w (g_E G) σ) H) : ∃ cell : Cell, H[bd_ad (g_E G) r]? = some cell ∧ cell.vm.isStatics = false ∧ (g_s G).vm.findClass q.1 = some cell.cls := by
  refine va_recv hG.hK hP (ci := ci) (q0 := r) (fs := bd_fs (g_E G) (σ r) r ci) hc ?_
  rw [bd_w_at _ σ (bd_lN hG.hE hr) hk]
  unfold bd_ce
  rw [if_neg (by simp only; omega), if_neg (by simp only; omega), if_neg (by simp only; omega)]
theorem bd_pre {H : Heap} {av : List Value} (hG : bd_OK G cc nL own n fr lo rt) (hP : va_P (bd_D (g_E G)) vwCl (bd_w (g_E G) σ) H) : ∀ U : State, U.heap = H → (g_s G).WarmedH U.vm → bd_Pre (g_E G) av σ av.toArray U :=
  fun U hU hW => ⟨rfl, by rw [hU]; exact hP, va_K.moved hW.alike hG.hK, hG.hT.warm hW, hG.hN.warm hW⟩
theorem rr_cVi (hG : bd_OK G cc nL own n fr lo rt) {r0 ci idx nr mL fr1 lo1 : Nat} {q : vw_C} {y : MethodName} {bytes : ByteArray} {ret : Option FieldType} {f : Option (Int32 × bd_S)} {k : Int32 → bd_S → Option α} {rest : List Value} (As : List Value) (hM : bd_M bd_Qi (g_l G) y bytes mL ret fr1 lo1 (g_E G) (.ref (bd_ad (g_E G) r0) :: As) σ f) (hlk : bd_lk own idx y bytes mL ret nr) (hi : bd_in (.instanceMethod y)) (hse : bd_in (.selects y.cls y y)) (hk : bd_kd r0 = (ci, 0)) (hr0 : r0 < n) (hci : ci < 4) (hq : vwCl[ci]? = some q) (hqy : q.1 = y.cls) (hf : fr1 + 1 ≤ fr) (hlo : 8 + (mL + 11) + lo1 ≤ lo) (hn : As.length = nr) (hst : st = As.reverse ++ .ref (bd_ad (g_E G) r0) :: rest) (hw : (rest.map fun v => v.category).sum ≤ 8) (hd : decode cc pc = .ok (.invokevirtual idx, 3)) (kk : ∀ (r : Int32) (z : bd_S), bd_WF G out (k r z) z (pc + 3) lv (.int r :: rest)) : bd_WF G out (bd_b f k) σ pc lv st := by
  intro hF H locs ls hP hS hl
  obtain ⟨r1, σ1, hf1, hk1⟩ := bd_b_some hF
  subst hst
  have hrun := va_runV (C := y.cls) (e := g_e G) (below := g_b G) (meth := g_M G) (H := H) (locs := locs) (cells := g_k G) (slots := g_n G) (g := F0 (g_m G) pc ls (As.reverse ++ .ref (bd_ad (g_E G) r0) :: rest)) (rest := rest) (As := As) (nL := nL) (Ts := []) ⟨hG.hx, hG.hb, hG.hml, hG.hown, fun _ h => absurd h List.not_mem_nil⟩ (hM _ hf1) ⟨(bd_callB hG hlk hf hlo), hG.hT.at hi _, hG.hT.at hse _⟩ ⟨bd_Pre.blind _ _ _, by rw [← hqy]; exact bd_recv hG hk hr0 hci hq hP, bd_pre hG hP⟩ rfl hn (by rw [← hG.hml]; exact hl.1) rfl (lv_room hw) hd ⟨hG.hk, hG.hn⟩
  refine va_calli hrun hS (fun _ _ h => h) (fun _ h => h) (fun r u t H1 locs1 ht _ hw1 hB _ _ hS1 => ?_)
  have hw2 : r = r1 := hw1
  have hB2 : va_P (bd_D (g_E G)) vwCl (bd_w (g_E G) σ1) H1 := by
    subst ht
    exact hB
  rw [hw2]
  exact kk r1 σ1 hk1 H1 locs1 ls hB2 hS1 hl
theorem rr_cVl (hG : bd_OK G cc nL own n fr lo rt) {r0 ci idx nr mL fr1 lo1 : Nat} {q : vw_C} {y : MethodName} {bytes : ByteArray} {ret : Option FieldType} {f : Option (Int64 × bd_S)} {k : Int64 → bd_S → Option α} {rest : List Value} (As : List Value) (hM : bd_M bd_Ql (g_l G) y bytes mL ret fr1 lo1 (g_E G) (.ref (bd_ad (g_E G) r0) :: As) σ f) (hlk : bd_lk own idx y bytes mL ret nr) (hi : bd_in (.instanceMethod y)) (hse : bd_in (.selects y.cls y y)) (hk : bd_kd r0 = (ci, 0)) (hr0 : r0 < n) (hci : ci < 4) (hq : vwCl[ci]? = some q) (hqy : q.1 = y.cls) (hf : fr1 + 1 ≤ fr) (hlo : 8 + (mL + 11) + lo1 ≤ lo) (hn : As.length = nr) (hst : st = As.reverse ++ .ref (bd_ad (g_E G) r0) :: rest) (hw : (rest.map fun v => v.category).sum ≤ 8) (hd : decode cc pc = .ok (.invokevirtual idx, 3)) (kk : ∀ (r : Int64) (z : bd_S), bd_WF G out (k r z) z (pc + 3) lv (.long r :: rest)) : bd_WF G out (bd_b f k) σ pc lv st := by
  intro hF H locs ls hP hS hl
  obtain ⟨r1, σ1, hf1, hk1⟩ := bd_b_some hF
  subst hst
  have hrun := va_runV (C := y.cls) (e := g_e G) (below := g_b G) (meth := g_M G) (H := H) (locs := locs) (cells := g_k G) (slots := g_n G) (g := F0 (g_m G) pc ls (As.reverse ++ .ref (bd_ad (g_E G) r0) :: rest)) (rest := rest) (As := As) (nL := nL) (Ts := []) ⟨hG.hx, hG.hb, hG.hml, hG.hown, fun _ h => absurd h List.not_mem_nil⟩ (hM _ hf1) ⟨(bd_callB hG hlk hf hlo), hG.hT.at hi _, hG.hT.at hse _⟩ ⟨bd_Pre.blind _ _ _, by rw [← hqy]; exact bd_recv hG hk hr0 hci hq hP, bd_pre hG hP⟩ rfl hn (by rw [← hG.hml]; exact hl.1) rfl (lv_room hw) hd ⟨hG.hk, hG.hn⟩
  refine va_calll hrun hS (fun _ _ h => h) (fun _ h => h) (fun r u t H1 locs1 ht _ hw1 hB _ _ hS1 => ?_)
  have hw2 : r = r1 := hw1
  have hB2 : va_P (bd_D (g_E G)) vwCl (bd_w (g_E G) σ1) H1 := by
    subst ht
    exact hB
  rw [hw2]
  exact kk r1 σ1 hk1 H1 locs1 ls hB2 hS1 hl
theorem rr_cVv (hG : bd_OK G cc nL own n fr lo rt) {r0 ci idx nr mL fr1 lo1 : Nat} {q : vw_C} {y : MethodName} {bytes : ByteArray} {ret : Option FieldType} {f : Option (Unit × bd_S)} {k : Unit → bd_S → Option α} {rest : List Value} (As : List Value) (hM : bd_M bd_Qv (g_l G) y bytes mL ret fr1 lo1 (g_E G) (.ref (bd_ad (g_E G) r0) :: As) σ f) (hlk : bd_lk own idx y bytes mL ret nr) (hi : bd_in (.instanceMethod y)) (hse : bd_in (.selects y.cls y y)) (hk : bd_kd r0 = (ci, 0)) (hr0 : r0 < n) (hci : ci < 4) (hq : vwCl[ci]? = some q) (hqy : q.1 = y.cls) (hf : fr1 + 1 ≤ fr) (hlo : 8 + (mL + 11) + lo1 ≤ lo) (hn : As.length = nr) (hst : st = As.reverse ++ .ref (bd_ad (g_E G) r0) :: rest) (hw : (rest.map fun v => v.category).sum ≤ 8) (hd : decode cc pc = .ok (.invokevirtual idx, 3)) (kk : ∀ (z : bd_S), bd_WF G out (k () z) z (pc + 3) lv rest) : bd_WF G out (bd_b f k) σ pc lv st := by
  intro hF H locs ls hP hS hl
  obtain ⟨r1, σ1, hf1, hk1⟩ := bd_b_some hF
  subst hst
  have hrun := va_runV (C := y.cls) (e := g_e G) (below := g_b G) (meth := g_M G) (H := H) (locs := locs) (cells := g_k G) (slots := g_n G) (g := F0 (g_m G) pc ls (As.reverse ++ .ref (bd_ad (g_E G) r0) :: rest)) (rest := rest) (As := As) (nL := nL) (Ts := []) ⟨hG.hx, hG.hb, hG.hml, hG.hown, fun _ h => absurd h List.not_mem_nil⟩ (hM _ hf1) ⟨(bd_callB hG hlk hf hlo), hG.hT.at hi _, hG.hT.at hse _⟩ ⟨bd_Pre.blind _ _ _, by rw [← hqy]; exact bd_recv hG hk hr0 hci hq hP, bd_pre hG hP⟩ rfl hn (by rw [← hG.hml]; exact hl.1) rfl (lv_room hw) hd ⟨hG.hk, hG.hn⟩
  refine va_callv hrun hS (fun _ _ h => h) (fun _ h => h) (fun u t H1 locs1 ht _ _ hB _ _ hS1 => ?_)
  have hB2 : va_P (bd_D (g_E G)) vwCl (bd_w (g_E G) σ1) H1 := by
    subst ht
    exact hB
  exact kk σ1 hk1 H1 locs1 ls hB2 hS1 hl
theorem rr_cSi (hG : bd_OK G cc nL own n fr lo rt) {idx nr mL fr1 lo1 : Nat} {y : MethodName} {bytes : ByteArray} {ret : Option FieldType} {f : Option (Int32 × bd_S)} {k : Int32 → bd_S → Option α} {rest : List Value} (As : List Value) (hM : bd_M bd_Qi (g_l G) y bytes mL ret fr1 lo1 (g_E G) As σ f) (hlk : bd_lk own idx y bytes mL ret nr) (hi : bd_in (.static y)) (hf : fr1 + 1 ≤ fr) (hlo : 8 + (mL + 11) + lo1 ≤ lo) (hn : As.length = nr) (hst : st = As.reverse ++ rest) (hw : (rest.map fun v => v.category).sum ≤ 8) (hd : decode cc pc = .ok (.invokestatic idx, 3)) (kk : ∀ (r : Int32) (z : bd_S), bd_WF G out (k r z) z (pc + 3) lv (.int r :: rest)) : bd_WF G out (bd_b f k) σ pc lv st := by
  intro hF H locs ls hP hS hl
  obtain ⟨r1, σ1, hf1, hk1⟩ := bd_b_some hF
  subst hst
  have hrun := va_runS (e := g_e G) (below := g_b G) (meth := g_M G) (H := H) (locs := locs) (cells := g_k G) (slots := g_n G) (g := F0 (g_m G) pc ls (As.reverse ++ rest)) (rest := rest) (As := As) (nL := nL) (Ts := []) ⟨hG.hx, hG.hb, hG.hml, hG.hown, fun _ h => absurd h List.not_mem_nil⟩ (hM _ hf1) ⟨(bd_callB hG hlk hf hlo), hG.hT.at hi _⟩ ⟨bd_Pre.blind _ _ _, bd_pre hG hP⟩ rfl hn (by rw [← hG.hml]; exact hl.1) rfl (lv_room hw) hd ⟨hG.hk, hG.hn⟩
  refine va_calli hrun hS (fun _ _ h => h) (fun _ h => h) (fun r u t H1 locs1 ht _ hw1 hB _ _ hS1 => ?_)
  have hw2 : r = r1 := hw1
  have hB2 : va_P (bd_D (g_E G)) vwCl (bd_w (g_E G) σ1) H1 := by
    subst ht
    exact hB
  rw [hw2]
  exact kk r1 σ1 hk1 H1 locs1 ls hB2 hS1 hl
theorem rr_cSl (hG : bd_OK G cc nL own n fr lo rt) {idx nr mL fr1 lo1 : Nat} {y : MethodName} {bytes : ByteArray} {ret : Option FieldType} {f : Option (Int64 × bd_S)} {k : Int64 → bd_S → Option α} {rest : List Value} (As : List Value) (hM : bd_M bd_Ql (g_l G) y bytes mL ret fr1 lo1 (g_E G) As σ f) (hlk : bd_lk own idx y bytes mL ret nr) (hi : bd_in (.static y)) (hf : fr1 + 1 ≤ fr) (hlo : 8 + (mL + 11) + lo1 ≤ lo) (hn : As.length = nr) (hst : st = As.reverse ++ rest) (hw : (rest.map fun v => v.category).sum ≤ 8) (hd : decode cc pc = .ok (.invokestatic idx, 3)) (kk : ∀ (r : Int64) (z : bd_S), bd_WF G out (k r z) z (pc + 3) lv (.long r :: rest)) : bd_WF G out (bd_b f k) σ pc lv st := by
  intro hF H locs ls hP hS hl
  obtain ⟨r1, σ1, hf1, hk1⟩ := bd_b_some hF
  subst hst
  have hrun := va_runS (e := g_e G) (below := g_b G) (meth := g_M G) (H := H) (locs := locs) (cells := g_k G) (slots := g_n G) (g := F0 (g_m G) pc ls (As.reverse ++ rest)) (rest := rest) (As := As) (nL := nL) (Ts := []) ⟨hG.hx, hG.hb, hG.hml, hG.hown, fun _ h => absurd h List.not_mem_nil⟩ (hM _ hf1) ⟨(bd_callB hG hlk hf hlo), hG.hT.at hi _⟩ ⟨bd_Pre.blind _ _ _, bd_pre hG hP⟩ rfl hn (by rw [← hG.hml]; exact hl.1) rfl (lv_room hw) hd ⟨hG.hk, hG.hn⟩
  refine va_calll hrun hS (fun _ _ h => h) (fun _ h => h) (fun r u t H1 locs1 ht _ hw1 hB _ _ hS1 => ?_)
  have hw2 : r = r1 := hw1
  have hB2 : va_P (bd_D (g_E G)) vwCl (bd_w (g_E G) σ1) H1 := by
    subst ht
    exact hB
  rw [hw2]
  exact kk r1 σ1 hk1 H1 locs1 ls hB2 hS1 hl
theorem rr_cSv (hG : bd_OK G cc nL own n fr lo rt) {idx nr mL fr1 lo1 : Nat} {y : MethodName} {bytes : ByteArray} {ret : Option FieldType} {f : Option (Unit × bd_S)} {k : Unit → bd_S → Option α} {rest : List Value} (As : List Value) (hM : bd_M bd_Qv (g_l G) y bytes mL ret fr1 lo1 (g_E G) As σ f) (hlk : bd_lk own idx y bytes mL ret nr) (hi : bd_in (.static y)) (hf : fr1 + 1 ≤ fr) (hlo : 8 + (mL + 11) + lo1 ≤ lo) (hn : As.length = nr) (hst : st = As.reverse ++ rest) (hw : (rest.map fun v => v.category).sum ≤ 8) (hd : decode cc pc = .ok (.invokestatic idx, 3)) (kk : ∀ (z : bd_S), bd_WF G out (k () z) z (pc + 3) lv rest) : bd_WF G out (bd_b f k) σ pc lv st := by
  intro hF H locs ls hP hS hl
  obtain ⟨r1, σ1, hf1, hk1⟩ := bd_b_some hF
  subst hst
  have hrun := va_runS (e := g_e G) (below := g_b G) (meth := g_M G) (H := H) (locs := locs) (cells := g_k G) (slots := g_n G) (g := F0 (g_m G) pc ls (As.reverse ++ rest)) (rest := rest) (As := As) (nL := nL) (Ts := []) ⟨hG.hx, hG.hb, hG.hml, hG.hown, fun _ h => absurd h List.not_mem_nil⟩ (hM _ hf1) ⟨(bd_callB hG hlk hf hlo), hG.hT.at hi _⟩ ⟨bd_Pre.blind _ _ _, bd_pre hG hP⟩ rfl hn (by rw [← hG.hml]; exact hl.1) rfl (lv_room hw) hd ⟨hG.hk, hG.hn⟩
  refine va_callv hrun hS (fun _ _ h => h) (fun _ h => h) (fun u t H1 locs1 ht _ _ hB _ _ hS1 => ?_)
  have hB2 : va_P (bd_D (g_E G)) vwCl (bd_w (g_E G) σ1) H1 := by
    subst ht
    exact hB
  exact kk σ1 hk1 H1 locs1 ls hB2 hS1 hl
theorem rr_cNi (hG : bd_OK G cc nL own n fr lo rt) {r0 ci idx nr mL fr1 lo1 : Nat} {q : vw_C} {y : MethodName} {host : String} {bytes : ByteArray} {ret : Option FieldType} {f : Option (Int32 × bd_S)} {k : Int32 → bd_S → Option α} {rest : List Value} (As : List Value) (hM : bd_M bd_Qi (g_l G) y bytes mL ret fr1 lo1 (g_E G) (.ref (bd_ad (g_E G) r0) :: As) σ f) (hlk : bd_lkN own idx y host bytes mL ret nr) (hi : bd_in (.instanceMethod y)) (hse : bd_in (.selects y.cls y y)) (hk : bd_kd r0 = (ci, 0)) (hr0 : r0 < n) (hci : ci < 4) (hq : vwCl[ci]? = some q) (hqy : q.1 = y.cls) (hf : fr1 + 1 ≤ fr) (hlo : 8 + (mL + 11) + lo1 ≤ lo) (hn : As.length = nr) (hst : st = As.reverse ++ .ref (bd_ad (g_E G) r0) :: rest) (hw : (rest.map fun v => v.category).sum ≤ 8) (hd : decode cc pc = .ok (.invokevirtual idx, 3)) (kk : ∀ (r : Int32) (z : bd_S), bd_WF G out (k r z) z (pc + 3) lv (.int r :: rest)) : bd_WF G out (bd_b f k) σ pc lv st := by
  intro hF H locs ls hP hS hl
  obtain ⟨r1, σ1, hf1, hk1⟩ := bd_b_some hF
  subst hst
  have hrun := va_runVN (C := y.cls) (e := g_e G) (below := g_b G) (meth := g_M G) (H := H) (locs := locs) (cells := g_k G) (slots := g_n G) (g := F0 (g_m G) pc ls (As.reverse ++ .ref (bd_ad (g_E G) r0) :: rest)) (rest := rest) (As := As) (nL := nL) (Ts := []) ⟨hG.hx, hG.hb, hG.hml, hG.hown, fun _ h => absurd h List.not_mem_nil⟩ (hM _ hf1) ⟨(bd_callN hG hlk hf hlo), hG.hT.at hi _, hG.hT.at hse _⟩ ⟨bd_Pre.blind _ _ _, by rw [← hqy]; exact bd_recv hG hk hr0 hci hq hP, bd_pre hG hP⟩ rfl hn (by rw [← hG.hml]; exact hl.1) rfl (lv_room hw) hd ⟨hG.hk, hG.hn⟩
  refine va_calli hrun hS (fun _ _ h => h) (fun _ h => h) (fun r u t H1 locs1 ht _ hw1 hB _ _ hS1 => ?_)
  have hw2 : r = r1 := hw1
  have hB2 : va_P (bd_D (g_E G)) vwCl (bd_w (g_E G) σ1) H1 := by
    subst ht
    exact hB
  rw [hw2]
  exact kk r1 σ1 hk1 H1 locs1 ls hB2 hS1 hl
theorem rr_cNl (hG : bd_OK G cc nL own n fr lo rt) {r0 ci idx nr mL fr1 lo1 : Nat} {q : vw_C} {y : MethodName} {host : String} {bytes : ByteArray} {ret : Option FieldType} {f : Option (Int64 × bd_S)} {k : Int64 → bd_S → Option α} {rest : List Value} (As : List Value) (hM : bd_M bd_Ql (g_l G) y bytes mL ret fr1 lo1 (g_E G) (.ref (bd_ad (g_E G) r0) :: As) σ f) (hlk : bd_lkN own idx y host bytes mL ret nr) (hi : bd_in (.instanceMethod y)) (hse : bd_in (.selects y.cls y y)) (hk : bd_kd r0 = (ci, 0)) (hr0 : r0 < n) (hci : ci < 4) (hq : vwCl[ci]? = some q) (hqy : q.1 = y.cls) (hf : fr1 + 1 ≤ fr) (hlo : 8 + (mL + 11) + lo1 ≤ lo) (hn : As.length = nr) (hst : st = As.reverse ++ .ref (bd_ad (g_E G) r0) :: rest) (hw : (rest.map fun v => v.category).sum ≤ 8) (hd : decode cc pc = .ok (.invokevirtual idx, 3)) (kk : ∀ (r : Int64) (z : bd_S), bd_WF G out (k r z) z (pc + 3) lv (.long r :: rest)) : bd_WF G out (bd_b f k) σ pc lv st := by
  intro hF H locs ls hP hS hl
  obtain ⟨r1, σ1, hf1, hk1⟩ := bd_b_some hF
  subst hst
  have hrun := va_runVN (C := y.cls) (e := g_e G) (below := g_b G) (meth := g_M G) (H := H) (locs := locs) (cells := g_k G) (slots := g_n G) (g := F0 (g_m G) pc ls (As.reverse ++ .ref (bd_ad (g_E G) r0) :: rest)) (rest := rest) (As := As) (nL := nL) (Ts := []) ⟨hG.hx, hG.hb, hG.hml, hG.hown, fun _ h => absurd h List.not_mem_nil⟩ (hM _ hf1) ⟨(bd_callN hG hlk hf hlo), hG.hT.at hi _, hG.hT.at hse _⟩ ⟨bd_Pre.blind _ _ _, by rw [← hqy]; exact bd_recv hG hk hr0 hci hq hP, bd_pre hG hP⟩ rfl hn (by rw [← hG.hml]; exact hl.1) rfl (lv_room hw) hd ⟨hG.hk, hG.hn⟩
  refine va_calll hrun hS (fun _ _ h => h) (fun _ h => h) (fun r u t H1 locs1 ht _ hw1 hB _ _ hS1 => ?_)
  have hw2 : r = r1 := hw1
  have hB2 : va_P (bd_D (g_E G)) vwCl (bd_w (g_E G) σ1) H1 := by
    subst ht
    exact hB
  rw [hw2]
  exact kk r1 σ1 hk1 H1 locs1 ls hB2 hS1 hl
theorem rr_cNv (hG : bd_OK G cc nL own n fr lo rt) {r0 ci idx nr mL fr1 lo1 : Nat} {q : vw_C} {y : MethodName} {host : String} {bytes : ByteArray} {ret : Option FieldType} {f : Option (Unit × bd_S)} {k : Unit → bd_S → Option α} {rest : List Value} (As : List Value) (hM : bd_M bd_Qv (g_l G) y bytes mL ret fr1 lo1 (g_E G) (.ref (bd_ad (g_E G) r0) :: As) σ f) (hlk : bd_lkN own idx y host bytes mL ret nr) (hi : bd_in (.instanceMethod y)) (hse : bd_in (.selects y.cls y y)) (hk : bd_kd r0 = (ci, 0)) (hr0 : r0 < n) (hci : ci < 4) (hq : vwCl[ci]? = some q) (hqy : q.1 = y.cls) (hf : fr1 + 1 ≤ fr) (hlo : 8 + (mL + 11) + lo1 ≤ lo) (hn : As.length = nr) (hst : st = As.reverse ++ .ref (bd_ad (g_E G) r0) :: rest) (hw : (rest.map fun v => v.category).sum ≤ 8) (hd : decode cc pc = .ok (.invokevirtual idx, 3)) (kk : ∀ (z : bd_S), bd_WF G out (k () z) z (pc + 3) lv rest) : bd_WF G out (bd_b f k) σ pc lv st := by
  intro hF H locs ls hP hS hl
  obtain ⟨r1, σ1, hf1, hk1⟩ := bd_b_some hF
  subst hst
  have hrun := va_runVN (C := y.cls) (e := g_e G) (below := g_b G) (meth := g_M G) (H := H) (locs := locs) (cells := g_k G) (slots := g_n G) (g := F0 (g_m G) pc ls (As.reverse ++ .ref (bd_ad (g_E G) r0) :: rest)) (rest := rest) (As := As) (nL := nL) (Ts := []) ⟨hG.hx, hG.hb, hG.hml, hG.hown, fun _ h => absurd h List.not_mem_nil⟩ (hM _ hf1) ⟨(bd_callN hG hlk hf hlo), hG.hT.at hi _, hG.hT.at hse _⟩ ⟨bd_Pre.blind _ _ _, by rw [← hqy]; exact bd_recv hG hk hr0 hci hq hP, bd_pre hG hP⟩ rfl hn (by rw [← hG.hml]; exact hl.1) rfl (lv_room hw) hd ⟨hG.hk, hG.hn⟩
  refine va_callv hrun hS (fun _ _ h => h) (fun _ h => h) (fun u t H1 locs1 ht _ _ hB _ _ hS1 => ?_)
  have hB2 : va_P (bd_D (g_E G)) vwCl (bd_w (g_E G) σ1) H1 := by
    subst ht
    exact hB
  exact kk σ1 hk1 H1 locs1 ls hB2 hS1 hl
theorem rr_cMi (hG : bd_OK G cc nL own n fr lo rt) {idx nr mL fr1 lo1 : Nat} {y : MethodName} {host : String} {bytes : ByteArray} {ret : Option FieldType} {f : Option (Int32 × bd_S)} {k : Int32 → bd_S → Option α} {rest : List Value} (As : List Value) (hM : bd_M bd_Qi (g_l G) y bytes mL ret fr1 lo1 (g_E G) As σ f) (hlk : bd_lkN own idx y host bytes mL ret nr) (hi : bd_in (.static y)) (hf : fr1 + 1 ≤ fr) (hlo : 8 + (mL + 11) + lo1 ≤ lo) (hn : As.length = nr) (hst : st = As.reverse ++ rest) (hw : (rest.map fun v => v.category).sum ≤ 8) (hd : decode cc pc = .ok (.invokestatic idx, 3)) (kk : ∀ (r : Int32) (z : bd_S), bd_WF G out (k r z) z (pc + 3) lv (.int r :: rest)) : bd_WF G out (bd_b f k) σ pc lv st := by
  intro hF H locs ls hP hS hl
  obtain ⟨r1, σ1, hf1, hk1⟩ := bd_b_some hF
  subst hst
  have hrun := va_runSN (e := g_e G) (below := g_b G) (meth := g_M G) (H := H) (locs := locs) (cells := g_k G) (slots := g_n G) (g := F0 (g_m G) pc ls (As.reverse ++ rest)) (rest := rest) (As := As) (nL := nL) (Ts := []) ⟨hG.hx, hG.hb, hG.hml, hG.hown, fun _ h => absurd h List.not_mem_nil⟩ (hM _ hf1) ⟨(bd_callN hG hlk hf hlo), hG.hT.at hi _, trivial⟩ ⟨bd_Pre.blind _ _ _, bd_pre hG hP⟩ rfl hn (by rw [← hG.hml]; exact hl.1) rfl (lv_room hw) hd ⟨hG.hk, hG.hn⟩
  refine va_calli hrun hS (fun _ _ h => h) (fun _ h => h) (fun r u t H1 locs1 ht _ hw1 hB _ _ hS1 => ?_)
  have hw2 : r = r1 := hw1
  have hB2 : va_P (bd_D (g_E G)) vwCl (bd_w (g_E G) σ1) H1 := by
    subst ht
    exact hB
  rw [hw2]
  exact kk r1 σ1 hk1 H1 locs1 ls hB2 hS1 hl
theorem rr_cMl (hG : bd_OK G cc nL own n fr lo rt) {idx nr mL fr1 lo1 : Nat} {y : MethodName} {host : String} {bytes : ByteArray} {ret : Option FieldType} {f : Option (Int64 × bd_S)} {k : Int64 → bd_S → Option α} {rest : List Value} (As : List Value) (hM : bd_M bd_Ql (g_l G) y bytes mL ret fr1 lo1 (g_E G) As σ f) (hlk : bd_lkN own idx y host bytes mL ret nr) (hi : bd_in (.static y)) (hf : fr1 + 1 ≤ fr) (hlo : 8 + (mL + 11) + lo1 ≤ lo) (hn : As.length = nr) (hst : st = As.reverse ++ rest) (hw : (rest.map fun v => v.category).sum ≤ 8) (hd : decode cc pc = .ok (.invokestatic idx, 3)) (kk : ∀ (r : Int64) (z : bd_S), bd_WF G out (k r z) z (pc + 3) lv (.long r :: rest)) : bd_WF G out (bd_b f k) σ pc lv st := by
  intro hF H locs ls hP hS hl
  obtain ⟨r1, σ1, hf1, hk1⟩ := bd_b_some hF
  subst hst
  have hrun := va_runSN (e := g_e G) (below := g_b G) (meth := g_M G) (H := H) (locs := locs) (cells := g_k G) (slots := g_n G) (g := F0 (g_m G) pc ls (As.reverse ++ rest)) (rest := rest) (As := As) (nL := nL) (Ts := []) ⟨hG.hx, hG.hb, hG.hml, hG.hown, fun _ h => absurd h List.not_mem_nil⟩ (hM _ hf1) ⟨(bd_callN hG hlk hf hlo), hG.hT.at hi _, trivial⟩ ⟨bd_Pre.blind _ _ _, bd_pre hG hP⟩ rfl hn (by rw [← hG.hml]; exact hl.1) rfl (lv_room hw) hd ⟨hG.hk, hG.hn⟩
  refine va_calll hrun hS (fun _ _ h => h) (fun _ h => h) (fun r u t H1 locs1 ht _ hw1 hB _ _ hS1 => ?_)
  have hw2 : r = r1 := hw1
  have hB2 : va_P (bd_D (g_E G)) vwCl (bd_w (g_E G) σ1) H1 := by
    subst ht
    exact hB
  rw [hw2]
  exact kk r1 σ1 hk1 H1 locs1 ls hB2 hS1 hl
theorem rr_cMv (hG : bd_OK G cc nL own n fr lo rt) {idx nr mL fr1 lo1 : Nat} {y : MethodName} {host : String} {bytes : ByteArray} {ret : Option FieldType} {f : Option (Unit × bd_S)} {k : Unit → bd_S → Option α} {rest : List Value} (As : List Value) (hM : bd_M bd_Qv (g_l G) y bytes mL ret fr1 lo1 (g_E G) As σ f) (hlk : bd_lkN own idx y host bytes mL ret nr) (hi : bd_in (.static y)) (hf : fr1 + 1 ≤ fr) (hlo : 8 + (mL + 11) + lo1 ≤ lo) (hn : As.length = nr) (hst : st = As.reverse ++ rest) (hw : (rest.map fun v => v.category).sum ≤ 8) (hd : decode cc pc = .ok (.invokestatic idx, 3)) (kk : ∀ (z : bd_S), bd_WF G out (k () z) z (pc + 3) lv rest) : bd_WF G out (bd_b f k) σ pc lv st := by
  intro hF H locs ls hP hS hl
  obtain ⟨r1, σ1, hf1, hk1⟩ := bd_b_some hF
  subst hst
  have hrun := va_runSN (e := g_e G) (below := g_b G) (meth := g_M G) (H := H) (locs := locs) (cells := g_k G) (slots := g_n G) (g := F0 (g_m G) pc ls (As.reverse ++ rest)) (rest := rest) (As := As) (nL := nL) (Ts := []) ⟨hG.hx, hG.hb, hG.hml, hG.hown, fun _ h => absurd h List.not_mem_nil⟩ (hM _ hf1) ⟨(bd_callN hG hlk hf hlo), hG.hT.at hi _, trivial⟩ ⟨bd_Pre.blind _ _ _, bd_pre hG hP⟩ rfl hn (by rw [← hG.hml]; exact hl.1) rfl (lv_room hw) hd ⟨hG.hk, hG.hn⟩
  refine va_callv hrun hS (fun _ _ h => h) (fun _ h => h) (fun u t H1 locs1 ht _ _ hB _ _ hS1 => ?_)
  have hB2 : va_P (bd_D (g_E G)) vwCl (bd_w (g_E G) σ1) H1 := by
    subst ht
    exact hB
  exact kk σ1 hk1 H1 locs1 ls hB2 hS1 hl
end BDR
