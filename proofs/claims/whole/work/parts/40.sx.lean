theorem sx_oi : bd_in (.instanceMethod objectInit) := ⟨List.mem_of_getElem? (i := 62) (by decide +kernel), by decide +kernel⟩
theorem sx_oc : bd_in (.code objectInit ⟨#[0xb1]⟩ 1 none) := ⟨List.mem_of_getElem? (i := 63) (by decide +kernel), by decide +kernel⟩
theorem sx_acI : bd_in (.arrayClass .int) := ⟨List.mem_of_getElem? (i := 87) (by decide +kernel), by decide +kernel⟩
theorem oi_X0 : bd_in (.methodLink RX0 3 objectInit) := ⟨List.mem_of_getElem? (i := 69) (by decide +kernel), by decide +kernel⟩
theorem oi_X1 : bd_in (.methodLink RX1 3 objectInit) := ⟨List.mem_of_getElem? (i := 98) (by decide +kernel), by decide +kernel⟩
theorem oi_X2 : bd_in (.methodLink RX2 1 objectInit) := ⟨List.mem_of_getElem? (i := 61) (by decide +kernel), by decide +kernel⟩
theorem oi_X3 : bd_in (.methodLink RX3 1 objectInit) := ⟨List.mem_of_getElem? (i := 492) (by decide +kernel), by decide +kernel⟩
theorem ac9_int : bd_in (.arrayClass .int) := ⟨List.mem_of_getElem? (i := 87) (by decide +kernel), by decide +kernel⟩
theorem ac9_over : Cond.arrayOver (.object "BallDrops$Ship") ∈ lw_tbl := List.mem_of_getElem? (i := 89) (by decide +kernel)
theorem ac9_boolean : bd_in (.arrayClass .boolean) := ⟨List.mem_of_getElem? (i := 142) (by decide +kernel), by decide +kernel⟩
theorem wf_X0_9 : bd_in (.fieldLink RX0 9 RX0 (TX0 0).2.1 (TX0 0).2.2.1) := ⟨List.mem_of_getElem? (i := 70) (by decide +kernel), by decide +kernel⟩
theorem wf_X0_15 : bd_in (.fieldLink RX0 15 RX0 (TX0 1).2.1 (TX0 1).2.2.1) := ⟨List.mem_of_getElem? (i := 72) (by decide +kernel), by decide +kernel⟩
theorem wf_X1_9 : bd_in (.fieldLink RX1 9 RX1 (TX1 0).2.1 (TX1 0).2.2.1) := ⟨List.mem_of_getElem? (i := 99) (by decide +kernel), by decide +kernel⟩
theorem wf_X1_15 : bd_in (.fieldLink RX1 15 RX1 (TX1 1).2.1 (TX1 1).2.2.1) := ⟨List.mem_of_getElem? (i := 101) (by decide +kernel), by decide +kernel⟩
theorem wf_X1_18 : bd_in (.fieldLink RX1 18 RX1 (TX1 2).2.1 (TX1 2).2.2.1) := ⟨List.mem_of_getElem? (i := 103) (by decide +kernel), by decide +kernel⟩
theorem wf_X1_22 : bd_in (.fieldLink RX1 22 RX1 (TX1 3).2.1 (TX1 3).2.2.1) := ⟨List.mem_of_getElem? (i := 105) (by decide +kernel), by decide +kernel⟩
theorem wf_X1_25 : bd_in (.fieldLink RX1 25 RX1 (TX1 4).2.1 (TX1 4).2.2.1) := ⟨List.mem_of_getElem? (i := 107) (by decide +kernel), by decide +kernel⟩
theorem wf_X1_28 : bd_in (.fieldLink RX1 28 RX1 (TX1 5).2.1 (TX1 5).2.2.1) := ⟨List.mem_of_getElem? (i := 109) (by decide +kernel), by decide +kernel⟩
theorem wf_X1_31 : bd_in (.fieldLink RX1 31 RX1 (TX1 6).2.1 (TX1 6).2.2.1) := ⟨List.mem_of_getElem? (i := 111) (by decide +kernel), by decide +kernel⟩
theorem wf_X1_34 : bd_in (.fieldLink RX1 34 RX1 (TX1 7).2.1 (TX1 7).2.2.1) := ⟨List.mem_of_getElem? (i := 113) (by decide +kernel), by decide +kernel⟩
/-! the world while objects are made: W0 stands, X grows -/
theorem sx_at {W0 X : va_W} {k : Nat} {v : Nat × va_E} (h : X[k]? = some v) : (W0 ++ X)[W0.length + k]? = some v := by
  rw [List.getElem?_append_right (Nat.le_add_right _ _), Nat.add_sub_cancel_left]
  exact h
theorem sx_set {W0 X : va_W} {k : Nat} {v : Nat × va_E} : (W0 ++ X).set (W0.length + k) v = W0 ++ X.set k v := by
  rw [List.set_append_right _ _ (Nat.le_add_right _ _), Nat.add_sub_cancel_left]
def sx_W (G : bd_G) (W0 X : va_W) (k n : Nat) (pc : Nat) (lv : List (Nat × Value)) (st : List Value) : Prop :=
  ∀ (H : Heap) (locs : List Loc) (ls : Array Slot), va_P (bd_D (g_E G)) vwCl (W0 ++ X) H → va_D (bd_A (g_E G)) (W0 ++ X) → va_S (bd_A (g_E G)) (g_s G).heap H locs → lv_has ls (g_c G).maxLocals lv → W (g_p G) (g_l G) (g_e G) (g_R G) (g_s G) (g_m G) (g_a G) (g_b G) (g_M G) (g_c G) H locs k n (g_Q G) (F0 (g_m G) pc ls st)
/-- what holds in a constructor: its room, its class, new cells may be changed -/
def sx_OK (G : bd_G) (cc : ByteArray) (nL : Nat) (own : String) (fr lo cm sm : Nat) (rt : Option FieldType) : Prop :=
  bd_OK G cc nL own 0 fr lo rt ∧ (∀ q : Nat, (g_s G).heap.size ≤ q → bd_A (g_E G) q) ∧ cm ≤ (g_R G).cells ∧ sm ≤ (g_R G).slots
section SXR
variable {G : bd_G} {cc : ByteArray} {nL : Nat} {own : String} {fr lo cm sm : Nat} {rt : Option FieldType} {W0 X X' : va_W} {k n : Nat} {pc : Nat} {lv lr : List (Nat × Value)} {st : List Value}
theorem sx_aload_n (hG : sx_OK G cc nL own fr lo cm sm rt) {i : Fin 4} {j : Nat} {x : Nat} (hd : decode cc pc = .ok (.aload_n i, 1)) (hi : (i : Nat) = j) (q : Nat) (hq : lv[q]? = some (j, .ref x)) (kk : sx_W G W0 X k n (pc + 1) lv (.ref x :: st)) : sx_W G W0 X k n pc lv st :=
  fun H locs ls hP hD hS hl => lv_aload_n hG.1.hx hG.1.hb hd hi (lv_at hl q hq) (kk H locs ls hP hD hS hl)
theorem sx_iload_n (hG : sx_OK G cc nL own fr lo cm sm rt) {i : Fin 4} {j : Nat} {x : Int32} (hd : decode cc pc = .ok (.iload_n i, 1)) (hi : (i : Nat) = j) (q : Nat) (hq : lv[q]? = some (j, .int x)) (kk : sx_W G W0 X k n (pc + 1) lv (.int x :: st)) : sx_W G W0 X k n pc lv st :=
  fun H locs ls hP hD hS hl => lv_iload_n hG.1.hx hG.1.hb hd hi (lv_at hl q hq) (kk H locs ls hP hD hS hl)
theorem sx_istore_n (hG : sx_OK G cc nL own fr lo cm sm rt) {i : Fin 4} {j : Nat} {x : Int32} (hd : decode cc pc = .ok (.istore_n i, 1)) (hi : (i : Nat) = j) (hn : j < nL) (hf : lv.filter (fun q => !(q.1 == j) && !(q.1 + 1 == j && q.2.category == 2)) = lr) (kk : sx_W G W0 X k n (pc + 1) ((j, .int x) :: lr) st) : sx_W G W0 X k n pc lv (.int x :: st) :=
  fun H locs ls hP hD hS hl => lv_istore_n hG.1.hx hG.1.hb hd hi hl (by rw [hG.1.hml]; exact hn) (congrArg (fun z => (j, Value.int x) :: z) hf) (fun ls2 hl2 => kk H locs ls2 hP hD hS hl2)
theorem sx_astore_n (hG : sx_OK G cc nL own fr lo cm sm rt) {i : Fin 4} {j : Nat} {x : Nat} (hd : decode cc pc = .ok (.astore_n i, 1)) (hi : (i : Nat) = j) (hn : j < nL) (hf : lv.filter (fun q => !(q.1 == j) && !(q.1 + 1 == j && q.2.category == 2)) = lr) (kk : sx_W G W0 X k n (pc + 1) ((j, .ref x) :: lr) st) : sx_W G W0 X k n pc lv (.ref x :: st) :=
  fun H locs ls hP hD hS hl => lv_astore_n hG.1.hx hG.1.hb hd hi hl (by rw [hG.1.hml]; exact hn) (congrArg (fun z => (j, Value.ref x) :: z) hf) (fun ls2 hl2 => kk H locs ls2 hP hD hS hl2)
theorem sx_iinc (hG : sx_OK G cc nL own fr lo cm sm rt) {i : Nat} {c : Int} {x v : Int32} (hd : decode cc pc = .ok (.iinc i c, 3)) (j : Nat) (hj : lv[j]? = some (i, .int x)) (hv : x + Int32.ofInt c = v) (hn : i < nL) (hf : lv.filter (fun q => !(q.1 == i) && !(q.1 + 1 == i && q.2.category == 2)) = lr) (kk : sx_W G W0 X k n (pc + 3) ((i, .int v) :: lr) st) : sx_W G W0 X k n pc lv st :=
  fun H locs ls hP hD hS hl => lv_iinc hG.1.hx hG.1.hb hd hl hj hv (by rw [hG.1.hml]; exact hn) (congrArg (fun z => (i, Value.int v) :: z) hf) (fun ls2 hl2 => kk H locs ls2 hP hD hS hl2)
theorem sx_iconst (hG : sx_OK G cc nL own fr lo cm sm rt) {c : Int} {v : Int32} (hd : decode cc pc = .ok (.iconst c, 1)) (hv : Int32.ofInt c = v) (kk : sx_W G W0 X k n (pc + 1) lv (.int v :: st)) : sx_W G W0 X k n pc lv st :=
  fun H locs ls hP hD hS hl => lv_iconst hG.1.hx hG.1.hb hd hv (kk H locs ls hP hD hS hl)
theorem sx_bipush (hG : sx_OK G cc nL own fr lo cm sm rt) {c : Int} {v : Int32} (hd : decode cc pc = .ok (.bipush c, 2)) (hv : (Int8.ofInt c).toInt32 = v) (kk : sx_W G W0 X k n (pc + 2) lv (.int v :: st)) : sx_W G W0 X k n pc lv st :=
  fun H locs ls hP hD hS hl => lv_bipush hG.1.hx hG.1.hb hd hv (kk H locs ls hP hD hS hl)
theorem sx_dup (hG : sx_OK G cc nL own fr lo cm sm rt) {v : Value} (hd : decode cc pc = .ok (.dup, 1)) (hv : v.category = 1) (kk : sx_W G W0 X k n (pc + 1) lv (v :: v :: st)) : sx_W G W0 X k n pc lv (v :: st) :=
  fun H locs ls hP hD hS hl => lv_dup hG.1.hx hG.1.hb hd hv (kk H locs ls hP hD hS hl)
theorem sx_goto (hG : sx_OK G cc nL own fr lo cm sm rt) {off : Int} (tgt : Nat) (hd : decode cc pc = .ok (.goto off, 3)) (ht : (pc : Int) + off = (tgt : Int)) (kk : sx_W G W0 X k n tgt lv st) : sx_W G W0 X k n pc lv st :=
  fun H locs ls hP hD hS hl => lv_goto hG.1.hx hG.1.hb hd ht (kk H locs ls hP hD hS hl)
theorem sx_geN (hG : sx_OK G cc nL own fr lo cm sm rt) {x y : Int32} {off : Int} (tgt : Nat) (hd : decode cc pc = .ok (.if_icmp .ge off, 3)) (ht : (pc : Int) + off = (tgt : Int)) (hc : ¬ y ≤ x) (kk : sx_W G W0 X k n (pc + 3) lv st) : sx_W G W0 X k n pc lv (.int y :: .int x :: st) :=
  fun H locs ls hP hD hS hl => lv_icmp_ge hG.1.hx hG.1.hb hd ht (fun q => absurd q hc) (fun _ => kk H locs ls hP hD hS hl)
theorem sx_geY (hG : sx_OK G cc nL own fr lo cm sm rt) {x y : Int32} {off : Int} (tgt : Nat) (hd : decode cc pc = .ok (.if_icmp .ge off, 3)) (ht : (pc : Int) + off = (tgt : Int)) (hc : y ≤ x) (kk : sx_W G W0 X k n tgt lv st) : sx_W G W0 X k n pc lv (.int y :: .int x :: st) :=
  fun H locs ls hP hD hS hl => lv_icmp_ge hG.1.hx hG.1.hb hd ht (fun _ => kk H locs ls hP hD hS hl) (fun q => absurd hc q)
theorem sx_objInit (hG : sx_OK G cc nL own fr lo cm sm rt) {idx a : Nat} (h1 : bd_in (.methodLink own idx objectInit)) (hfr : 1 ≤ fr) (hlo : (st.map fun v => v.category).sum + 12 ≤ lo) (hd : decode cc pc = .ok (.invokespecial idx, 3)) (kk : sx_W G W0 X k n (pc + 3) lv st) : sx_W G W0 X k n pc lv (.ref a :: st) :=
  fun H locs ls hP hD hS hl => W.objInit hG.1.hx hG.1.hb hG.1.hown (hG.1.hT.at h1 _) (hG.1.hT.at sx_oi _) (hG.1.hT.at sx_oc _) rfl hl.1 rfl hd (Nat.le_trans hfr hG.1.hfr) (by show 2 * 0 + _ + 12 ≤ _; have := hG.1.hlo; omega) (W.eq (g2 := F0 (g_m G) (pc + 3) ls st) rfl (kk H locs ls hP hD hS hl))
/-- a new array of ints, of booleans -/
theorem sx_newa (hG : sx_OK G cc nL own fr lo cm sm rt) {atype : ArrayType} {ty : FieldType} {cA : ClassId} (t0 : Nat) (hty : newarray.typeOf atype = ty) (ht : (bd_tys (g_E G))[t0]? = some (cA, ty)) (hnm : ∀ c2, va_RA (g_s G) c2 ty → (g_s G).vm.findClass ("[" ++ ty.toString) = some c2) (hdv : defaultValue ty = .int 0) (h1 : bd_in (.arrayClass ty)) {v : Int32} (z : Nat) (hz : ¬ v < 0 ∧ v.toNatClampNeg = z ∧ z * componentBytes ty ≤ 536870912) (hk : k + 1 ≤ cm) (hn : n + z ≤ sm) (hd : decode cc pc = .ok (.newarray atype, 2)) (kk : ∀ q : Nat, sx_W G W0 (X ++ [(q, .inl (cA, z, .inl (fun _ => 0)))]) (k + 1) (n + z) (pc + 2) lv (.ref q :: st)) : sx_W G W0 X k n pc lv (.int v :: st) := by
  intro H locs ls hP hD hS hl
  subst hty
  refine va_newaK hG.1.hx hG.1.hb (hG.1.hT.at h1 _) rfl hd rfl hz.1 hz.2.1 hz.2.2 (Nat.le_trans hk hG.2.2.1) (Nat.le_trans hn hG.2.2.2) rfl fun H1 c2 e1 z1 o1 hAr hNm => ?_
  have hcc : c2 = cA := by
    have h2 := hnm cA (hG.1.hK.2 t0 _ ht).2
    exact Option.some.inj (hNm.symm.trans h2)
  subst hcc
  have hold : ∀ (k : Nat) (x : Nat × va_E), (W0 ++ X)[k]? = some x → H1[x.1]? = H[x.1]? := fun k x hx => o1 x.1 ((hP k x hx).lt)
  refine kk H.size H1 locs ls ?_ ?_ ⟨Nat.le_trans hS.1 (by omega), fun x h1 h2 => (o1 x (Nat.lt_of_lt_of_le h1 hS.1)).trans (hS.2.1 x h1 h2), hS.2.2⟩ hl
  · rw [← List.append_assoc]
    refine (hP.kept hold).app (fun k x hx => ?_)
    have hz : k < 1 := (List.getElem?_eq_some_iff.mp hx).1
    rw [show k = 0 by omega] at hx
    cases hx
    show H1[H.size]? = some (vp_cell _ _)
    rw [e1, hdv]
    rfl
  · rw [← List.append_assoc]
    exact hD.push hP rfl (hG.2.1 _ hS.1)
theorem sx_new (hG : sx_OK G cc nL own fr lo cm sm rt) {C : String} {T : u_T} {N ci idx : Nat} (ty : Nat → FieldType) (hty : ∀ k, k < N → parseFieldDescriptor (T k).2.2.1 = some (ty k)) (hin : ∀ w ∈ u_ws C T N, bd_in w) (h1 : bd_in (.classLink own idx C)) (h2 : bd_in (.instantiable C N)) (h3 : bd_in (.initialized C)) (hc : vwCl[ci]? = some (C, T, N)) {fs : List Value} (hfs : ∀ j, j < N → defaultValue (ty j) = vp_V fs j) (hk : k + 1 ≤ cm) (hn : n + N ≤ sm) (hd : decode cc pc = .ok (.new idx, 3)) (kk : ∀ q : Nat, sx_W G W0 (X ++ [(q, .inr (ci, fs))]) (k + 1) (n + N) (pc + 3) lv (.ref q :: st)) : sx_W G W0 X k n pc lv st := by
  intro H locs ls hP hD hS hl
  refine va_new hG.1.hx hG.1.hb (Ts := u_ws C T N) (fun w hw => hG.1.hT.at (hin w hw) _) (fun _ h => h) ty hty hG.1.hown (hG.1.hT.at h1 _) (hG.1.hT.at h2 _) (hG.1.hT.at h3 _) hG.1.hK hP hD hS hG.2.1 hc hfs (Nat.le_trans hk hG.2.2.1) (Nat.le_trans hn hG.2.2.2) hd (fun q H1 hP1 hD1 hS1 => ?_)
  rw [List.append_assoc] at hP1 hD1
  exact kk q H1 locs ls hP1 hD1 hS1 hl
theorem sx_newq (hG : sx_OK G cc nL own fr lo cm sm rt) {idx : Nat} (h1 : bd_in (.classLink own idx "BallDrops$Ship")) (h2 : Cond.arrayOver (.object "BallDrops$Ship") ∈ lw_tbl) {v : Int32} (z : Nat) (hz : ¬ v < 0 ∧ v.toNatClampNeg = z ∧ z * 4 ≤ 536870912) (hk : k + 1 ≤ cm) (hn : n + z ≤ sm) (hd : decode cc pc = .ok (.anewarray idx, 3)) (kk : ∀ q : Nat, sx_W G W0 (X ++ [(q, .inl (bd_cO (g_E G), z, .inr (.inr (.inr (.inr (fun _ => none))))))]) (k + 1) (n + z) (pc + 3) lv (.ref q :: st)) : sx_W G W0 X k n pc lv (.int v :: st) := by
  intro H locs ls hP hD hS hl
  refine va_newq hG.1.hx hG.1.hb (C := "BallDrops$Ship") hG.1.hown (hG.1.hT.at h1 _) (hG.1.hN _ h2 rfl) hG.1.hK hP hD hS hG.2.1 hz.1 hz.2.1 hz.2.2 (Nat.le_trans hk hG.2.2.1) (Nat.le_trans hn hG.2.2.2) hd (fun q cA H1 hK1 hP1 hD1 hS1 => ?_)
  have hcc : cA = bd_cO (g_E G) := by
    obtain ⟨-, kA, comp, -, -, -, h4⟩ := hG.1.hK.2 2 _ rfl
    obtain ⟨-, kA2, comp2, -, -, -, h5⟩ := hK1.2 3 (cA, .object "BallDrops$Ship") rfl
    exact Option.some.inj (h5.symm.trans h4)
  subst hcc
  rw [List.append_assoc] at hP1 hD1
  exact kk q H1 locs ls hP1 hD1 hS1 hl
theorem sx_putF (hG : sx_OK G cc nL own fr lo cm sm rt) {ci idx a : Nat} {C ref : String} {T : u_T} {N : Nat} {v : Value} {fs : List Value} {ty0 : Nat → FieldType} {ty : FieldType} (hname : (g_M G).name = "<init>") (q0 : Nat) (hq : X[q0]? = some (a, .inr (ci, fs))) (hc : vwCl[ci]? = some (C, T, N)) (hin : ∀ w ∈ u_ws C T N, bd_in w) (hty : ∀ k, k < N → parseFieldDescriptor (T k).2.2.1 = some (ty0 k)) (hnm : ∀ a, a < N → ∀ b, b < N → a ≠ b → (T a).2.1 ≠ (T b).2.1) (j : Nat) (hj : j < N) (hl9 : bd_in (.fieldLink own idx ref (T j).2.1 (T j).2.2.1)) (href : (T j).1 = ref) (hfin : (T j).2.2.2 = true) (hdecl : (T j).1 = own) (hd0 : parseFieldDescriptor (T j).2.2.1 = some ty) (hnw : narrow ty v = v) (hft : fits ty v = true) (hlen : j < fs.length) (hd : decode cc pc = .ok (.putfield idx, 3)) (hX : X.set q0 (a, .inr (ci, fs.set j v)) = X') (kk : sx_W G W0 X' k n (pc + 3) lv st) : sx_W G W0 X k n pc lv (v :: .ref a :: st) := by
  intro H locs ls hP hD hS hl
  subst href
  refine va_putF hG.1.hx hG.1.hb (Ts := u_ws C T N) (fun w hw => hG.1.hT.at (hin w hw) _) (fun _ h => h) ty0 hty hnm hG.1.hown hG.1.hK hP hD hS (W0.length + q0) (sx_at hq) hc j hj (hG.1.hT.at hl9 _) (fun _ h => h) hfin hname hdecl hd0 hnw hft hlen hd (fun H1 locs1 hP1 hD1 hS1 => ?_)
  rw [sx_set, hX] at hP1 hD1
  exact kk H1 locs1 ls hP1 hD1 hS1 hl
theorem sx_put (hG : sx_OK G cc nL own fr lo cm sm rt) {ci idx a : Nat} {C ref : String} {T : u_T} {N : Nat} {v : Value} {fs : List Value} {ty0 : Nat → FieldType} {ty : FieldType} (q0 : Nat) (hq : X[q0]? = some (a, .inr (ci, fs))) (hc : vwCl[ci]? = some (C, T, N)) (hin : ∀ w ∈ u_ws C T N, bd_in w) (hty : ∀ k, k < N → parseFieldDescriptor (T k).2.2.1 = some (ty0 k)) (hnm : ∀ a, a < N → ∀ b, b < N → a ≠ b → (T a).2.1 ≠ (T b).2.1) (j : Nat) (hj : j < N) (hl9 : bd_in (.fieldLink own idx ref (T j).2.1 (T j).2.2.1)) (href : (T j).1 = ref) (hfin : (T j).2.2.2 = false) (hd0 : parseFieldDescriptor (T j).2.2.1 = some ty) (hnw : narrow ty v = v) (hft : fits ty v = true) (hlen : j < fs.length) (hd : decode cc pc = .ok (.putfield idx, 3)) (hX : X.set q0 (a, .inr (ci, fs.set j v)) = X') (kk : sx_W G W0 X' k n (pc + 3) lv st) : sx_W G W0 X k n pc lv (v :: .ref a :: st) := by
  intro H locs ls hP hD hS hl
  subst href
  refine va_put hG.1.hx hG.1.hb (Ts := u_ws C T N) (fun w hw => hG.1.hT.at (hin w hw) _) (fun _ h => h) ty0 hty hnm hG.1.hown hG.1.hK hP hD hS (W0.length + q0) (sx_at hq) hc j hj (hG.1.hT.at hl9 _) (fun _ h => h) hfin hd0 hnw hft hlen hd (fun H1 locs1 hP1 hD1 hS1 => ?_)
  rw [sx_set, hX] at hP1 hD1
  exact kk H1 locs1 ls hP1 hD1 hS1 hl
theorem sx_get (hG : sx_OK G cc nL own fr lo cm sm rt) {ci idx a : Nat} {C ref : String} {T : u_T} {N : Nat} {v : Value} {fs : List Value} (q0 : Nat) (hq : (W0 ++ X)[q0]? = some (a, .inr (ci, fs))) (hc : vwCl[ci]? = some (C, T, N)) (hin : ∀ w ∈ u_ws C T N, bd_in w) (j : Nat) (hj : j < N) (hl9 : bd_in (.fieldLink own idx ref (T j).2.1 (T j).2.2.1)) (href : (T j).1 = ref) (hv : fs[j]? = some v) (hd : decode cc pc = .ok (.getfield idx, 3)) (kk : sx_W G W0 X k n (pc + 3) lv (v :: st)) : sx_W G W0 X k n pc lv (.ref a :: st) := by
  intro H locs ls hP hD hS hl
  subst href
  exact va_get hG.1.hx hG.1.hb (Ts := u_ws C T N) (fun w hw => hG.1.hT.at (hin w hw) _) (fun _ h => h) hG.1.hown hG.1.hK hP q0 hq hc j hj (hG.1.hT.at hl9 _) (fun _ h => h) hv hd (kk H locs ls hP hD hS hl)
theorem sx_iast (hG : sx_OK G cc nL own fr lo cm sm rt) {a : Nat} {m : Nat} {f : Nat → Int32} {i x : Int32} (q0 : Nat) (hq : X[q0]? = some (a, .inl (bd_cI (g_E G), m, .inl f))) (z : Nat) (hz : i.toNatClampNeg = z ∧ ¬ (i < 0 ∨ m ≤ i.toNatClampNeg)) (hd : decode cc pc = .ok (.iastore, 1)) (hX : X.set q0 (a, .inl (bd_cI (g_E G), m, .inl (upd f z x))) = X') (kk : sx_W G W0 X' k n (pc + 1) lv st) : sx_W G W0 X k n pc lv (.int x :: .int i :: .ref a :: st) := by
  intro H locs ls hP hD hS hl
  refine va_iast hG.1.hx hG.1.hb hG.1.hK hP hD hS (W0.length + q0) 0 (sx_at hq) rfl hz.2 hd (fun H1 locs1 hP1 hD1 hS1 => ?_)
  rw [sx_set, hz.1, hX] at hP1 hD1
  exact kk H1 locs1 ls hP1 hD1 hS1 hl
theorem sx_widen {k2 n2 : Nat} (h1 : k ≤ k2) (h2 : n ≤ n2) (kk : sx_W G W0 X k2 n2 pc lv st) : sx_W G W0 X k n pc lv st :=
  fun H locs ls hP hD hS hl => W.widen h1 h2 (kk H locs ls hP hD hS hl)
end SXR
def sx_X (G : bd_G) (B : Heap → Prop) (k n : Nat) (pc : Nat) (lv : List (Nat × Value)) (st : List Value) : Prop :=
  ∀ (H : Heap) (locs : List Loc) (ls : Array Slot), B H → va_S (bd_A (g_E G)) (g_s G).heap H locs → lv_has ls (g_c G).maxLocals lv → W (g_p G) (g_l G) (g_e G) (g_R G) (g_s G) (g_m G) (g_a G) (g_b G) (g_M G) (g_c G) H locs k n (g_Q G) (F0 (g_m G) pc ls st)
abbrev sx_B (E : bd_E) (W : va_W) (H : Heap) : Prop := va_P (bd_D E) vwCl W H ∧ va_D (bd_A E) W
theorem sx_ofX {G : bd_G} {W0 X : va_W} {k n pc : Nat} {lv : List (Nat × Value)} {st : List Value} (h : sx_W G W0 X k n pc lv st) : sx_X G (sx_B (g_E G) (W0 ++ X)) k n pc lv st := fun H locs ls hB hS hl => h H locs ls hB.1 hB.2 hS hl
abbrev sx_E0 (E : bd_E) : bd_E := (bd_D E, E.2.1, bd_ad E, bd_A E, 0, 0)
theorem sx_E0_ok (E : bd_E) : bd_ok (sx_E0 E) 0 := ⟨fun _ _ h => absurd h (Nat.not_lt_zero _), fun _ h => absurd h (Nat.not_lt_zero _), Nat.le_refl _, fun h => absurd h (by decide)⟩
theorem sx_toX {G : bd_G} {W0 X : va_W} {k n pc : Nat} {lv : List (Nat × Value)} {st : List Value} (h : sx_X G (sx_B (g_E G) (W0 ++ X)) k n pc lv st) : sx_W G W0 X k n pc lv st := fun H locs ls hP hD hS hl => h H locs ls ⟨hP, hD⟩ hS hl
theorem sx_reX {G : bd_G} {W0 X W : va_W} {k n pc : Nat} {lv : List (Nat × Value)} {st : List Value} (hW : W = W0 ++ X) (h : sx_W G W0 X k n pc lv st) : sx_X G (sx_B (g_E G) W) k n pc lv st := by subst hW; exact sx_ofX h
/-- the same run, over another picture -/
abbrev bd_wE (G : bd_G) (E : bd_E) (k n : Nat) : bd_G := (g_p G, g_l G, g_e G, g_R G, g_s G, g_m G, g_a G, g_b G, g_M G, g_c G, g_Q G, E, k, n)
def sx_M (l : Launch) (y : MethodName) (cc : ByteArray) (mL fr lo mc ms : Nat) (E : bd_E) (W : va_W) (h0 : Nat) (B : (Nat → Nat) → Heap → Prop) : Prop :=
  Met l y [.code y cc mL none] { frames := fr, cells := mc, slots := ms, locals := lo } (va_Pc [.ref h0] (fun U => sx_B E W U.heap ∧ va_K (bd_D E) vwCl (bd_tys E) U ∧ bd_T U ∧ bd_Nw U ∧ ∀ q : Nat, U.heap.size ≤ q → bd_A E q)) (va_Qv (fun _ : Nat → Nat => True) (fun u t => B u t.heap) (bd_A E)) mc ms (bd_A E)
def sx_ends (E : bd_E) (G : bd_G) (mc ms : Nat) (B : (Nat → Nat) → Heap → Prop) : Prop := g_Q G = MQ (g_b G) (va_Qv (fun _ : Nat → Nat => True) (fun u t => B u t.heap) (bd_A E)) (g_a G) (g_s G) mc ms (bd_A E)
theorem sx_open {l : Launch} {y : MethodName} {cc : ByteArray} {mL fr lo mc ms : Nat} {E : bd_E} {W : va_W} {h0 : Nat} {B : (Nat → Nat) → Heap → Prop} (hy : plainFor y = true) (hi : y.name = "<init>") (hle : 1 ≤ mL)
    (h : ∀ G : bd_G, sx_OK (bd_wE G (sx_E0 E) 0 0) cc mL y.cls fr lo mc ms none → g_l G = l → (g_M G).name = "<init>" → sx_ends E (bd_wE G (sx_E0 E) 0 0) mc ms B → sx_X (bd_wE G (sx_E0 E) 0 0) (sx_B E W) 0 0 0 [(0, .ref h0)] []) : sx_M l y cc mL fr lo mc ms E W h0 B := by
  refine bd_ofW hy ?_
  intro p e s m args below meth c s₁ Bd hml hv
  obtain ⟨rfl, hB, hK, hT, hN, hA⟩ := hv
  have hown : s.vm.findClass y.cls = some m.cls := findClass_of_methodNamed Bd.named
  have hin : meth.name = "<init>" := (name_of_methodNamed Bd.named Bd.method).1.trans hi
  have hl := lv_entry [.ref h0] (n := mL) hle
  rw [lg_entry_eq]
  rw [← hml] at hl
  have h1 := h (p, l, e, { frames := fr, cells := mc, slots := ms, locals := lo }, s, m, [Value.ref h0].toArray, below, meth, c, MQ below (va_Qv (fun _ : Nat → Nat => True) (fun u t => B u t.heap) (bd_A E)) [Value.ref h0].toArray s mc ms (bd_A E), sx_E0 E, 0, 0)
    ⟨⟨Bd.exec, Bd.bytes, hml, hown, hK, hT, hN, Bd.notSynchronized, sx_E0_ok E, Nat.le_refl _, Nat.le_refl _, Bd.returns, Nat.zero_le _, Nat.zero_le _⟩, hA, Nat.le_refl _, Nat.le_refl _⟩ rfl hin rfl s.heap [] _ hB va_S.rf hl
  rw [hml] at h1
  exact h1
section SXC
variable {G : bd_G} {cc : ByteArray} {nL : Nat} {own : String} {fr lo cm sm : Nat} {rt : Option FieldType} {W0 X X' : va_W} {k n : Nat} {pc : Nat} {lv lr : List (Nat × Value)} {st : List Value}
theorem sx_vret (hG : sx_OK G cc nL own fr lo cm sm none) {E : bd_E} {B : (Nat → Nat) → Heap → Prop} (hA : bd_A (g_E G) = bd_A E) (ho : sx_ends E G k n B) (u : Nat → Nat) {P : Heap → Prop} (hP : ∀ H, P H → B u H) (hd : decode cc pc = .ok (.return_, 1)) : sx_X G P k n pc lv [] := by
  intro H locs ls hB hS hl
  rw [ho]
  rw [hA] at hS
  exact W.vret hG.1.hx hG.1.hb hG.1.hr (fun t ht hW => ⟨⟨u, rfl, trivial, by subst ht; exact hP _ hB⟩, hS.F ht⟩) hS.2.2 hd hG.1.hlk
/-- a constructor of a nest mate -/
theorem sx_initN (hG : sx_OK G cc nL own fr lo cm sm rt) {idx mL fr1 lo1 mc ms b : Nat} {y : MethodName} {host : String} {bytes : ByteArray} {E : bd_E} {W : va_W} {B : (Nat → Nat) → Heap → Prop} (hE : bd_D E = bd_D (g_E G) ∧ E.2.1 = (g_E G).2.1 ∧ bd_A E = bd_A (g_E G)) (hM : sx_M (g_l G) y bytes mL fr1 lo1 mc ms E W b B) (hlk : bd_lkN own idx y host bytes mL none 0) (hy : y.name = "<init>") (hi : bd_in (.instanceMethod y)) (hW : W0 ++ X = W) (hf : fr1 + 1 ≤ fr) (hlo : 8 + (mL + 11) + lo1 ≤ lo) (hw : (st.map fun v => v.category).sum ≤ 8) (hk : k + mc ≤ cm) (hn : n + ms ≤ sm) (hd : decode cc pc = .ok (.invokespecial idx, 3)) (kk : ∀ u, sx_X G (B u) (k + mc) (n + ms) (pc + 3) lv st) : sx_W G W0 X k n pc lv (.ref b :: st) := by
  intro H locs ls hP hD hS hl
  obtain ⟨hE1, hE2, hE3⟩ := hE
  obtain ⟨h1, h2, h3, h4, h5⟩ := hlk
  have hcn : va_CN (g_R G) (g_s G) (g_a G) own idx y host bytes mL none [.code y bytes mL none] { frames := fr1, cells := mc, slots := ms, locals := lo1 } mc ms 0 := by
    refine ⟨⟨rfl, rfl, Nat.le_trans hf hG.1.hfr, Nat.le_trans hlo hG.1.hlo, fun w hw a U hW => ?_, List.mem_singleton.mpr rfl⟩, hG.1.hT.at h1 _, hG.1.hT.at h2 _, h4, fun sig hs => ?_, hG.1.hN.at h3 _⟩
    · rw [List.mem_singleton.mp hw]
      exact (hG.1.hT.warm hW).at h1 a
    · rw [hs] at h5
      exact (Option.some.inj h5).symm
  have hrun := va_runIN (e := g_e G) (below := g_b G) (meth := g_M G) (H := H) (locs := locs) (cells := k) (slots := n) (g := F0 (g_m G) pc ls (.ref b :: st)) (rest := st) (As := []) (nL := nL) (Ts := []) ⟨hG.1.hx, hG.1.hb, hG.1.hml, hG.1.hown, fun _ h => absurd h List.not_mem_nil⟩ hM ⟨hcn, hy, hG.1.hT.at hi _⟩
    ⟨fun a U g mk q => by
      obtain ⟨q0, qB, qK, qT, qN, qA⟩ := q
      exact ⟨q0, qB, va_K.moved (u := U) (U := U.calling g mk a) (Vm.Alike.refl U.vm) qK, qT.warm (U := U.calling g mk a) (State.WarmedH.refl U), qN.same rfl, qA⟩,
    fun U hU hW1 => ⟨rfl, by rw [hU, ← hW]; unfold sx_B; rw [hE1, hE3]; exact ⟨hP, hD⟩, by
      have hKm := va_K.moved hW1.alike hG.1.hK
      have ht : bd_tys E = bd_tys (g_E G) := by unfold bd_tys; rw [show bd_cI E = bd_cI (g_E G) from congrArg (fun z => z.1) hE2, show bd_cZ E = bd_cZ (g_E G) from congrArg (fun z => z.2.1) hE2, show bd_cO E = bd_cO (g_E G) from congrArg (fun z => z.2.2) hE2]
      rw [hE1, ht]
      exact hKm, hG.1.hT.warm hW1, hG.1.hN.warm hW1, fun q hq => by rw [hE3]; rw [hU] at hq; exact hG.2.1 q (Nat.le_trans hS.1 hq)⟩⟩ rfl rfl (by rw [← hG.1.hml]; exact hl.1) rfl (lv_room hw) hd ⟨Nat.le_trans hk hG.2.2.1, Nat.le_trans hn hG.2.2.2⟩
  refine va_callv hrun hS (fun q _ h => by rw [hE3] at h; exact h) (fun q h => by rw [hE3] at h; exact h) (fun u t H1 locs1 ht _ _ hB _ _ hS1 => ?_)
  have hB2 : B u H1 := by
    subst ht
    exact hB
  exact kk u H1 locs1 ls hB2 hS1 hl
/-- a constructor of another class -/
theorem sx_initI (hG : sx_OK G cc nL own fr lo cm sm rt) {idx mL fr1 lo1 mc ms b : Nat} {y : MethodName} {bytes : ByteArray} {E : bd_E} {W : va_W} {B : (Nat → Nat) → Heap → Prop} (hE : bd_D E = bd_D (g_E G) ∧ E.2.1 = (g_E G).2.1 ∧ bd_A E = bd_A (g_E G)) (hM : sx_M (g_l G) y bytes mL fr1 lo1 mc ms E W b B) (hlk : bd_lk own idx y bytes mL none 0) (hy : y.name = "<init>") (hi : bd_in (.instanceMethod y)) (hW : W0 ++ X = W) (hf : fr1 + 1 ≤ fr) (hlo : 8 + (mL + 11) + lo1 ≤ lo) (hw : (st.map fun v => v.category).sum ≤ 8) (hk : k + mc ≤ cm) (hn : n + ms ≤ sm) (hd : decode cc pc = .ok (.invokespecial idx, 3)) (kk : ∀ u, sx_X G (B u) (k + mc) (n + ms) (pc + 3) lv st) : sx_W G W0 X k n pc lv (.ref b :: st) := by
  intro H locs ls hP hD hS hl
  obtain ⟨hE1, hE2, hE3⟩ := hE
  obtain ⟨h1, h2, h3, h4, h5⟩ := hlk
  have hcn : CallB (g_R G) (g_s G) (g_a G) own idx y bytes mL none [.code y bytes mL none] { frames := fr1, cells := mc, slots := ms, locals := lo1 } mc ms 0 := by
    refine ⟨rfl, rfl, Nat.le_trans hf hG.1.hfr, Nat.le_trans hlo hG.1.hlo, fun w hw a U hW => ?_, List.mem_singleton.mpr rfl, hG.1.hT.at h1 _, hG.1.hT.at h2 _, h4, fun sig hs => ?_, hG.1.hT.at h3 _⟩
    · rw [List.mem_singleton.mp hw]
      exact (hG.1.hT.warm hW).at h1 a
    · rw [hs] at h5
      exact (Option.some.inj h5).symm
  have hrun := va_runI (e := g_e G) (below := g_b G) (meth := g_M G) (H := H) (locs := locs) (cells := k) (slots := n) (g := F0 (g_m G) pc ls (.ref b :: st)) (rest := st) (As := []) (nL := nL) (Ts := []) ⟨hG.1.hx, hG.1.hb, hG.1.hml, hG.1.hown, fun _ h => absurd h List.not_mem_nil⟩ hM ⟨hcn, hy, hG.1.hT.at hi _⟩
    ⟨fun a U g mk q => by
      obtain ⟨q0, qB, qK, qT, qN, qA⟩ := q
      exact ⟨q0, qB, va_K.moved (u := U) (U := U.calling g mk a) (Vm.Alike.refl U.vm) qK, qT.warm (U := U.calling g mk a) (State.WarmedH.refl U), qN.same rfl, qA⟩,
    fun U hU hW1 => ⟨rfl, by rw [hU, ← hW]; unfold sx_B; rw [hE1, hE3]; exact ⟨hP, hD⟩, by
      have hKm := va_K.moved hW1.alike hG.1.hK
      have ht : bd_tys E = bd_tys (g_E G) := by unfold bd_tys; rw [show bd_cI E = bd_cI (g_E G) from congrArg (fun z => z.1) hE2, show bd_cZ E = bd_cZ (g_E G) from congrArg (fun z => z.2.1) hE2, show bd_cO E = bd_cO (g_E G) from congrArg (fun z => z.2.2) hE2]
      rw [hE1, ht]
      exact hKm, hG.1.hT.warm hW1, hG.1.hN.warm hW1, fun q hq => by rw [hE3]; rw [hU] at hq; exact hG.2.1 q (Nat.le_trans hS.1 hq)⟩⟩ rfl rfl (by rw [← hG.1.hml]; exact hl.1) rfl (lv_room hw) hd ⟨Nat.le_trans hk hG.2.2.1, Nat.le_trans hn hG.2.2.2⟩
  refine va_callv hrun hS (fun q _ h => by rw [hE3] at h; exact h) (fun q h => by rw [hE3] at h; exact h) (fun u t H1 locs1 ht _ _ hB _ _ hS1 => ?_)
  have hB2 : B u H1 := by
    subst ht
    exact hB
  exact kk u H1 locs1 ls hB2 hS1 hl
end SXC
