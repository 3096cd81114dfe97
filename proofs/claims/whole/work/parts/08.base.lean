/-! numbers: mI is a place told by one more than itself (0 says none) -/
def mI (n : Nat) : Int32 := nI n - 1
theorem mI_0 : mI 0 = -1 := by decide
theorem mI_s (n : Nat) : mI (n + 1) = nI n := nI_pred n
theorem mI_toInt {n : Nat} (h : n < 2 ^ 31) : (mI n).toInt = (n : Int) - 1 := by
  cases n with
  | zero => rw [mI_0]; decide
  | succ n => rw [mI_s, nI_toInt (by omega)]; omega
theorem mI_pos {n : Nat} (h : 0 < n) : mI n = nI (n - 1) := by
  obtain ⟨k, rfl⟩ : ∃ k, n = k + 1 := ⟨n - 1, by omega⟩
  rw [mI_s]; rfl
theorem tI_m1 : ((-1 : Int32)).toInt = -1 := by decide
theorem cq_eq {x y : Int32} {a b : Int} (hx : x.toInt = a) (hy : y.toInt = b) : x = y ↔ a = b := by
  rw [← Int32.toInt_inj, hx, hy]
theorem cq_lt {x y : Int32} {a b : Int} (hx : x.toInt = a) (hy : y.toInt = b) : x < y ↔ a < b := by
  rw [Int32.lt_iff_toInt_lt, hx, hy]
theorem cq_le {x y : Int32} {a b : Int} (hx : x.toInt = a) (hy : y.toInt = b) : x ≤ y ↔ a ≤ b := by
  rw [Int32.le_iff_toInt_le, hx, hy]
theorem i_nat {p : Int32} (h : 0 ≤ p.toInt) : ∃ k : Nat, p.toInt = (k : Int) ∧ k < 2 ^ 31 ∧ p = nI k := by
  have h2 : p.toInt < 2 ^ 31 := by have := Int32.toInt_lt p; omega
  refine ⟨p.toInt.toNat, by omega, by omega, ?_⟩
  rw [← Int32.toInt_inj, nI_toInt (by omega)]
  omega
/-- a yes or no -/
def pI (P : Prop) [Decidable P] : Int32 := if P then 1 else 0
theorem pI_t {P : Prop} [Decidable P] (h : P) : (1 : Int32) = pI P := by unfold pI; rw [if_pos h]
theorem pI_f {P : Prop} [Decidable P] (h : ¬ P) : (0 : Int32) = pI P := by unfold pI; rw [if_neg h]
theorem pI_0 {P : Prop} [Decidable P] : pI P = 0 ↔ ¬ P := by
  unfold pI
  by_cases h : P
  · rw [if_pos h]; exact ⟨fun q => absurd q (by decide), fun q => absurd h q⟩
  · rw [if_neg h]; exact ⟨fun _ => h, fun _ => rfl⟩
theorem pI_nar {P : Prop} [Decidable P] : narrow .boolean (.int (pI P)) = .int (pI P) := by
  unfold pI
  by_cases h : P
  · rw [if_pos h]; rfl
  · rw [if_neg h]; rfl
theorem pI_congr {P R : Prop} [Decidable P] [Decidable R] (h : P ↔ R) : pI P = pI R := by
  unfold pI
  by_cases q : P
  · rw [if_pos q, if_pos (h.mp q)]
  · rw [if_neg q, if_neg (fun z => q (h.mpr z))]
theorem updM {σ : Sg} {q j v : Nat} : upd (fun k => mI (σ q k)) j (mI v) = fun k => mI (setA σ q j v q k) := by
  funext k
  by_cases h : k = j
  · subst h; rw [pk_us, setA_s]
  · rw [pk_un h, setA_n h]
theorem updN {σ : Sg} {q j v : Nat} : upd (fun k => nI (σ q k)) j (nI v) = fun k => nI (setA σ q j v q k) := by
  funext k
  by_cases h : k = j
  · subst h; rw [pk_us, setA_s]
  · rw [pk_un h, setA_n h]
/-! the two worlds. σ: 0 holes, 1 carrierOf, 2 holeOf, 3 held, 4 told, 5 houses, 6 numberOf, 7 kindOf, 8 toldHole, 9 before, 10 behind, 11 items; 12 round, 13 roundSize (the reference's).
γ (the class): 0 row, 1 rowLength, 2 lay. δ (the reference): 0 fault, 1 lay, 2 seen, 3 cost, 4 found -/
abbrev Wc (cI cZ : ClassId) (ad : Nat → Nat) (σ γ : Sg) : va_W :=
  [(ad 0, .inr (0, [.int (nI (σ 0 0)), .ref (ad 1), .ref (ad 2), .ref (ad 3), .ref (ad 4), .int (nI (σ 5 0)), .ref (ad 5), .ref (ad 6), .ref (ad 7), .ref (ad 8), .ref (ad 9), .int (nI (σ 11 0)), .ref (ad 10), .int (nI (γ 1 0)), .ref (ad 11)])),
   (ad 1, .inl (cI, 200, .inl (fun k => mI (σ 1 k)))), (ad 2, .inl (cI, 200, .inl (fun k => mI (σ 2 k)))), (ad 3, .inl (cZ, 200, .inl (fun k => nI (σ 3 k)))), (ad 4, .inl (cI, 60, .inl (fun k => nI (σ 4 k)))),
   (ad 5, .inl (cI, 250, .inl (fun k => nI (σ 6 k)))), (ad 6, .inl (cI, 250, .inl (fun k => nI (σ 7 k)))), (ad 7, .inl (cI, 250, .inl (fun k => mI (σ 8 k)))), (ad 8, .inl (cI, 250, .inl (fun k => mI (σ 9 k)))), (ad 9, .inl (cI, 250, .inl (fun k => mI (σ 10 k)))),
   (ad 10, .inl (cI, 250, .inl (fun k => nI (γ 0 k)))), (ad 11, .inl (cI, 250, .inl (fun k => mI (γ 2 k))))]
abbrev Wm (cI cZ : ClassId) (ad : Nat → Nat) (σ δ : Sg) (w : Int32) : va_W :=
  [(ad 0, .inr (1, [.int (nI (σ 0 0)), .int (nI (δ 0 0)), .int (nI (σ 5 0)), .ref (ad 1), .ref (ad 2), .ref (ad 3), .ref (ad 4), .ref (ad 5), .int (nI (σ 11 0)), .ref (ad 6), .ref (ad 7), .ref (ad 8), .ref (ad 9), .ref (ad 10), .ref (ad 11), .int (nI (δ 2 0)), .int (nI (δ 3 0)), .int w, .int (mI (δ 4 0))])),
   (ad 1, .inl (cI, 200, .inl (fun k => mI (σ 1 k)))), (ad 2, .inl (cI, 200, .inl (fun k => mI (σ 2 k)))), (ad 3, .inl (cZ, 200, .inl (fun k => nI (σ 3 k)))), (ad 4, .inl (cI, 240, .inl (fun k => nI (σ 12 k)))), (ad 5, .inl (cI, 4, .inl (fun k => nI (σ 13 k)))),
   (ad 6, .inl (cI, 250, .inl (fun k => nI (σ 6 k)))), (ad 7, .inl (cI, 250, .inl (fun k => nI (σ 7 k)))), (ad 8, .inl (cI, 250, .inl (fun k => mI (σ 8 k)))), (ad 9, .inl (cI, 250, .inl (fun k => mI (σ 10 k)))), (ad 10, .inl (cI, 250, .inl (fun k => mI (σ 9 k)))), (ad 11, .inl (cI, 250, .inl (fun k => mI (δ 1 k))))]
theorem Wc_s (cI cZ : ClassId) (ad : Nat → Nat) (σ γ : Sg) (j v : Nat) :
    (Wc cI cZ ad σ γ).set 1 (ad 1, .inl (cI, 200, .inl (fun k => mI (setA σ 1 j v 1 k)))) = Wc cI cZ ad (setA σ 1 j v) γ := rfl
/-- the addresses of such a world -/
def WAd {S : Type} (Wf : S → va_W) (ad : Nat → Nat) : Prop := (∀ (u : S) (k : Nat), k < 12 → ∃ e, (Wf u)[k]? = some (ad k, e)) ∧ ∀ (u : S) (k : Nat) (q : Nat × va_E), (Wf u)[k]? = some q → ∃ j, j < 12 ∧ q.1 = ad j
theorem WAd_of {S : Type} {Wf : S → va_W} {ad : Nat → Nat} (h : ∀ u, (Wf u).map Prod.fst = (List.range 12).map ad) : WAd Wf ad := by
  constructor
  · intro u k hk
    have h1 : ((Wf u).map Prod.fst)[k]? = some (ad k) := by
      rw [h u, List.getElem?_map, List.getElem?_range hk]; rfl
    rw [List.getElem?_map] at h1
    cases hq : (Wf u)[k]? with
    | none => rw [hq] at h1; cases h1
    | some q => rw [hq] at h1; exact ⟨q.2, by rw [← Option.some.inj h1]⟩
  · intro u k q hq
    have h1 : ((Wf u).map Prod.fst)[k]? = some q.1 := by rw [List.getElem?_map, hq]; rfl
    rw [h u, List.getElem?_map] at h1
    have hk : k < 12 := by
      rcases Nat.lt_or_ge k 12 with z | z
      · exact z
      · rw [List.getElem?_eq_none (by rw [List.length_range]; exact z)] at h1; cases h1
    rw [List.getElem?_range hk] at h1
    exact ⟨k, hk, (Option.some.inj h1).symm⟩
/-- which cells such a method may change -/
def AC (ad : Nat → Nat) (sz : Nat) : Nat → Prop := fun q => (∃ k, k < 12 ∧ q = ad k) ∨ sz ≤ q
theorem AC_self {S : Type} {Wf : S → va_W} {ad : Nat → Nat} (hW : WAd Wf ad) {u : S} {B : Nat → Prop} {sz : Nat} (h : va_D B (Wf u)) : va_D (AC ad sz) (Wf u) :=
  ⟨h.1, fun k q hk => Or.inl (hW.2 u k q hk)⟩
theorem AC_in {S : Type} {Wf : S → va_W} {ad : Nat → Nat} (hW : WAd Wf ad) {u : S} {A : Nat → Prop} {H0 H : Heap} {locs : List Loc} (hD : va_D A (Wf u)) (hS : va_S A H0 H locs) (hA : ∀ q : Nat, H0.size ≤ q → A q) : ∀ q, AC ad H.size q → A q := by
  intro q h
  rcases h with ⟨k, hk, rfl⟩ | h
  · obtain ⟨e, he⟩ := hW.1 u k hk
    exact hD.2 k _ he
  · exact hA q (Nat.le_trans hS.1 h)
/-- the constants: the five places, the seconds -/
def ST (pl : Nat → Nat) (tb : Nat) (A : Nat → Prop) (U : State) (H : Heap) : Prop :=
  va_Z RX0 "STRAY" "LHandCases$Place;" (.ref (pl 0)) A U H ∧ va_Z RX0 "ASTRAY" "LHandCases$Place;" (.ref (pl 1)) A U H ∧ va_Z RX0 "DRAWER" "LHandCases$Place;" (.ref (pl 2)) A U H ∧ va_Z RX0 "LIST" "LHandCases$Place;" (.ref (pl 3)) A U H ∧ va_Z RX0 "FRAME" "LHandCases$Place;" (.ref (pl 4)) A U H ∧
  va_Z RX1 "SECONDS" "[I" (.ref tb) A U H ∧ va_T .int tb 3 (fun j => .int (if j = 0 then 2 else if j = 1 then 3 else 7)) A U H ∧ ∀ i j, i < 5 → j < 5 → pl i = pl j → i = j
theorem ST.pass {pl : Nat → Nat} {tb : Nat} {A B : Nat → Prop} {u U : State} {H H1 : Heap} (h : ST pl tb A u H) (hvm : u.vm.Alike U.vm) (hq : ∀ a : Nat, a < H.size → ¬ A a → H1[a]? = H[a]?) (hAB : ∀ q, B q → A q) : ST pl tb B U H1 := by
  obtain ⟨h0, h1, h2, h3, h4, h5, h6, h7⟩ := h
  exact ⟨(va_Z.moved hvm (h0.kept hq)).narrow hAB, (va_Z.moved hvm (h1.kept hq)).narrow hAB, (va_Z.moved hvm (h2.kept hq)).narrow hAB, (va_Z.moved hvm (h3.kept hq)).narrow hAB, (va_Z.moved hvm (h4.kept hq)).narrow hAB, (va_Z.moved hvm (h5.kept hq)).narrow hAB, (va_T.moved hvm (h6.kept hq)).narrow hAB, h7⟩
abbrev tyK (cI cZ : ClassId) : List (ClassId × FieldType) := [(cI, .int), (cZ, .boolean)]
/-- what a method starts from, and ends with -/
abbrev PreW (cI cZ : ClassId) (D : va_G) (ws : va_W) (ad pl : Nat → Nat) (tb sz : Nat) (U : State) : Prop :=
  U.heap.size = sz ∧ va_P D vwCl ws U.heap ∧ va_K D vwCl (tyK cI cZ) U ∧ va_D (fun _ => True) ws ∧ ST pl tb (AC ad sz) U U.heap
abbrev AtW {S : Type} (cI cZ : ClassId) (D : va_G) (Wf : S → va_W) (A : Nat → Prop) (u : S) (t : State) : Prop :=
  va_P D vwCl (Wf u) t.heap ∧ va_K D vwCl (tyK cI cZ) t ∧ va_D A (Wf u)
abbrev CtI {S : Type} (l : Launch) (y : MethodName) (ws : List Cond) (rm : Room) (cI cZ : ClassId) (D : va_G) (ad pl : Nat → Nat) (tb sz : Nat) (Wf : S → va_W) (u0 : S) (av : List Value) (post : Int32 → S → Prop) : Prop :=
  Met l y ws rm (va_Pc av (PreW cI cZ D (Wf u0) ad pl tb sz)) (va_Qi post (AtW cI cZ D Wf (AC ad sz)) (AC ad sz)) 0 0 (AC ad sz)
abbrev CtV {S : Type} (l : Launch) (y : MethodName) (ws : List Cond) (rm : Room) (cI cZ : ClassId) (D : va_G) (ad pl : Nat → Nat) (tb sz : Nat) (Wf : S → va_W) (u0 : S) (av : List Value) (post : S → Prop) : Prop :=
  Met l y ws rm (va_Pc av (PreW cI cZ D (Wf u0) ad pl tb sz)) (va_Qv post (AtW cI cZ D Wf (AC ad sz)) (AC ad sz)) 0 0 (AC ad sz)
/-- the answer is one of the five places -/
abbrev CtE {S : Type} (l : Launch) (y : MethodName) (ws : List Cond) (rm : Room) (cI cZ : ClassId) (D : va_G) (ad pl : Nat → Nat) (tb sz : Nat) (Wf : S → va_W) (u0 : S) (av : List Value) (post : Option Nat → S → Prop) : Prop :=
  Met l y ws rm (va_Pc av (PreW cI cZ D (Wf u0) ad pl tb sz)) (va_Qe pl post (AtW cI cZ D Wf (AC ad sz)) (AC ad sz)) 0 0 (AC ad sz)
theorem PreW.blind {cI cZ : ClassId} {D : va_G} {ws : va_W} {ad pl : Nat → Nat} {tb sz : Nat} {av : List Value} : FrameBlind (va_Pc av (PreW cI cZ D ws ad pl tb sz)) := by
  intro a U g mk h
  obtain ⟨h0, h1, h2, h3, h4, h5⟩ := h
  exact ⟨h0, h1, h2, va_K.moved (u := U) (U := U.calling g mk a) (Vm.Alike.refl U.vm) h3, h4, ST.pass (u := U) (U := U.calling g mk a) h5 (Vm.Alike.refl U.vm) (fun _ _ _ => rfl) (fun _ q => q)⟩
theorem lv_as {ls : Array Slot} {nL : Nat} {l l' : List (Nat × Value)} (h : lv_has ls nL l) (e : l = l') : lv_has ls nL l' := e ▸ h
theorem lv_c {i : Nat} {v v' : Value} {l l' : List (Nat × Value)} (e : v = v') (h : l = l') : (i, v) :: l = (i, v') :: l' := by rw [e, h]
section QW
variable {p : Program} {l : Launch} {e : Env} {R : Room} {s : State} {m : MethodId} {args : Array Value} {below : List Frame} {meth : Method} {c : Code} {H : Heap} {locs : List Loc} {cells slots : Nat} {Q : State → Prop}
variable {cc : ByteArray} {pc : Nat} {ls : Array Slot} {rest : List Value} {D : va_G} {cl : List vw_C} {A : Nat → Prop} {a : Nat} {tys : List (ClassId × FieldType)} {ws : va_W} {H0 : Heap}
theorem q_vin {x : Int32} {j n : Nat} (hi : x.toInt = (j : Int)) (hj : j < n) : vp_in x n := vp_in_iff.mpr ⟨by omega, by omega⟩
theorem q_clamp {x : Int32} {j : Nat} (hi : x.toInt = (j : Int)) : x.toNatClampNeg = j := by
  have : x.toNatClampNeg = x.toInt.toNat := rfl
  omega
theorem q_iald (hexec : p.tables.exec = Jvm.exec) (hb : c.code = cc) (hK : va_K D cl tys s) (hP : va_P D cl ws H) (q0 t0 : Nat) {cA : ClassId} {n : Nat} {f : Nat → Int32} (ha : ws[q0]? = some (a, .inl (cA, n, .inl f))) (ht : tys[t0]? = some (cA, .int)) {i v : Int32} (j : Nat) (hi : i.toInt = (j : Int)) (hj : j < n) (hv : f j = v) (hdg : decode cc pc = .ok (.iaload, 1))
    (kk : W p l e R s m args below meth c H locs cells slots Q (F0 m (pc + 1) ls (.int v :: rest))) : W p l e R s m args below meth c H locs cells slots Q (F0 m pc ls (.int i :: .ref a :: rest)) := by
  refine va_iald hexec hb hK hP q0 t0 ha ht (q_vin hi hj) hdg ?_
  rw [q_clamp hi, hv]
  exact kk
theorem q_zald (hexec : p.tables.exec = Jvm.exec) (hb : c.code = cc) (hK : va_K D cl tys s) (hP : va_P D cl ws H) (q0 t0 : Nat) {cA : ClassId} {n : Nat} {f : Nat → Int32} (ha : ws[q0]? = some (a, .inl (cA, n, .inl f))) (ht : tys[t0]? = some (cA, .boolean)) {i v : Int32} (j : Nat) (hi : i.toInt = (j : Int)) (hj : j < n) (hv : f j = v) (hdg : decode cc pc = .ok (.baload, 1))
    (kk : W p l e R s m args below meth c H locs cells slots Q (F0 m (pc + 1) ls (.int v :: rest))) : W p l e R s m args below meth c H locs cells slots Q (F0 m pc ls (.int i :: .ref a :: rest)) := by
  refine va_zald hexec hb hK hP q0 t0 ha ht (q_vin hi hj) hdg ?_
  rw [q_clamp hi, hv]
  exact kk
theorem q_iast (hexec : p.tables.exec = Jvm.exec) (hb : c.code = cc) (hK : va_K D cl tys s) (hP : va_P D cl ws H) (hD : va_D A ws) (hS : va_S A H0 H locs) (q0 t0 : Nat) {cA : ClassId} {n : Nat} {f f2 : Nat → Int32} {ws2 : va_W} (ha : ws[q0]? = some (a, .inl (cA, n, .inl f))) (ht : tys[t0]? = some (cA, .int)) {i x : Int32} (j : Nat) (hi : i.toInt = (j : Int)) (hj : j < n) (hf : upd f j x = f2) (hw : ws.set q0 (a, .inl (cA, n, .inl f2)) = ws2) (hdg : decode cc pc = .ok (.iastore, 1))
    (kk : ∀ (H1 : Heap) (locs1 : List Loc), va_P D cl ws2 H1 → va_D A ws2 → va_S A H0 H1 locs1 → W p l e R s m args below meth c H1 locs1 cells slots Q (F0 m (pc + 1) ls rest)) : W p l e R s m args below meth c H locs cells slots Q (F0 m pc ls (.int x :: .int i :: .ref a :: rest)) := by
  refine va_iast hexec hb hK hP hD hS q0 t0 ha ht (q_vin hi hj) hdg ?_
  rw [q_clamp hi, hf, hw]
  exact kk
theorem q_zast (hexec : p.tables.exec = Jvm.exec) (hb : c.code = cc) (hK : va_K D cl tys s) (hP : va_P D cl ws H) (hD : va_D A ws) (hS : va_S A H0 H locs) (q0 t0 : Nat) {cA : ClassId} {n : Nat} {f f2 : Nat → Int32} {ws2 : va_W} (ha : ws[q0]? = some (a, .inl (cA, n, .inl f))) (ht : tys[t0]? = some (cA, .boolean)) {i x : Int32} (j : Nat) (hi : i.toInt = (j : Int)) (hj : j < n) (hf : upd f j (vp_nar .boolean x) = f2) (hw : ws.set q0 (a, .inl (cA, n, .inl f2)) = ws2) (hdg : decode cc pc = .ok (.bastore, 1))
    (kk : ∀ (H1 : Heap) (locs1 : List Loc), va_P D cl ws2 H1 → va_D A ws2 → va_S A H0 H1 locs1 → W p l e R s m args below meth c H1 locs1 cells slots Q (F0 m (pc + 1) ls rest)) : W p l e R s m args below meth c H locs cells slots Q (F0 m pc ls (.int x :: .int i :: .ref a :: rest)) := by
  refine va_zast hexec hb hK hP hD hS q0 t0 ha ht (q_vin hi hj) hdg ?_
  rw [q_clamp hi, hf, hw]
  exact kk
theorem q_topi {x : Int32} (y : Int32) (h : x = y) (k : W p l e R s m args below meth c H locs cells slots Q (F0 m pc ls (.int y :: rest))) : W p l e R s m args below meth c H locs cells slots Q (F0 m pc ls (.int x :: rest)) := by rw [h]; exact k
/-- the end of a method that answers a number -/
theorem ret_i {S : Type} {Wf : S → va_W} {ad : Nat → Nat} {cI cZ : ClassId} {post : Int32 → S → Prop} {v : Int32} {ty : FieldType} (u : S) (hexec : p.tables.exec = Jvm.exec) (hb : c.code = cc) (hr : meth.sig.returnType = some ty) (hn : narrow ty (.int v) = .int v) (hK : va_K D vwCl (tyK cI cZ) s) (hlocks : meth.locks = false) (hP : va_P D vwCl (Wf u) H) (hD : va_D (AC ad s.heap.size) (Wf u)) (hS : va_S (AC ad s.heap.size) s.heap H locs) (hp : post v u) (hdg : decode cc pc = .ok (.ireturn, 1)) :
    W p l e R s m args below meth c H locs cells slots (MQ below (va_Qi post (AtW cI cZ D Wf (AC ad s.heap.size)) (AC ad s.heap.size)) args s cells slots (AC ad s.heap.size)) (F0 m pc ls [.int v]) :=
  W.zret hexec hb hr hn (fun t ht hW => ⟨⟨v, u, rfl, hp, by rw [ht]; exact hP, va_K.moved hW.alike hK, hD⟩, hS.F ht⟩) hS.2.2 hdg hlocks
theorem ret_v {S : Type} {Wf : S → va_W} {ad : Nat → Nat} {cI cZ : ClassId} {post : S → Prop} (u : S) (hexec : p.tables.exec = Jvm.exec) (hb : c.code = cc) (hr : meth.sig.returnType = none) (hK : va_K D vwCl (tyK cI cZ) s) (hlocks : meth.locks = false) (hP : va_P D vwCl (Wf u) H) (hD : va_D (AC ad s.heap.size) (Wf u)) (hS : va_S (AC ad s.heap.size) s.heap H locs) (hp : post u) (hdg : decode cc pc = .ok (.return_, 1)) :
    W p l e R s m args below meth c H locs cells slots (MQ below (va_Qv post (AtW cI cZ D Wf (AC ad s.heap.size)) (AC ad s.heap.size)) args s cells slots (AC ad s.heap.size)) (F0 m pc ls []) :=
  W.vret hexec hb hr (fun t ht hW => ⟨⟨u, rfl, hp, by rw [ht]; exact hP, va_K.moved hW.alike hK, hD⟩, hS.F ht⟩) hS.2.2 hdg hlocks
theorem ret_e {S : Type} {Wf : S → va_W} {ad pl : Nat → Nat} {cI cZ : ClassId} {post : Option Nat → S → Prop} {E : String} (k : Nat) (u : S) (hexec : p.tables.exec = Jvm.exec) (hb : c.code = cc) (hr : meth.sig.returnType = some (.object E)) (hK : va_K D vwCl (tyK cI cZ) s) (hlocks : meth.locks = false) (hP : va_P D vwCl (Wf u) H) (hD : va_D (AC ad s.heap.size) (Wf u)) (hS : va_S (AC ad s.heap.size) s.heap H locs) (hp : post (some k) u) (hdg : decode cc pc = .ok (.areturn, 1)) :
    W p l e R s m args below meth c H locs cells slots (MQ below (va_Qe pl post (AtW cI cZ D Wf (AC ad s.heap.size)) (AC ad s.heap.size)) args s cells slots (AC ad s.heap.size)) (F0 m pc ls [.ref (pl k)]) :=
  W.aret hexec hb hr (Or.inl ⟨E, rfl⟩) (Or.inr ⟨pl k, rfl⟩) (fun t ht hW => ⟨⟨some k, u, rfl, hp, by rw [ht]; exact hP, va_K.moved hW.alike hK, hD⟩, hS.F ht⟩) hS.2.2 hdg hlocks
theorem W_loop {ι : Type} (pc0 : Nat) (I : ι → Heap → List Loc → Array Slot → Prop) (μ : ι → Nat) {st : List Value}
    (step : ∀ (x : ι) (H : Heap) (locs : List Loc) (ls : Array Slot), I x H locs ls → (∀ (y : ι) (H1 : Heap) (locs1 : List Loc) (ls1 : Array Slot), I y H1 locs1 ls1 → μ y < μ x → W p l e R s m args below meth c H1 locs1 cells slots Q (F0 m pc0 ls1 st)) → W p l e R s m args below meth c H locs cells slots Q (F0 m pc0 ls st)) :
    ∀ (x : ι) (H : Heap) (locs : List Loc) (ls : Array Slot), I x H locs ls → W p l e R s m args below meth c H locs cells slots Q (F0 m pc0 ls st) := by
  have key : ∀ (n : Nat) (x : ι) (H : Heap) (locs : List Loc) (ls : Array Slot), μ x < n → I x H locs ls → W p l e R s m args below meth c H locs cells slots Q (F0 m pc0 ls st) := by
    intro n
    induction n with
    | zero => intro x H locs ls h; omega
    | succ n ih => intro x H locs ls h hI; exact step x H locs ls hI (fun y H1 locs1 ls1 hy hm => ih y H1 locs1 ls1 (by omega) hy)
  exact fun x H locs ls hI => key (μ x + 1) x H locs ls (by omega) hI
section QC
variable {S : Type} {Wf : S → va_W} {ad pl : Nat → Nat} {cI cZ : ClassId} {tb : Nat} {u0 : S} {As st : List Value} {nL n index maxL : Nat} {own C : String} {y : MethodName} {bytes : ByteArray} {ret : Option FieldType} {wsY Ts : List Cond} {rm : Room}
theorem pre_V (hW : WAd Wf ad) {b : Addr} (hrc : ∃ cell : Cell, H[b]? = some cell ∧ cell.vm.isStatics = false ∧ s.vm.findClass C = some cell.cls) (hK : va_K D vwCl (tyK cI cZ) s) (hP : va_P D vwCl (Wf u0) H) (hD : va_D A (Wf u0)) (hS : va_S A s.heap H locs) (hA : ∀ q : Nat, s.heap.size ≤ q → A q) (hZ : ST pl tb A s s.heap) :
    PreV s H C b (va_Pc (.ref b :: As) (PreW cI cZ D (Wf u0) ad pl tb H.size)) As :=
  ⟨PreW.blind, hrc, fun U hU hWm => ⟨rfl, by rw [hU], by rw [hU]; exact hP, va_K.moved hWm.alike hK, hD.weaken (fun _ _ _ _ => trivial), hZ.pass hWm.alike (fun a h1 h2 => by rw [hU]; exact hS.2.1 a h1 h2) (AC_in hW hD hS hA)⟩⟩
theorem call_i {post : Int32 → S → Prop} (hW : WAd Wf ad) (Fx : CallFix p m c cc nL s args Ts own) (hM : CtI l y wsY rm cI cZ D ad pl tb H.size Wf u0 (.ref (ad 0) :: As) post) (cw : CallW R s args own C index y bytes maxL ret wsY rm 0 0 n)
    (hrc : ∃ cell : Cell, H[ad 0]? = some cell ∧ cell.vm.isStatics = false ∧ s.vm.findClass C = some cell.cls) (hK : va_K D vwCl (tyK cI cZ) s) (hP : va_P D vwCl (Wf u0) H) (hD : va_D A (Wf u0)) (hS : va_S A s.heap H locs) (hA : ∀ q : Nat, s.heap.size ≤ q → A q) (hZ : ST pl tb A s s.heap)
    (hn : As.length = n) (hst : st = As.reverse ++ .ref (ad 0) :: rest) (hrest : (rest.map fun v => v.category).sum ≤ 8) (hsz : ls.size = nL) (hdg : decode cc pc = .ok (.invokevirtual index, 3)) (hf : cells ≤ R.cells ∧ slots ≤ R.slots)
    (kk : ∀ (r : Int32) (u : S) (H1 : Heap) (locs1 : List Loc), post r u → va_P D vwCl (Wf u) H1 → va_D A (Wf u) → va_S A s.heap H1 locs1 → W p l e R s m args below meth c H1 locs1 cells slots Q (F0 m (pc + 3) ls (.int r :: rest))) : W p l e R s m args below meth c H locs cells slots Q (F0 m pc ls st) :=
  va_calli (va_runV (As := As) (rest := rest) Fx hM cw (pre_V hW hrc hK hP hD hS hA hZ) rfl hn hsz hst (lv_room hrest) hdg ⟨by simpa using hf.1, by simpa using hf.2⟩) hS (fun q _ h => AC_in hW hD hS hA q h) (AC_in hW hD hS hA)
    (fun r u t H1 locs1 ht hvm hp hB hz hk hS1 => kk r u H1 locs1 hp (by rw [← ht]; exact hB.1) (hB.2.2.weaken (fun _ q _ h => AC_in hW hD hS hA q.1 h)) hS1)
theorem call_v {post : S → Prop} (hW : WAd Wf ad) (Fx : CallFix p m c cc nL s args Ts own) (hM : CtV l y wsY rm cI cZ D ad pl tb H.size Wf u0 (.ref (ad 0) :: As) post) (cw : CallW R s args own C index y bytes maxL ret wsY rm 0 0 n)
    (hrc : ∃ cell : Cell, H[ad 0]? = some cell ∧ cell.vm.isStatics = false ∧ s.vm.findClass C = some cell.cls) (hK : va_K D vwCl (tyK cI cZ) s) (hP : va_P D vwCl (Wf u0) H) (hD : va_D A (Wf u0)) (hS : va_S A s.heap H locs) (hA : ∀ q : Nat, s.heap.size ≤ q → A q) (hZ : ST pl tb A s s.heap)
    (hn : As.length = n) (hst : st = As.reverse ++ .ref (ad 0) :: rest) (hrest : (rest.map fun v => v.category).sum ≤ 8) (hsz : ls.size = nL) (hdg : decode cc pc = .ok (.invokevirtual index, 3)) (hf : cells ≤ R.cells ∧ slots ≤ R.slots)
    (kk : ∀ (u : S) (H1 : Heap) (locs1 : List Loc), post u → va_P D vwCl (Wf u) H1 → va_D A (Wf u) → va_S A s.heap H1 locs1 → W p l e R s m args below meth c H1 locs1 cells slots Q (F0 m (pc + 3) ls rest)) : W p l e R s m args below meth c H locs cells slots Q (F0 m pc ls st) :=
  va_callv (va_runV (As := As) (rest := rest) Fx hM cw (pre_V hW hrc hK hP hD hS hA hZ) rfl hn hsz hst (lv_room hrest) hdg ⟨by simpa using hf.1, by simpa using hf.2⟩) hS (fun q _ h => AC_in hW hD hS hA q h) (AC_in hW hD hS hA)
    (fun u t H1 locs1 ht hvm hp hB hz hk hS1 => kk u H1 locs1 hp (by rw [← ht]; exact hB.1) (hB.2.2.weaken (fun _ q _ h => AC_in hW hD hS hA q.1 h)) hS1)
theorem call_e {post : Option Nat → S → Prop} (hW : WAd Wf ad) (Fx : CallFix p m c cc nL s args Ts own) (hM : CtE l y wsY rm cI cZ D ad pl tb H.size Wf u0 (.ref (ad 0) :: As) post) (cw : CallW R s args own C index y bytes maxL ret wsY rm 0 0 n)
    (hrc : ∃ cell : Cell, H[ad 0]? = some cell ∧ cell.vm.isStatics = false ∧ s.vm.findClass C = some cell.cls) (hK : va_K D vwCl (tyK cI cZ) s) (hP : va_P D vwCl (Wf u0) H) (hD : va_D A (Wf u0)) (hS : va_S A s.heap H locs) (hA : ∀ q : Nat, s.heap.size ≤ q → A q) (hZ : ST pl tb A s s.heap)
    (hn : As.length = n) (hst : st = As.reverse ++ .ref (ad 0) :: rest) (hrest : (rest.map fun v => v.category).sum ≤ 8) (hsz : ls.size = nL) (hdg : decode cc pc = .ok (.invokevirtual index, 3)) (hf : cells ≤ R.cells ∧ slots ≤ R.slots)
    (kk : ∀ (r : Option Nat) (u : S) (H1 : Heap) (locs1 : List Loc), post r u → va_P D vwCl (Wf u) H1 → va_D A (Wf u) → va_S A s.heap H1 locs1 → W p l e R s m args below meth c H1 locs1 cells slots Q (F0 m (pc + 3) ls (va_re pl r :: rest))) : W p l e R s m args below meth c H locs cells slots Q (F0 m pc ls st) :=
  va_calle (va_runV (As := As) (rest := rest) Fx hM cw (pre_V hW hrc hK hP hD hS hA hZ) rfl hn hsz hst (lv_room hrest) hdg ⟨by simpa using hf.1, by simpa using hf.2⟩) hS (fun q _ h => AC_in hW hD hS hA q h) (AC_in hW hD hS hA)
    (fun r u t H1 locs1 ht hvm hp hB hz hk hS1 => kk r u H1 locs1 hp (by rw [← ht]; exact hB.1) (hB.2.2.weaken (fun _ q _ h => AC_in hW hD hS hA q.1 h)) hS1)
/-- a static one: the world only passes by -/
theorem call_si {post : Int32 → S → Prop} (hW : WAd Wf ad) (Fx : CallFix p m c cc nL s args Ts own) (hM : CtI l y wsY rm cI cZ D ad pl tb H.size Wf u0 As post) (cw : CallB R s args own index y bytes maxL ret wsY rm 0 0 n ∧ (Cond.static y).before args s = true)
    (hK : va_K D vwCl (tyK cI cZ) s) (hP : va_P D vwCl (Wf u0) H) (hD : va_D A (Wf u0)) (hS : va_S A s.heap H locs) (hA : ∀ q : Nat, s.heap.size ≤ q → A q) (hZ : ST pl tb A s s.heap)
    (hn : As.length = n) (hst : st = As.reverse ++ rest) (hrest : (rest.map fun v => v.category).sum ≤ 8) (hsz : ls.size = nL) (hdg : decode cc pc = .ok (.invokestatic index, 3)) (hf : cells ≤ R.cells ∧ slots ≤ R.slots)
    (kk : ∀ (r : Int32) (u : S) (H1 : Heap) (locs1 : List Loc), post r u → va_P D vwCl (Wf u) H1 → va_D A (Wf u) → va_S A s.heap H1 locs1 → W p l e R s m args below meth c H1 locs1 cells slots Q (F0 m (pc + 3) ls (.int r :: rest))) : W p l e R s m args below meth c H locs cells slots Q (F0 m pc ls st) :=
  va_calli (va_runS (As := As) (rest := rest) Fx hM cw ⟨PreW.blind, fun U hU hWm => ⟨rfl, by rw [hU], by rw [hU]; exact hP, va_K.moved hWm.alike hK, hD.weaken (fun _ _ _ _ => trivial), hZ.pass hWm.alike (fun a h1 h2 => by rw [hU]; exact hS.2.1 a h1 h2) (AC_in hW hD hS hA)⟩⟩ rfl hn hsz hst (lv_room hrest) hdg ⟨by simpa using hf.1, by simpa using hf.2⟩) hS (fun q _ h => AC_in hW hD hS hA q h) (AC_in hW hD hS hA)
    (fun r u t H1 locs1 ht hvm hp hB hz hk hS1 => kk r u H1 locs1 hp (by rw [← ht]; exact hB.1) (hB.2.2.weaken (fun _ q _ h => AC_in hW hD hS hA q.1 h)) hS1)
end QC
end QW
abbrev WC (cI cZ : ClassId) (ad : Nat → Nat) : Sg × Sg → va_W := fun u => Wc cI cZ ad u.1 u.2
abbrev WM (cI cZ : ClassId) (ad : Nat → Nat) : Sg × Sg × Int32 → va_W := fun u => Wm cI cZ ad u.1 u.2.1 u.2.2
theorem WAd_c {cI cZ : ClassId} {ad : Nat → Nat} : WAd (WC cI cZ ad) ad := WAd_of (fun _ => rfl)
theorem WAd_m {cI cZ : ClassId} {ad : Nat → Nat} : WAd (WM cI cZ ad) ad := WAd_of (fun _ => rfl)
abbrev isH (σ : Sg) (p : Int32) : Prop := 0 ≤ p.toInt ∧ p.toInt < 200 ∧ σ 1 p.toInt.toNat ≠ 0
theorem isH_n {σ : Sg} {n : Nat} (h : n < 200) : isH σ (nI n) ↔ σ 1 n ≠ 0 := by
  have e : (nI n).toInt = (n : Int) := nI_toInt (by omega)
  show 0 ≤ (nI n).toInt ∧ (nI n).toInt < 200 ∧ σ 1 (nI n).toInt.toNat ≠ 0 ↔ _
  rw [e]
  have e2 : ((n : Int)).toNat = n := by omega
  rw [e2]
  constructor
  · intro h; exact h.2.2
  · intro h; exact ⟨by omega, by omega, h⟩
/-- place p of a row of numbers, or -1 -/
def pickI (p : Int32) (L : List Nat) : Int32 := if 0 ≤ p.toInt ∧ p.toInt < (L.length : Int) then nI (L.getD p.toInt.toNat 0) else -1
theorem pickI_at {p : Int32} {a r : List Nat} {x : Nat} (h : p.toInt = (a.length : Int)) : nI x = pickI p (a ++ [x] ++ r) := by
  unfold pickI
  have e : p.toInt.toNat = a.length := by omega
  rw [if_pos (by simp; omega), e]
  simp [List.getD]
theorem pickI_no {p : Int32} {L : List Nat} (h : ¬ (0 ≤ p.toInt ∧ p.toInt < (L.length : Int))) : (-1 : Int32) = pickI p L := by
  unfold pickI; rw [if_neg h]
theorem sec_I (k : Nat) : Value.int (if k = 0 then 2 else if k = 1 then 3 else 7) = Value.int (nI (sec k)) := by
  unfold sec
  split
  · rfl
  · split <;> rfl
theorem nar_z {n : Nat} (h : n ≤ 1) : vp_nar .boolean (nI n) = nI n := by
  rcases (show n = 0 ∨ n = 1 by omega) with rfl | rfl <;> rfl
theorem nar_z2 {n : Nat} (h : n ≤ 1) : narrow .boolean (.int (nI n)) = .int (nI n) := by
  rcases (show n = 0 ∨ n = 1 by omega) with rfl | rfl <;> rfl
