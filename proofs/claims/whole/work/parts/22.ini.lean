/-! the start: what a new object holds -/
def sg0 (n : Nat) : Sg := fun a _ => if a = 0 then n else if a = 8 then 1 else if a = 9 then 1 else if a = 10 then 1 else 0
def gz : Sg := fun a _ => if a = 2 then 1 else 0
def dz : Sg := fun a _ => if a = 1 then 1 else if a = 4 then 1 else 0
def clN (p : Int32) : Nat := if p.toInt < 1 then 1 else if 40 < p.toInt then 40 else p.toInt.toNat
theorem clN_bd (p : Int32) : 1 ≤ clN p ∧ clN p ≤ 40 := by
  unfold clN
  split
  · omega
  · split <;> omega
theorem clN_1 {p : Int32} (h : p.toInt < 1) : (1 : Int32) = nI (clN p) := by unfold clN; rw [if_pos h]; rfl
theorem clN_40 {p : Int32} (h : 40 < p.toInt) : (40 : Int32) = nI (clN p) := by unfold clN; rw [if_neg (by omega), if_pos h]; rfl
theorem clN_p {p : Int32} (h1 : ¬ p.toInt < 1) (h2 : ¬ 40 < p.toInt) : p = nI (clN p) := by
  unfold clN
  rw [if_neg h1, if_neg h2, ← Int32.toInt_inj, nI_toInt (by omega)]
  omega
theorem clN_mm (p : Int32) : (if (1 : Int32) < (if p < 40 then p else 40) then (if p < 40 then p else 40) else 1) = nI (clN p) := by
  have e40 : (40 : Int32).toInt = 40 := by decide
  have e1 : (1 : Int32).toInt = 1 := by decide
  by_cases h : p < 40
  · rw [if_pos h]
    have h' := (cq_lt rfl e40).mp h
    by_cases h2 : (1 : Int32) < p
    · rw [if_pos h2]
      have h2' := (cq_lt e1 rfl).mp h2
      exact clN_p (by omega) (by omega)
    · rw [if_neg h2]
      have h2' := mt (cq_lt e1 rfl).mpr h2
      by_cases q : p.toInt < 1
      · exact clN_1 q
      · have e : p = 1 := (cq_eq rfl e1).mpr (by omega)
        rw [e]; rfl
  · rw [if_neg h]
    have h' := mt (cq_lt rfl e40).mpr h
    rw [if_pos (by decide)]
    by_cases q : 40 < p.toInt
    · exact clN_40 q
    · exact clN_p (by omega) q |> fun z => (show (40 : Int32) = p from ((cq_eq rfl e40).mpr (by omega)).symm).trans z
theorem Inv0 {n : Nat} (h1 : 1 ≤ n) (h2 : n ≤ 40) : Inv (sg0 n) := by
  refine ⟨⟨⟨h1, h2⟩, fun _ => Nat.zero_le _, fun _ => Nat.zero_le _, fun _ => Nat.zero_le _, fun _ => ?_, Nat.zero_le _, fun _ => ?_, fun _ => Nat.zero_le _, fun _ => h1, fun _ => ?_, fun _ => ?_, Nat.zero_le _, fun _ => ?_, fun _ => Nat.zero_le _⟩, ⟨fun _ _ _ => ⟨rfl, rfl⟩, fun k hk => absurd hk (Nat.not_lt_zero k), fun j _ hj => absurd hj (Nat.not_lt_zero j), fun h _ e => absurd rfl e⟩, fun c _ => ⟨rfl, rfl⟩, fun _ => 0, fun _ => 0, fun _ => 0, fun i hi => absurd hi (Nat.not_lt_zero i), fun i hi => absurd hi (Nat.not_lt_zero i), fun i hi => absurd hi (Nat.not_lt_zero i), fun i hi => absurd hi (Nat.not_lt_zero i), fun i hi => absurd hi (Nat.not_lt_zero i), rfl⟩
  · show 0 < 200; decide
  · show 0 < 200; decide
  · show 1 ≤ 250; decide
  · show 1 ≤ 250; decide
  · show 0 < 200; decide
theorem mI_1 : mI 1 = 0 := by decide
def adr (L : List Nat) : Nat → Nat := fun k => L.getD k 0
theorem arrV_ext {cA : ClassId} {n : Nat} {f g : Nat → Int32} (h : ∀ j, j < n → f j = g j) : arrV cA n (fun j => .int (f j)) = arrV cA n (fun j => .int (g j)) := by
  have e : (fun j : Fin n => Value.int (f j.val)) = fun j : Fin n => Value.int (g j.val) := funext fun j => by rw [h j.val j.isLt]
  unfold arrV
  rw [e]
theorem q_ext {D : va_G} {cl : List vw_C} {a : Nat} {cA : ClassId} {n : Nat} {f g : Nat → Int32} {H : Heap} (hP : va_P D cl [(a, .inl (cA, n, .inl f))] H) (h : ∀ j, j < n → f j = g j) : va_P D cl [(a, .inl (cA, n, .inl g))] H := by
  intro k q hk
  have hz : k < 1 := (List.getElem?_eq_some_iff.mp hk).1
  rw [show k = 0 by omega] at hk
  cases hk
  have h1 := hP 0 _ rfl
  show H[a]? = some (arrV cA n (fun j => .int (g j)))
  rw [← arrV_ext h]
  exact h1
theorem q_extD {A : Nat → Prop} {a : Nat} {e e' : va_E} (h : va_D A [(a, e)]) : va_D A [(a, e')] := h.set (p := 0) (e := e') rfl
theorem upd_lt (f : Nat → Int32) (i : Nat) (v : Int32) : upd (fun j => if j < i then v else f j) i v = fun j => if j < i + 1 then v else f j := by
  funext j
  show (if j = i then v else (if j < i then v else f j)) = (if j < i + 1 then v else f j)
  by_cases h : j = i
  · rw [if_pos h, if_pos (by omega)]
  · rw [if_neg h]
    by_cases h2 : j < i
    · rw [if_pos h2, if_pos (by omega)]
    · rw [if_neg h2, if_neg (by omega)]
section QN
variable {p : Program} {l : Launch} {e : Env} {R : Room} {s : State} {m : MethodId} {args : Array Value} {below : List Frame} {meth : Method} {c : Code} {H : Heap} {locs : List Loc} {cells slots : Nat} {Q : State → Prop}
variable {cc : ByteArray} {pc : Nat} {ls : Array Slot} {rest : List Value} {D : va_G} {cl : List vw_C} {A : Nat → Prop} {a : Nat} {tys : List (ClassId × FieldType)} {ws : va_W} {H0 : Heap}
/-- a new array of numbers, its class among those that are known -/
theorem q_newa (hexec : p.tables.exec = Jvm.exec) (hb : c.code = cc) {atype : ArrayType} (harr : (Cond.arrayClass (newarray.typeOf atype)).before args s = true) {ty : FieldType} (hty : newarray.typeOf atype = ty) (hdv : defaultValue ty = .int 0) (hra : ∀ (cA : ClassId), va_RA s cA ty → s.vm.findClass ("[" ++ ty.toString) = some cA)
    (hK : va_K D cl tys s) (hP : va_P D cl ws H) (hD : va_D A ws) (hS : va_S A H0 H locs) (hA : ∀ q, H0.size ≤ q → A q) (t0 : Nat) {cI : ClassId} (ht : tys[t0]? = some (cI, ty)) (f : Nat → Int32) (hf : ∀ j, f j = 0) (N' : Nat) {n : Int32} (hn : ¬ n < 0) (hN : n.toNatClampNeg = N') (hbytes : N' * componentBytes ty ≤ 536870912) (hcells : cells + 1 ≤ R.cells) (hslots : slots + N' ≤ R.slots) (hdg : decode cc pc = .ok (.newarray atype, 2))
    (kk : ∀ (q : Nat) (H1 : Heap), va_P D cl (ws ++ [(q, .inl (cI, N', .inl f))]) H1 → va_D A (ws ++ [(q, .inl (cI, N', .inl f))]) → va_S A H0 H1 locs → W p l e R s m args below meth c H1 locs (cells + 1) (slots + N') Q (F0 m (pc + 2) ls (.ref q :: rest))) : W p l e R s m args below meth c H locs cells slots Q (F0 m pc ls (.int n :: rest)) := by
  refine va_newa hexec hb harr hty hK hP hD hS hA (a0 := (N', .inl f)) (fun cA => ?_) hn hN hbytes hcells hslots hdg (fun q cA H1 hK1 hP1 hD1 hS1 => ?_)
  · show arrV cA N' (fun j => .int (f j)) = arrV cA N' (fun _ => defaultValue ty)
    rw [hdv]
    exact congrArg (arrV cA N') (funext fun j => congrArg Value.int (hf j))
  · have h1 := hra _ (hK.2 t0 _ ht).2
    have h2 := hra _ (hK1.2 tys.length (cA, ty) (by simp)).2
    have e9 : cA = cI := Option.some.inj (h2.symm.trans h1)
    rw [e9] at hP1 hD1
    exact kk q H1 hP1 hD1 hS1
/-- several ways meet -/
theorem q_hub (pc0 : Nat) (st0 : List Value) (I : Heap → List Loc → Array Slot → Prop) (hub : ∀ (H : Heap) (locs : List Loc) (ls : Array Slot), I H locs ls → W p l e R s m args below meth c H locs cells slots Q (F0 m pc0 ls st0))
    (k : (∀ (H : Heap) (locs : List Loc) (ls : Array Slot), I H locs ls → W p l e R s m args below meth c H locs cells slots Q (F0 m pc0 ls st0)) → W p l e R s m args below meth c H locs cells slots Q (F0 m pc ls rest)) : W p l e R s m args below meth c H locs cells slots Q (F0 m pc ls rest) := k hub
end QN
set_option maxHeartbeats 4000000 in
set_option maxRecDepth 100000 in
/-- Arrays.fill -/
theorem c_J7_fill (l : Launch) (cI : ClassId) (D : va_G) (a n sz : Nat) (f g : Nat → Int32) (v : Int32) (hn : n < 2 ^ 31) (hg : ∀ j, j < n → v = g j) : Met l yJ7_fill_53178 wsJ7_fill_53178 ({ frames := 0, cells := 0, slots := 0, locals := 0 }) (va_Pc [.ref a, .int v] (fun U => U.heap.size = sz ∧ va_P D vwCl [(a, .inl (cI, n, .inl f))] U.heap ∧ va_K D vwCl [(cI, .int)] U ∧ va_D (fun _ => True) [(a, .inl (cI, n, .inl f))]))
    (va_Qv (fun _ : Unit => True) (fun _ t => va_P D vwCl [(a, .inl (cI, n, .inl g))] t.heap ∧ va_K D vwCl [(cI, .int)] t ∧ va_D (va_A [(a, .inl (cI, n, .inl f))] sz) [(a, .inl (cI, n, .inl g))]) (va_A [(a, .inl (cI, n, .inl f))] sz)) 0 0 (va_A [(a, .inl (cI, n, .inl f))] sz) := by
  refine Met.ofW (cc := cJ7_fill_53178) (maxL := 4) (ret := none) (by decide) rfl ?_
  intro p e s m args below meth c s₁ B hml hv
  obtain ⟨rfl, hsz, hP, hK, hD0⟩ := hv
  have hx := B.exec
  have hb := B.bytes
  have hr := B.returns
  have hlocks := B.notSynchronized
  subst hsz
  have hD := hD0.self (sz := s.heap.size)
  generalize hAe : va_A [(a, .inl (cI, n, .inl f))] s.heap.size = A at hD ⊢
  have hS : va_S A s.heap s.heap [] := va_S.rf
  have hl := lv_entry ([.ref a, .int v]) (n := 4) (Nat.le_of_ble_eq_true rfl)
  rw [lg_entry_eq]
  generalize (lg_sl ([.ref a, .int v]) ++ List.replicate (4 - (lg_sl ([.ref a, .int v])).length) Slot.unset).toArray = ls at hl ⊢
  have hl : lv_has ls 4 [(0, .ref a), (1, .int v)] := hl
  have hP : va_P D vwCl [(a, .inl (cI, n, .inl f))] s.heap := hP
  refine lv_iconst (v := 0) hx hb dJ7_fill_53178_0 (by decide) ?_
  refine lv_istore_n (lv' := [(2, .int 0), (0, .ref a), (1, .int v)]) hx hb dJ7_fill_53178_1 rfl hl (by decide) rfl (fun ls hl => ?_)
  refine lv_aload_n hx hb dJ7_fill_53178_2 rfl (lv_at hl 1 rfl) ?_
  refine va_alen hx hb hK hP 0 0 rfl rfl (v := nI n) rfl dJ7_fill_53178_3 ?_
  refine lv_istore_n (lv' := [(3, .int (nI n)), (2, .int 0), (0, .ref a), (1, .int v)]) hx hb dJ7_fill_53178_4 rfl hl (by decide) rfl (fun ls hl => ?_)
  refine W_loop (ι := Nat) 5 (fun (i : Nat) H locs ls => i ≤ n ∧ va_P D vwCl [(a, .inl (cI, n, .inl (fun j => if j < i then v else f j)))] H ∧ va_D A [(a, .inl (cI, n, .inl (fun j => if j < i then v else f j)))] ∧ va_S A s.heap H locs ∧ lv_has ls 4 [(0, .ref a), (1, .int v), (2, .int (nI i)), (3, .int (nI n))]) (fun i => n - i) ?_ 0 _ _ _ ⟨Nat.zero_le _, q_ext hP (fun j _ => (if_neg (Nat.not_lt_zero j)).symm), q_extD hD, hS, lv_sub hl [2, 3, 1, 0] rfl⟩
  intro i H locs ls ⟨h1, hP, hD, hS, hl⟩ ih
  refine lv_iload_n hx hb dJ7_fill_53178_5 rfl (lv_at hl 2 rfl) ?_
  refine lv_iload_n hx hb dJ7_fill_53178_6 rfl (lv_at hl 3 rfl) ?_
  refine lv_icmp_ge (tgt := 20) hx hb dJ7_fill_53178_7 (by decide) (fun c_1 => ?_) (fun c_1 => ?_)
  · have c_1 := (cq_le (nI_toInt (by omega)) (nI_toInt (by omega))).mp c_1
    exact W.vret hx hb hr (fun t ht hW => ⟨⟨(), rfl, True.intro, by rw [ht]; exact q_ext hP (fun j hj => (if_pos (by omega)).trans (hg j hj)), va_K.moved hW.alike hK, q_extD hD⟩, hS.F ht⟩) hS.2.2 dJ7_fill_53178_20
  · have c_1 := mt (cq_le (nI_toInt (by omega)) (nI_toInt (by omega))).mpr c_1
    refine lv_aload_n hx hb dJ7_fill_53178_10 rfl (lv_at hl 0 rfl) ?_
    refine lv_iload_n hx hb dJ7_fill_53178_11 rfl (lv_at hl 2 rfl) ?_
    refine lv_iload_n hx hb dJ7_fill_53178_12 rfl (lv_at hl 1 rfl) ?_
    refine q_iast (ws2 := [(a, .inl (cI, n, .inl (fun j => if j < i + 1 then v else f j)))]) hx hb hK hP hD hS 0 0 rfl rfl i (nI_toInt (by omega)) (by omega) (upd_lt f i v) rfl dJ7_fill_53178_13 (fun H locs hP hD hS => ?_)
    refine lv_iinc (v := nI (i + 1)) (lv' := [(2, .int (nI (i + 1))), (0, .ref a), (1, .int v), (3, .int (nI n))]) hx hb dJ7_fill_53178_14 hl (k := 2) rfl (nI_add i 1) (by decide) rfl (fun ls hl => ?_)
    refine lv_goto (tgt := 5) hx hb dJ7_fill_53178_17 (by decide) ?_
    exact ih (i + 1) _ _ _ ⟨by omega, hP, hD, hS, lv_sub hl [1, 2, 0, 3] rfl⟩ (by omega)
