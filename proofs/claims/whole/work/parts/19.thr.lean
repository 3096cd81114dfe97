/-! what a throw rests on: the texts, the words that the tables alone decide, the two statics of Throwable -/
abbrev NMX : List String := ["java/lang/RuntimeException", "java/lang/Exception"]
abbrev BIA : List Cond := [.castable "java/lang/IllegalArgumentException" "java/lang/IllegalArgumentException", .declares (Bundle.initS "java/lang/RuntimeException"), .declares (Bundle.initS "java/lang/Exception"), .declares (Bundle.initS Bundle.tN)]
abbrev BIB : List Cond := [.castable "java/lang/IndexOutOfBoundsException" "java/lang/IndexOutOfBoundsException", .declares (Bundle.initS "java/lang/RuntimeException"), .declares (Bundle.initS "java/lang/Exception"), .declares (Bundle.initS Bundle.tN)]
set_option maxRecDepth 20000 in
theorem x_bIA : ∀ w ∈ (vx_atS RX1 126 "java/lang/IllegalArgumentException" NMX).filter (fun w => !goodWord w), w ∈ BIA := by decide +kernel
set_option maxRecDepth 20000 in
theorem x_bIB : ∀ w ∈ (vx_atS RX1 137 "java/lang/IndexOutOfBoundsException" NMX).filter (fun w => !goodWord w), w ∈ BIB := by decide +kernel
set_option maxRecDepth 20000 in
theorem x_gIA : ∀ w ∈ Cond.classLink RX1 122 "java/lang/IllegalArgumentException" :: Cond.initialized "java/lang/IllegalArgumentException" :: vx_atS RX1 126 "java/lang/IllegalArgumentException" NMX, vx_ot w = true := by decide +kernel
set_option maxRecDepth 20000 in
theorem x_gIB : ∀ w ∈ Cond.classLink RX1 133 "java/lang/IndexOutOfBoundsException" :: Cond.initialized "java/lang/IndexOutOfBoundsException" :: vx_atS RX1 137 "java/lang/IndexOutOfBoundsException" NMX, vx_ot w = true := by decide +kernel
theorem x_nm : ∀ n ∈ NMX, Bundle.fit n = true := by decide +kernel
def SX (sa : Nat → Nat) (A : Nat → Prop) (U : State) (H : Heap) : Prop :=
  (vk_R RX1 124 "no such carrier" (sa 0) U ∧ vk_R RX1 135 "not so many in the frame" (sa 1) U ∧ vk_R RX1 148 "not so many in the list" (sa 2) U ∧ vk_R RX1 188 "no such count" (sa 3) U) ∧
  (va_Nw (.castable "java/lang/IllegalArgumentException" "java/lang/IllegalArgumentException") U ∧ va_Nw (.castable "java/lang/IndexOutOfBoundsException" "java/lang/IndexOutOfBoundsException") U ∧ va_Nw (.declares (Bundle.initS "java/lang/RuntimeException")) U ∧ va_Nw (.declares (Bundle.initS "java/lang/Exception")) U ∧ va_Nw (.declares (Bundle.initS Bundle.tN)) U) ∧
  vx_Zq Bundle.tN "UNASSIGNED_STACK" Bundle.steD A U H ∧ vx_Zq Bundle.tN "SUPPRESSED_SENTINEL" Bundle.listD A U H
theorem SX.pass {sa : Nat → Nat} {A B : Nat → Prop} {u U : State} {H H1 : Heap} (h : SX sa A u H) (hW : u.WarmedH U.vm) (hq : ∀ a : Nat, a < H.size → ¬ A a → H1[a]? = H[a]?) (hAB : ∀ q, B q → A q) : SX sa B U H1 := by
  obtain ⟨⟨a0, a1, a2, a3⟩, ⟨b0, b1, b2, b3, b4⟩, c0, c1⟩ := h
  exact ⟨⟨a0.warm hW, a1.warm hW, a2.warm hW, a3.warm hW⟩, ⟨va_Nw.warmC hW b0, va_Nw.warmC hW b1, va_Nw.warmD hW b2, va_Nw.warmD hW b3, va_Nw.warmD hW b4⟩, (vx_Zq.moved hW.alike (c0.kept hq)).narrow hAB, (vx_Zq.moved hW.alike (c1.kept hq)).narrow hAB⟩
theorem SX.hIA {sa : Nat → Nat} {A : Nat → Prop} {U : State} {H : Heap} {args : Array Value} (h : SX sa A U H) : ∀ w ∈ BIA, w.before args U = true :=
  vx_c (va_Nw.use rfl h.2.1.1) (vx_c (va_Nw.use rfl h.2.1.2.2.1) (vx_c (va_Nw.use rfl h.2.1.2.2.2.1) (vx_c (va_Nw.use rfl h.2.1.2.2.2.2) vx_n)))
theorem SX.hIB {sa : Nat → Nat} {A : Nat → Prop} {U : State} {H : Heap} {args : Array Value} (h : SX sa A U H) : ∀ w ∈ BIB, w.before args U = true :=
  vx_c (va_Nw.use rfl h.2.1.2.1) (vx_c (va_Nw.use rfl h.2.1.2.2.1) (vx_c (va_Nw.use rfl h.2.1.2.2.2.1) (vx_c (va_Nw.use rfl h.2.1.2.2.2.2) vx_n)))
/-- what a method that may throw starts from -/
abbrev PreX (cI cZ : ClassId) (D : va_G) (ws : va_W) (ad pl sa : Nat → Nat) (tb sz : Nat) (U : State) : Prop := PreW cI cZ D ws ad pl tb sz U ∧ SX sa (AC ad sz) U U.heap
theorem PreX.blind {cI cZ : ClassId} {D : va_G} {ws : va_W} {ad pl sa : Nat → Nat} {tb sz : Nat} {av : List Value} : FrameBlind (va_Pc av (PreX cI cZ D ws ad pl sa tb sz)) := by
  intro a U g mk h
  obtain ⟨h0, h1, h2⟩ := h
  obtain ⟨-, q⟩ := PreW.blind (cI := cI) (cZ := cZ) (D := D) (ws := ws) (ad := ad) (pl := pl) (tb := tb) (sz := sz) (av := av) a U g mk ⟨h0, h1⟩
  exact ⟨h0, q, SX.pass (u := U) (U := U.calling g mk a) h2 (State.WarmedH.refl U) (fun _ _ _ => rfl) (fun _ q => q)⟩
/-- .. and what holds where it has thrown -/
abbrev XT (cI cZ : ClassId) (D : va_G) (ad : Nat → Nat) (sz : Nat) (σ : Sg) (EP : String → Prop) : String → State → State → Prop :=
  vx_X (fun u : Sg × Sg => ∃ γ1, u = (σ, γ1)) (fun E u t => EP E ∧ AtW cI cZ D (WC cI cZ ad) (AC ad sz) u t) (AC ad sz)
abbrev CtX (l : Launch) (y : MethodName) (ws : List Cond) (rm : Room) (cI cZ : ClassId) (D : va_G) (ad pl sa : Nat → Nat) (tb sz : Nat) (σ γ : Sg) (av : List Value) (post : Int32 → Sg × Sg → Prop) (EP : String → Prop) : Prop :=
  vx_Met l y ws rm (va_Pc av (PreX cI cZ D (WC cI cZ ad (σ, γ)) ad pl sa tb sz)) (va_Qi post (AtW cI cZ D (WC cI cZ ad) (AC ad sz)) (AC ad sz)) (XT cI cZ D ad sz σ EP) 1 6 (AC ad sz)
theorem thr_x {cI cZ : ClassId} {D : va_G} {ad : Nat → Nat} {σ γ1 : Sg} {s : State} {H : Heap} {locs : List Loc} {EP : String → Prop} {E : String} (hE : EP E) (hP : va_P D vwCl (WC cI cZ ad (σ, γ1)) H) (hK : va_K D vwCl (tyK cI cZ) s) (hD : va_D (AC ad s.heap.size) (WC cI cZ ad (σ, γ1))) (hS : va_S (AC ad s.heap.size) s.heap H locs) :
    ∀ t : State, s.vm.Alike t.vm → H.size ≤ t.heap.size → (∀ q : Nat, q < H.size → t.heap[q]? = H[q]?) → XT cI cZ D ad s.heap.size σ EP E s t :=
  fun t hv h1 h2 => ⟨(σ, γ1), ⟨γ1, rfl⟩, ⟨hE, hP.kept (fun _ q hk => h2 q.1 (vx_lt hP hk)), va_K.moved hv hK, hD⟩, Nat.le_trans hS.1 h1, fun q h3 h4 => (h2 q (Nat.lt_of_lt_of_le h3 hS.1)).trans (hS.2.1 q h3 h4)⟩
theorem oRow_1 {LL : Nat → List Nat} {p0 p1 : Int32} (h : ¬ (0 ≤ p0.toInt ∧ p0.toInt < 4)) : (oRow LL p0 p1).1 = 1 := by unfold oRow; rw [if_pos h]
theorem oRow_2 {LL : Nat → List Nat} {p0 p1 : Int32} {c : Nat} (h0 : p0.toInt = (c : Int)) (hc : c < 4) (h : ¬ (0 ≤ p1.toInt ∧ p1.toInt < ((LL c).length : Int))) : (oRow LL p0 p1).1 = 2 := by
  unfold oRow
  rw [if_neg (by omega), show p0.toInt.toNat = c by omega, if_neg h]
theorem oRow_0 {LL : Nat → List Nat} {p0 p1 : Int32} {c : Nat} (h0 : p0.toInt = (c : Int)) (hc : c < 4) (h : 0 ≤ p1.toInt ∧ p1.toInt < ((LL c).length : Int)) : oRow LL p0 p1 = (0, nI ((LL c).getD p1.toInt.toNat 0)) := by
  unfold oRow
  rw [if_neg (by omega), show p0.toInt.toNat = c by omega, if_pos h]
