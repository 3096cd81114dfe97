/-! the law's own ground: both worlds, and the row of one long beside them -/
def AO (ad : Nat → Nat) (ao sz : Nat) : Nat → Prop := fun q => AC ad sz q ∨ q = ao
theorem D1 {A : Nat → Prop} {a : Nat} {e : va_E} (h : A a) : va_D A [(a, e)] := by
  refine ⟨fun i j p q hi hj _ => ?_, fun k q hk => ?_⟩
  · have h1 : i < 1 := (List.getElem?_eq_some_iff.mp hi).1
    have h2 : j < 1 := (List.getElem?_eq_some_iff.mp hj).1
    omega
  · have hz : k < 1 := (List.getElem?_eq_some_iff.mp hk).1
    rw [show k = 0 by omega] at hk
    cases hk
    exact h
theorem DJ {S : Type} {Wf : S → va_W} {ad : Nat → Nat} {ao : Nat} {A B : Nat → Prop} {u : S} {e : va_E} (hW : WAd Wf ad) (hao : ∀ k, k < 12 → ad k ≠ ao) (hD : va_D A (Wf u)) (hAB : ∀ q, A q → B q) (hB : B ao) : va_D B (Wf u ++ [(ao, e)]) := by
  refine va_D.app (hD.weaken (fun _ q _ h => hAB q.1 h)) (D1 hB) (fun i j p q hi hj z => ?_)
  have h2 : j < 1 := (List.getElem?_eq_some_iff.mp hj).1
  rw [show j = 0 by omega] at hj
  cases hj
  obtain ⟨k, hk, ek⟩ := hW.2 u i p hi
  exact hao k hk (ek.symm.trans z)
theorem AC_out {ad : Nat → Nat} {ao sz : Nat} (hao : ∀ k, k < 12 → ad k ≠ ao) (h : ao < sz) : ¬ AC ad sz ao := by
  intro q
  rcases q with ⟨k, hk, e⟩ | q
  · exact hao k hk e.symm
  · exact absurd h (Nat.not_lt.mpr q)
theorem keep1 {D : va_G} {cl : List vw_C} {ad : Nat → Nat} {ao : Nat} {e : va_E} {H H1 : Heap} (hao : ∀ k, k < 12 → ad k ≠ ao) (hP : va_P D cl [(ao, e)] H) (hk : ∀ q : Nat, q < H.size → ¬ AC ad H.size q → H1[q]? = H[q]?) : va_P D cl [(ao, e)] H1 := by
  refine hP.kept (fun k q hq => ?_)
  have hz : k < 1 := (List.getElem?_eq_some_iff.mp hq).1
  have hlt : q.1 < H.size := vx_lt hP hq
  rw [show k = 0 by omega] at hq
  cases hq
  exact hk ao hlt (AC_out hao hlt)
theorem keepW {S : Type} {Wf : S → va_W} {ad bd : Nat → Nat} {D : va_G} {cl : List vw_C} {u : S} {H H1 : Heap} (hW : WAd Wf bd) (hsep : ∀ i j, i < 12 → j < 12 → ad i ≠ bd j) (hP : va_P D cl (Wf u) H) (hk : ∀ q : Nat, q < H.size → ¬ AC ad H.size q → H1[q]? = H[q]?) : va_P D cl (Wf u) H1 := by
  refine hP.kept (fun k q hq => ?_)
  have hlt : q.1 < H.size := vx_lt hP hq
  obtain ⟨j, hj, ej⟩ := hW.2 u k q hq
  refine hk q.1 hlt (AC_out (fun i hi z => hsep i j hi hj (z.trans ej)) hlt)
theorem keepWO {S : Type} {Wf : S → va_W} {ad bd : Nat → Nat} {ao : Nat} {D : va_G} {cl : List vw_C} {u : S} {H H1 : Heap} (hW : WAd Wf bd) (hsep : ∀ i j, i < 12 → j < 12 → ad i ≠ bd j) (hbo : ∀ k, k < 12 → bd k ≠ ao) (hP : va_P D cl (Wf u) H) (hk : ∀ q : Nat, q < H.size → ¬ AO ad ao H.size q → H1[q]? = H[q]?) : va_P D cl (Wf u) H1 := by
  refine hP.kept (fun k q hq => ?_)
  have hlt : q.1 < H.size := vx_lt hP hq
  obtain ⟨j, hj, ej⟩ := hW.2 u k q hq
  refine hk q.1 hlt (fun z => ?_)
  rcases z with z | z
  · exact AC_out (fun i hi z => hsep i j hi hj (z.trans ej)) hlt z
  · exact hbo j hj (ej.symm.trans z)
/-- the law's helpers: what they start from -/
abbrev cO (cJ : ClassId) (ao : Nat) (f : Nat → Int64) : Nat × va_E := (ao, .inl (cJ, 1, .inr (.inl f)))
def PreH (cI cZ cJ : ClassId) (D : va_G) (ad pl sa : Nat → Nat) (tb ao sz : Nat) (σ γ : Sg) (f : Nat → Int64) (U : State) : Prop :=
  PreX cI cZ D (WC cI cZ ad (σ, γ)) ad pl sa tb sz U ∧ va_P D vwCl [cO cJ ao f] U.heap ∧ va_K D vwCl [(cJ, .long)] U ∧ va_Nc "java/lang/IndexOutOfBoundsException" "java/lang/IllegalArgumentException" U
theorem PreH.blind {cI cZ cJ : ClassId} {D : va_G} {ad pl sa : Nat → Nat} {tb ao sz : Nat} {σ γ : Sg} {f : Nat → Int64} {av : List Value} : FrameBlind (va_Pc av (PreH cI cZ cJ D ad pl sa tb ao sz σ γ f)) := by
  intro a U g mk h
  obtain ⟨h0, h1, h2, h3, h4⟩ := h
  obtain ⟨-, q⟩ := PreX.blind (cI := cI) (cZ := cZ) (D := D) (ws := WC cI cZ ad (σ, γ)) (ad := ad) (pl := pl) (sa := sa) (tb := tb) (sz := sz) (av := av) a U g mk ⟨h0, h1⟩
  exact ⟨h0, q, h2, va_K.moved (u := U) (U := U.calling g mk a) (Vm.Alike.refl U.vm) h3, va_Nc.moved (u := U) (U := U.calling g mk a) (Vm.Alike.refl U.vm) h4⟩
abbrev AtH (cI cZ cJ : ClassId) (D : va_G) (ad : Nat → Nat) (ao sz : Nat) (u : Sg × Sg × (Nat → Int64)) (t : State) : Prop :=
  va_P D vwCl (WC cI cZ ad (u.1, u.2.1) ++ [cO cJ ao u.2.2]) t.heap ∧ va_D (AO ad ao sz) (WC cI cZ ad (u.1, u.2.1) ++ [cO cJ ao u.2.2])
/-- no throw leaves them -/
abbrev XN (A : Nat → Prop) : String → State → State → Prop := vx_X (fun _ : Unit => False) (fun _ _ _ => True) A
abbrev CtH (l : Launch) (y : MethodName) (ws : List Cond) (rm : Room) (cI cZ cJ : ClassId) (D : va_G) (ad pl sa : Nat → Nat) (tb ao sz : Nat) (σ γ : Sg) (f : Nat → Int64) (av : List Value) (o : Nat × Int32) : Prop :=
  vx_Met l y ws rm (va_Pc av (PreH cI cZ cJ D ad pl sa tb ao sz σ γ f)) (va_Qi (fun r u => u.1 = σ ∧ r = nI o.1 ∧ (o.1 = 0 → u.2.2 0 = o.2.toInt64)) (AtH cI cZ cJ D ad ao sz) (AO ad ao sz)) (XN (AO ad ao sz)) 1 6 (AO ad ao sz)
section QK
variable {p : Program} {l : Launch} {e : Env} {R : Room} {s : State} {m : MethodId} {args : Array Value} {below : List Frame} {meth : Method} {c : Code} {H : Heap} {locs : List Loc} {cells slots : Nat} {Q : State → Prop}
variable {cc : ByteArray} {pc : Nat} {ls : Array Slot} {rest : List Value} {D : va_G} {A : Nat → Prop}
variable {S : Type} {Wf : S → va_W} {ad pl : Nat → Nat} {cI cZ : ClassId} {tb : Nat} {u0 : S} {As st : List Value} {nL n index maxL : Nat} {own C : String} {y : MethodName} {bytes : ByteArray} {ret : Option FieldType} {wsY Ts : List Cond} {rm : Room}
/-- call_i, and what stayed as it was -/
theorem callK_i {post : Int32 → S → Prop} (hW : WAd Wf ad) (Fx : CallFix p m c cc nL s args Ts own) (hM : CtI l y wsY rm cI cZ D ad pl tb H.size Wf u0 (.ref (ad 0) :: As) post) (cw : CallW R s args own C index y bytes maxL ret wsY rm 0 0 n)
    (hrc : ∃ cell : Cell, H[ad 0]? = some cell ∧ cell.vm.isStatics = false ∧ s.vm.findClass C = some cell.cls) (hK : va_K D vwCl (tyK cI cZ) s) (hP : va_P D vwCl (Wf u0) H) (hD : va_D A (Wf u0)) (hS : va_S A s.heap H locs) (hA : ∀ q : Nat, s.heap.size ≤ q → A q) (hZ : ST pl tb A s s.heap)
    (hn : As.length = n) (hst : st = As.reverse ++ .ref (ad 0) :: rest) (hrest : (rest.map fun v => v.category).sum ≤ 8) (hsz : ls.size = nL) (hdg : decode cc pc = .ok (.invokevirtual index, 3)) (hf : cells ≤ R.cells ∧ slots ≤ R.slots)
    (kk : ∀ (r : Int32) (u : S) (H1 : Heap) (locs1 : List Loc), post r u → va_P D vwCl (Wf u) H1 → va_D A (Wf u) → va_S A s.heap H1 locs1 → (∀ q : Nat, q < H.size → ¬ AC ad H.size q → H1[q]? = H[q]?) → W p l e R s m args below meth c H1 locs1 cells slots Q (F0 m (pc + 3) ls (.int r :: rest))) : W p l e R s m args below meth c H locs cells slots Q (F0 m pc ls st) :=
  va_calli (va_runV (As := As) (rest := rest) Fx hM cw (pre_V hW hrc hK hP hD hS hA hZ) rfl hn hsz hst (lv_room hrest) hdg ⟨by simpa using hf.1, by simpa using hf.2⟩) hS (fun q _ h => AC_in hW hD hS hA q h) (AC_in hW hD hS hA)
    (fun r u t H1 locs1 ht hvm hp hB hz hk hS1 => kk r u H1 locs1 hp (by rw [← ht]; exact hB.1) (hB.2.2.weaken (fun _ q _ h => AC_in hW hD hS hA q.1 h)) hS1 hk)
end QK
