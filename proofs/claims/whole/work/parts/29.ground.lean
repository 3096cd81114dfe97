/-- the constants: what the Statement gives of them -/
abbrev nmP : List String := ["STRAY", "ASTRAY", "DRAWER", "LIST", "FRAME"]
theorem five {P : Nat → Prop} (h0 : P 0) (h1 : P 1) (h2 : P 2) (h3 : P 3) (h4 : P 4) : ∀ i, i < 5 → P i := by
  intro i hi
  rcases (show i = 0 ∨ i = 1 ∨ i = 2 ∨ i = 3 ∨ i = 4 by omega) with rfl | rfl | rfl | rfl | rfl
  · exact h0
  · exact h1
  · exact h2
  · exact h3
  · exact h4
set_option maxHeartbeats 4000000 in
set_option maxRecDepth 100000 in
theorem law_ST {s : State} {args : Array Value} (hts : ∀ w ∈ lw_tbl, w.before args s = true) (hgv : (Jvm.Cond.and given_1 narrow_1).before args s = true) : ∃ (pl : Nat → Nat) (tb : Nat), ST pl tb (fun q => s.heap.size ≤ q) s s.heap := by
  have hs := flat_of_before _ hgv
  have hA : ∀ a : Nat, a < s.heap.size → ¬ (fun q : Nat => s.heap.size ≤ q) a := fun a h => Nat.not_le.mpr h
  have l_STRAY : (Cond.laysStatic RX0 "STRAY" "LHandCases$Place;").before args s = true := hts _ (by decide +kernel)
  have x_STRAY : (Cond.exactly (.static RX0 "STRAY" "LHandCases$Place;") RX0).before args s = true := hs _ (by decide +kernel)
  have l_ASTRAY : (Cond.laysStatic RX0 "ASTRAY" "LHandCases$Place;").before args s = true := hts _ (by decide +kernel)
  have x_ASTRAY : (Cond.exactly (.static RX0 "ASTRAY" "LHandCases$Place;") RX0).before args s = true := hs _ (by decide +kernel)
  have l_DRAWER : (Cond.laysStatic RX0 "DRAWER" "LHandCases$Place;").before args s = true := hts _ (by decide +kernel)
  have x_DRAWER : (Cond.exactly (.static RX0 "DRAWER" "LHandCases$Place;") RX0).before args s = true := hs _ (by decide +kernel)
  have l_LIST : (Cond.laysStatic RX0 "LIST" "LHandCases$Place;").before args s = true := hts _ (by decide +kernel)
  have x_LIST : (Cond.exactly (.static RX0 "LIST" "LHandCases$Place;") RX0).before args s = true := hs _ (by decide +kernel)
  have l_FRAME : (Cond.laysStatic RX0 "FRAME" "LHandCases$Place;").before args s = true := hts _ (by decide +kernel)
  have x_FRAME : (Cond.exactly (.static RX0 "FRAME" "LHandCases$Place;") RX0).before args s = true := hs _ (by decide +kernel)
  have n_FRAME_STRAY : (Cond.not (.eq (.static RX0 "FRAME" "LHandCases$Place;") (.static RX0 "STRAY" "LHandCases$Place;"))).before args s = true := hs _ (by decide +kernel)
  have n_FRAME_DRAWER : (Cond.not (.eq (.static RX0 "FRAME" "LHandCases$Place;") (.static RX0 "DRAWER" "LHandCases$Place;"))).before args s = true := hs _ (by decide +kernel)
  have n_FRAME_LIST : (Cond.not (.eq (.static RX0 "FRAME" "LHandCases$Place;") (.static RX0 "LIST" "LHandCases$Place;"))).before args s = true := hs _ (by decide +kernel)
  have n_FRAME_ASTRAY : (Cond.not (.eq (.static RX0 "FRAME" "LHandCases$Place;") (.static RX0 "ASTRAY" "LHandCases$Place;"))).before args s = true := hs _ (by decide +kernel)
  have n_STRAY_DRAWER : (Cond.not (.eq (.static RX0 "STRAY" "LHandCases$Place;") (.static RX0 "DRAWER" "LHandCases$Place;"))).before args s = true := hs _ (by decide +kernel)
  have n_STRAY_LIST : (Cond.not (.eq (.static RX0 "STRAY" "LHandCases$Place;") (.static RX0 "LIST" "LHandCases$Place;"))).before args s = true := hs _ (by decide +kernel)
  have n_STRAY_ASTRAY : (Cond.not (.eq (.static RX0 "STRAY" "LHandCases$Place;") (.static RX0 "ASTRAY" "LHandCases$Place;"))).before args s = true := hs _ (by decide +kernel)
  have n_DRAWER_LIST : (Cond.not (.eq (.static RX0 "DRAWER" "LHandCases$Place;") (.static RX0 "LIST" "LHandCases$Place;"))).before args s = true := hs _ (by decide +kernel)
  have n_DRAWER_ASTRAY : (Cond.not (.eq (.static RX0 "DRAWER" "LHandCases$Place;") (.static RX0 "ASTRAY" "LHandCases$Place;"))).before args s = true := hs _ (by decide +kernel)
  have n_LIST_ASTRAY : (Cond.not (.eq (.static RX0 "LIST" "LHandCases$Place;") (.static RX0 "ASTRAY" "LHandCases$Place;"))).before args s = true := hs _ (by decide +kernel)
  obtain ⟨pl, hE⟩ := va_Enof (E := RX0) (d := "LHandCases$Place;") (nm := nmP) (F := []) (A := fun q => s.heap.size ≤ q) (args := args) (s := s) (five l_STRAY l_ASTRAY l_DRAWER l_LIST l_FRAME) (hts _ (by decide +kernel)) (five x_STRAY x_ASTRAY x_DRAWER x_LIST x_FRAME) (fun q hq => nomatch hq)
    (fun i j hi hj => (five (P := fun i => ∀ j, j < 5 → i ≠ j → (Cond.not (.eq (.static RX0 (nmP.getD i "") "LHandCases$Place;") (.static RX0 (nmP.getD j "") "LHandCases$Place;"))).before args s = true ∨ (Cond.not (.eq (.static RX0 (nmP.getD j "") "LHandCases$Place;") (.static RX0 (nmP.getD i "") "LHandCases$Place;"))).before args s = true) (five (fun h => absurd rfl h) (fun _ => Or.inl n_STRAY_ASTRAY) (fun _ => Or.inl n_STRAY_DRAWER) (fun _ => Or.inl n_STRAY_LIST) (fun _ => Or.inr n_FRAME_STRAY)) (five (fun _ => Or.inr n_STRAY_ASTRAY) (fun h => absurd rfl h) (fun _ => Or.inr n_DRAWER_ASTRAY) (fun _ => Or.inr n_LIST_ASTRAY) (fun _ => Or.inr n_FRAME_ASTRAY)) (five (fun _ => Or.inr n_STRAY_DRAWER) (fun _ => Or.inl n_DRAWER_ASTRAY) (fun h => absurd rfl h) (fun _ => Or.inl n_DRAWER_LIST) (fun _ => Or.inr n_FRAME_DRAWER)) (five (fun _ => Or.inr n_STRAY_LIST) (fun _ => Or.inl n_LIST_ASTRAY) (fun _ => Or.inr n_DRAWER_LIST) (fun h => absurd rfl h) (fun _ => Or.inr n_FRAME_LIST)) (five (fun _ => Or.inl n_FRAME_STRAY) (fun _ => Or.inl n_FRAME_ASTRAY) (fun _ => Or.inl n_FRAME_DRAWER) (fun _ => Or.inl n_FRAME_LIST) (fun h => absurd rfl h)) i hi) j hj) hA
  have a_0 : (Cond.arrayOf (.static RX1 "SECONDS" "[I") .int).before args s = true := hs _ (by decide +kernel)
  have a_l : (Cond.eq (.length (.static RX1 "SECONDS" "[I")) (.int 3)).before args s = true := hs _ (by decide +kernel)
  have a_1 : (Cond.eq (.elem (.static RX1 "SECONDS" "[I") (.int 0)) (.int 2)).before args s = true := hs _ (by decide +kernel)
  have a_2 : (Cond.eq (.elem (.static RX1 "SECONDS" "[I") (.int 1)) (.int 3)).before args s = true := hs _ (by decide +kernel)
  have a_3 : (Cond.eq (.elem (.static RX1 "SECONDS" "[I") (.int 2)) (.int 7)).before args s = true := hs _ (by decide +kernel)
  obtain ⟨tb, ht, hT⟩ := va_Tof (tm := (.static RX1 "SECONDS" "[I")) (ty := .int) (N := 3) (f := fun j => .int (if j = 0 then 2 else if j = 1 then 3 else 7)) (A := fun q => s.heap.size ≤ q) (by decide) a_0 (va_eqt a_l) (fun j hj => by
    rcases (show j = 0 ∨ j = 1 ∨ j = 2 by omega) with rfl | rfl | rfl
    · exact va_eqt a_1
    · exact va_eqt a_2
    · exact va_eqt a_3) hA
  have hZ := va_Zref (A := fun q => s.heap.size ≤ q) (hts (.laysStatic RX1 "SECONDS" "[I") (by decide +kernel)) (hts (.initialized RX1) (by decide +kernel)) ht hA
  exact ⟨pl, tb, (hE.1 0 (by decide)).1, (hE.1 1 (by decide)).1, (hE.1 2 (by decide)).1, (hE.1 3 (by decide)).1, (hE.1 4 (by decide)).1, hZ, hT, hE.2⟩
set_option maxHeartbeats 4000000 in
set_option maxRecDepth 100000 in
theorem law_SX {s : State} {args : Array Value} (hts : ∀ w ∈ lw_tbl, w.before args s = true) (hgv : (Jvm.Cond.and given_1 narrow_1).before args s = true) : (∃ sa : Nat → Nat, SX sa (fun q => s.heap.size ≤ q) s s.heap) ∧ va_Nc "java/lang/IndexOutOfBoundsException" "java/lang/IllegalArgumentException" s := by
  have hs := flat_of_before _ hgv
  have hA : ∀ a : Nat, a < s.heap.size → ¬ (fun q : Nat => s.heap.size ≤ q) a := fun a h => Nat.not_le.mpr h
  obtain ⟨s0, -, -, -, e0, -⟩ := Cond.exactly_spec (hs (.exactly (.string RX1 124) "java/lang/String") (by decide +kernel))
  have r0 : vk_R RX1 124 "no such carrier" s0 s := vk_R.of (hts (.stringRef RX1 124 "no such carrier") (by decide +kernel)) e0
  obtain ⟨s1, -, -, -, e1, -⟩ := Cond.exactly_spec (hs (.exactly (.string RX1 135) "java/lang/String") (by decide +kernel))
  have r1 : vk_R RX1 135 "not so many in the frame" s1 s := vk_R.of (hts (.stringRef RX1 135 "not so many in the frame") (by decide +kernel)) e1
  obtain ⟨s2, -, -, -, e2, -⟩ := Cond.exactly_spec (hs (.exactly (.string RX1 148) "java/lang/String") (by decide +kernel))
  have r2 : vk_R RX1 148 "not so many in the list" s2 s := vk_R.of (hts (.stringRef RX1 148 "not so many in the list") (by decide +kernel)) e2
  obtain ⟨s3, -, -, -, e3, -⟩ := Cond.exactly_spec (hs (.exactly (.string RX1 188) "java/lang/String") (by decide +kernel))
  have r3 : vk_R RX1 188 "no such count" s3 s := vk_R.of (hts (.stringRef RX1 188 "no such count") (by decide +kernel)) e3
  have z1 := vx_Zqof (A := fun q => s.heap.size ≤ q) (hts (.laysStatic Bundle.tN "UNASSIGNED_STACK" Bundle.steD) (by decide +kernel)) (hts (.initialized Bundle.tN) (by decide +kernel)) (hs (.isRef (.static Bundle.tN "UNASSIGNED_STACK" Bundle.steD)) (by decide +kernel)) hA
  have z2 := vx_Zqof (A := fun q => s.heap.size ≤ q) (hts (.laysStatic Bundle.tN "SUPPRESSED_SENTINEL" Bundle.listD) (by decide +kernel)) (hts (.initialized Bundle.tN) (by decide +kernel)) (hs (.isRef (.static Bundle.tN "SUPPRESSED_SENTINEL" Bundle.listD)) (by decide +kernel)) hA
  refine ⟨⟨adr [s0, s1, s2, s3], ⟨r0, r1, r2, r3⟩, ⟨va_Nw.of rfl (hts (.castable "java/lang/IllegalArgumentException" "java/lang/IllegalArgumentException") (by decide +kernel)), va_Nw.of rfl (hts (.castable "java/lang/IndexOutOfBoundsException" "java/lang/IndexOutOfBoundsException") (by decide +kernel)), va_Nw.of rfl (hts (.declares (Bundle.initS "java/lang/RuntimeException")) (by decide +kernel)), va_Nw.of rfl (hts (.declares (Bundle.initS "java/lang/Exception")) (by decide +kernel)), va_Nw.of rfl (hts (.declares (Bundle.initS Bundle.tN)) (by decide +kernel))⟩, z1, z2⟩, ?_⟩
  exact va_Nc.of (hs (.not (.castable "java/lang/IndexOutOfBoundsException" "java/lang/IllegalArgumentException")) (by decide +kernel))
theorem law_arr {s : State} {args : Array Value} {ty : FieldType} (h : (Cond.arrayClass ty).before args s = true) (hra : ∀ cA : ClassId, s.vm.findClass ("[" ++ ty.toString) = some cA → va_RA s cA ty) : ∃ cA : ClassId, ArrOfT s cA ty ∧ va_RA s cA ty := by
  obtain ⟨cA, kA, comp, h1, h2, h3⟩ := Cond.arrayClass_spec h
  exact ⟨cA, fun n z => ⟨fun k h => (by cases h), kA, h2, comp, h3⟩, hra cA h1⟩
set_option maxHeartbeats 4000000 in
set_option maxRecDepth 100000 in
/-- the law's reader of its script's first place -/
theorem c_L_cell (l : Launch) (b L sz : Nat) (xs : Nat → Int32) (hL5 : L ≤ 2049) : Met l yL_cell wsL_cell ({ frames := 0, cells := 0, slots := 0, locals := 0 }) (va_Pc [.ref b, .int 0] (fun U => U.heap.size = sz ∧ va_X b L xs U U.heap)) (va_Qi (fun r (_ : Unit) => r = if 0 < L then xs 0 else 0) (fun _ _ => True) (fun _ => False)) 0 0 (fun _ => False) := by
  refine Met.ofW (cc := cL_cell) (maxL := 2) (ret := some .int) (by decide) rfl ?_
  intro p e s m args below meth c s₁ B hml hv
  obtain ⟨rfl, hsz, hX⟩ := hv
  have hx := B.exec
  have hb := B.bytes
  have hr := B.returns
  have hlocks := B.notSynchronized
  have hbl : b < s.heap.size := by
    obtain ⟨scr, h1, -⟩ := id hX
    exact (Array.getElem?_eq_some_iff.mp h1).1
  have hbA : ¬ (fun _ : Nat => False) b := fun h => h
  have hS : va_S (fun _ => False) s.heap s.heap [] := va_S.rf
  have hl := lv_entry ([.ref b, .int 0]) (n := 2) (Nat.le_of_ble_eq_true rfl)
  rw [lg_entry_eq]
  generalize (lg_sl ([.ref b, .int 0]) ++ List.replicate (2 - (lg_sl ([.ref b, .int 0])).length) Slot.unset).toArray = ls at hl ⊢
  have hl : lv_has ls 2 [(0, .ref b), (1, .int 0)] := hl
  refine lv_iload_n hx hb dL_cell_0 rfl (lv_at hl 1 rfl) ?_
  refine lv_aload_n hx hb dL_cell_1 rfl (lv_at hl 0 rfl) ?_
  refine va_slen hx hb hX hbl hbA hS dL_cell_2 ?_
  refine lv_icmp_ge (tgt := 12) hx hb dL_cell_3 (by decide) (fun c_1 => ?_) (fun c_1 => ?_)
  · have c_1 := (cq_le (nI_toInt (n := L) (by omega)) (show (0 : Int32).toInt = 0 from by decide)).mp c_1
    refine lv_iconst (v := 0) hx hb dL_cell_12 (by decide) ?_
    exact W.zret hx hb hr rfl (fun t ht hW => ⟨⟨0, (), rfl, (if_neg (by omega)).symm, True.intro⟩, hS.F ht⟩) hS.2.2 dL_cell_13 hlocks
  · have c_1 := mt (cq_le (nI_toInt (n := L) (by omega)) (show (0 : Int32).toInt = 0 from by decide)).mpr c_1
    refine lv_aload_n hx hb dL_cell_6 rfl (lv_at hl 0 rfl) ?_
    refine lv_iload_n hx hb dL_cell_7 rfl (lv_at hl 1 rfl) ?_
    refine q_sld hx hb hX hbl hbA hS 0 (by decide) (by omega) dL_cell_8 ?_
    refine lv_goto (tgt := 13) hx hb dL_cell_9 (by decide) ?_
    exact W.zret hx hb hr rfl (fun t ht hW => ⟨⟨xs 0, (), rfl, (if_pos (by omega)).symm, True.intro⟩, hS.F ht⟩) hS.2.2 dL_cell_13 hlocks
theorem X_blind {av : List Value} {b L sz : Nat} {xs : Nat → Int32} : FrameBlind (va_Pc av (fun U => U.heap.size = sz ∧ va_X b L xs U U.heap)) := by
  intro a U g mk h
  obtain ⟨h0, h1, h2⟩ := h
  exact ⟨h0, h1, va_X.moved (u := U) (U := U.calling g mk a) (Vm.Alike.refl U.vm) h2⟩
theorem apart_L {A : Nat → Prop} {S T : Type} {Wf : S → va_W} {Wg : T → va_W} {ad bd : Nat → Nat} {u : S} {v : T} (hW : WAd Wf ad) (hV : WAd Wg bd) (hlen : (Wf u).length = 12) (hD : va_D A (Wf u ++ Wg v)) : ∀ i j, i < 12 → j < 12 → ad i ≠ bd j := by
  intro i j hi hj z
  obtain ⟨e1, h1⟩ := hW.1 u i hi
  obtain ⟨e2, h2⟩ := hV.1 v j hj
  have g1 : (Wf u ++ Wg v)[i]? = some (ad i, e1) := by rw [List.getElem?_append_left (by omega)]; exact h1
  have g2 : (Wf u ++ Wg v)[12 + j]? = some (bd j, e2) := by rw [List.getElem?_append_right (by omega), show 12 + j - (Wf u).length = j by omega]; exact h2
  have := hD.1 i (12 + j) _ _ g1 g2 z
  omega
theorem apart_1 {A : Nat → Prop} {S : Type} {Wf : S → va_W} {ad : Nat → Nat} {u : S} {ao : Nat} {e : va_E} (hW : WAd Wf ad) (hlen : (Wf u).length = 12) (hD : va_D A (Wf u ++ [(ao, e)])) : ∀ k, k < 12 → ad k ≠ ao := by
  intro i hi z
  obtain ⟨e1, h1⟩ := hW.1 u i hi
  have g1 : (Wf u ++ [(ao, e)])[i]? = some (ad i, e1) := by rw [List.getElem?_append_left (by omega)]; exact h1
  have g2 : (Wf u ++ [(ao, e)])[12]? = some (ao, e) := by rw [List.getElem?_append_right (by omega), show 12 - (Wf u).length = 0 by omega]; rfl
  have := hD.1 i 12 _ _ g1 g2 z
  omega
