set_option maxHeartbeats 4000000 in
set_option maxRecDepth 100000 in
theorem c_X1_noteWhereAllLie (l : Launch) (cI cZ : ClassId) (D : va_G) (ad pl : Nat → Nat) (tb sz : Nat) (σ γ : Sg) (hI : Inv σ) : CtV l yX1_noteWhereAllLie wsX1_noteWhereAllLie ({ frames := 1, cells := 0, slots := 0, locals := 21 }) cI cZ D ad pl tb sz (WC cI cZ ad) (σ, γ) [.ref (ad 0)] (fun u => ∃ γ1, u = (σ, γ1) ∧ ∀ j, j < σ 11 0 → γ1 2 j = layF σ j) := by
  refine Met.ofW (cc := cX1_noteWhereAllLie) (maxL := 2) (ret := none) (by decide) rfl ?_
  intro p e s m args below meth c s₁ B hml hv
  obtain ⟨rfl, hsz, hP, hK, hD0, hZ⟩ := hv
  have hx := B.exec
  have hb := B.bytes
  have hr := B.returns
  have hts := atoms_spec (ws := wsX1_noteWhereAllLie) B.pre
  have hown : s.vm.findClass RX1 = some m.cls := findClass_of_methodNamed B.named
  have hlocks := B.notSynchronized
  have hin : ∀ w ∈ wsX10, w ∈ wsX1_noteWhereAllLie := fun w h => List.mem_cons_of_mem _ (List.mem_append_right _ h)
  subst hsz
  have hD : va_D (AC ad s.heap.size) (WC cI cZ ad (σ, γ)) := AC_self WAd_c hD0
  have hA : ∀ q : Nat, s.heap.size ≤ q → AC ad s.heap.size q := fun q h => Or.inr h
  have hS : va_S (AC ad s.heap.size) s.heap s.heap [] := va_S.rf
  have hl := lv_entry ([.ref (ad 0)]) (n := 2) (Nat.le_of_ble_eq_true rfl)
  rw [lg_entry_eq]
  generalize (lg_sl ([.ref (ad 0)]) ++ List.replicate (2 - (lg_sl ([.ref (ad 0)])).length) Slot.unset).toArray = ls at hl ⊢
  have hl : lv_has ls 2 [(0, .ref (ad 0))] := hl
  refine lv_iconst (v := 0) hx hb dX1_noteWhereAllLie_0 (by decide) ?_
  refine lv_istore_n (lv' := [(1, .int 0), (0, .ref (ad 0))]) hx hb dX1_noteWhereAllLie_1 rfl hl (by decide) rfl (fun ls hl => ?_)
  refine W_loop (ι := Nat × Sg) 2 (fun (x : Nat × Sg) H locs ls => (x.1 ≤ σ 11 0) ∧ (∀ j, j < x.1 → x.2 2 j = layF σ j) ∧ va_P D vwCl (WC cI cZ ad (σ, x.2)) H ∧ va_D (AC ad s.heap.size) (WC cI cZ ad (σ, x.2)) ∧ va_S (AC ad s.heap.size) s.heap H locs ∧ lv_has ls 2 [(0, .ref (ad 0)), (1, .int (nI x.1))]) (fun (x : Nat × Sg) => σ 11 0 - x.1) ?_ (0, γ) _ _ _ ⟨by (try dsimp only); omega, fun j hj => absurd hj (by omega), hP, hD, hS, lv_as (lv_sub hl [1, 0] rfl) (lv_c rfl (lv_c (congrArg Value.int (by rfl)) rfl))⟩
  intro ⟨i, γ1⟩ H locs ls ⟨h1, h2, hP, hD, hS, hl⟩ ih
  dsimp only at h1 h2 hP hD hl ih
  have b_i := b11 hI
  refine lv_iload_n hx hb dX1_noteWhereAllLie_2 rfl (lv_at hl 1 rfl) ?_
  refine lv_aload_n hx hb dX1_noteWhereAllLie_3 rfl (lv_at hl 0 rfl) ?_
  refine va_get (D := D) (ci := 0) (v := .int (nI (σ 11 0))) (C := RX1) (T := TX1) (N := 15) hx hb hts hin hown hK hP 0 rfl rfl 11 (by decide) (hts (.fieldLink RX1 42 "HandCases" "items" "I") (by decide +kernel)) (fun _ h9 => h9) rfl dX1_noteWhereAllLie_4 ?_
  have b_1 := b11 hI
  refine lv_icmp_ge (tgt := 39) hx hb dX1_noteWhereAllLie_7 (by decide) (fun c_2 => ?_) (fun c_2 => ?_)
  · skip
    have c_2 := (cq_le (nI_toInt (by omega)) (nI_toInt (by omega))).mp c_2
    exact ret_v (σ, γ1) hx hb hr hK hlocks hP hD hS ⟨γ1, rfl, fun j hj => h2 j (by omega)⟩ dX1_noteWhereAllLie_39
  · skip
    have c_2 := mt (cq_le (nI_toInt (by omega)) (nI_toInt (by omega))).mpr c_2
    refine lv_aload_n hx hb dX1_noteWhereAllLie_10 rfl (lv_at hl 0 rfl) ?_
    refine va_get (D := D) (ci := 0) (v := .ref (ad 11)) (C := RX1) (T := TX1) (N := 15) hx hb hts hin hown hK hP 0 rfl rfl 14 (by decide) (hts (.fieldLink RX1 51 "HandCases" "lay" "[I") (by decide +kernel)) (fun _ h9 => h9) rfl dX1_noteWhereAllLie_11 ?_
    refine lv_iload_n hx hb dX1_noteWhereAllLie_14 rfl (lv_at hl 1 rfl) ?_
    refine lv_aload_n hx hb dX1_noteWhereAllLie_15 rfl (lv_at hl 0 rfl) ?_
    refine lv_iload_n hx hb dX1_noteWhereAllLie_16 rfl (lv_at hl 1 rfl) ?_
    refine call_i (As := [.int (nI i)]) (rest := [.int (nI i), .ref (ad 11)]) WAd_c ⟨hx, hb, hml, hown, hts⟩ (c_X1_leads l cI cZ D ad pl tb _ σ γ1 i hI (by omega)) (cwV 1 hts gX1_noteWhereAllLie_X1_leads rfl rfl rfl (by decide +kernel) ⟨Nat.le_of_ble_eq_true rfl, Nat.le_of_ble_eq_true rfl⟩) (va_recv hK hP (ci := 0) (q0 := 0) rfl rfl) hK hP hD hS hA hZ rfl rfl (Nat.le_of_ble_eq_true rfl) hl.1 dX1_noteWhereAllLie_17 ⟨Nat.zero_le _, Nat.zero_le _⟩ (fun r u H locs hq hP hD hS => ?_)
    obtain ⟨rfl, rfl⟩ := hq
    refine lv_if_eq (tgt := 31) hx hb dX1_noteWhereAllLie_20 (by decide) (fun c_3 => ?_) (fun c_3 => ?_)
    · skip
      have c_3 : ¬ (σ 9 i = 0) := pI_0.mp c_3
      refine lv_iconst (v := (-1)) hx hb dX1_noteWhereAllLie_31 (by decide) ?_
      refine q_iast (ws2 := WC cI cZ ad (σ, setA γ1 2 i 0)) hx hb hK hP hD hS 11 0 rfl rfl i (nI_toInt (by omega)) (by omega) (by rw [show ((-1) : Int32) = mI 0 from by decide]; exact updM) rfl dX1_noteWhereAllLie_32 (fun H locs hP hD hS => ?_)
      refine lv_iinc (v := nI (i + 1)) (lv' := [(1, .int (nI (i + 1))), (0, .ref (ad 0))]) hx hb dX1_noteWhereAllLie_33 hl (k := 1) rfl (nI_add i 1) (by decide) rfl (fun ls hl => ?_)
      refine lv_goto (tgt := 2) hx hb dX1_noteWhereAllLie_36 (by decide) ?_
      exact ih (i + 1, setA γ1 2 i 0) _ _ _ ⟨by (try dsimp only); omega, lay_put h2 (show 0 = layF σ i from (if_neg (by omega)).symm), hP, hD, hS, lv_sub hl [1, 0] rfl⟩ (by show σ 11 0 - (i + 1) < σ 11 0 - i; omega)
    · skip
      have c_3 : σ 9 i = 0 := Decidable.not_not.mp (mt pI_0.mpr c_3)
      refine lv_aload_n hx hb dX1_noteWhereAllLie_23 rfl (lv_at hl 0 rfl) ?_
      refine lv_iload_n hx hb dX1_noteWhereAllLie_24 rfl (lv_at hl 1 rfl) ?_
      refine call_i (As := [.int (nI i)]) (rest := [.int (nI i), .ref (ad 11)]) WAd_c ⟨hx, hb, hml, hown, hts⟩ (c_X1_holeOfLead l cI cZ D ad pl tb _ σ γ1 i hI (by omega)) (cwV 1 hts gX1_noteWhereAllLie_X1_holeOfLead rfl rfl rfl (by decide +kernel) ⟨Nat.le_of_ble_eq_true rfl, Nat.le_of_ble_eq_true rfl⟩) (va_recv hK hP (ci := 0) (q0 := 0) rfl rfl) hK hP hD hS hA hZ rfl rfl (Nat.le_of_ble_eq_true rfl) hl.1 dX1_noteWhereAllLie_25 ⟨Nat.zero_le _, Nat.zero_le _⟩ (fun r u H locs hq hP hD hS => ?_)
      obtain ⟨rfl, rfl⟩ := hq
      have b_4 := hol_le hI i
      refine lv_goto (tgt := 32) hx hb dX1_noteWhereAllLie_28 (by decide) ?_
      refine q_iast (ws2 := WC cI cZ ad (σ, setA γ1 2 i (hol σ i))) hx hb hK hP hD hS 11 0 rfl rfl i (nI_toInt (by omega)) (by omega) updM rfl dX1_noteWhereAllLie_32 (fun H locs hP hD hS => ?_)
      refine lv_iinc (v := nI (i + 1)) (lv' := [(1, .int (nI (i + 1))), (0, .ref (ad 0))]) hx hb dX1_noteWhereAllLie_33 hl (k := 1) rfl (nI_add i 1) (by decide) rfl (fun ls hl => ?_)
      refine lv_goto (tgt := 2) hx hb dX1_noteWhereAllLie_36 (by decide) ?_
      exact ih (i + 1, setA γ1 2 i (hol σ i)) _ _ _ ⟨by (try dsimp only); omega, lay_put h2 (show hol σ i = layF σ i from (if_pos (by omega)).symm), hP, hD, hS, lv_sub hl [1, 0] rfl⟩ (by show σ 11 0 - (i + 1) < σ 11 0 - i; omega)

set_option maxHeartbeats 4000000 in
set_option maxRecDepth 100000 in
theorem c_X1_bringHome (l : Launch) (cI cZ : ClassId) (D : va_G) (ad pl : Nat → Nat) (tb sz : Nat) (σ γ : Sg) (ii : Nat) (hI : Inv σ) (hi : ii < 250) : CtI l yX1_bringHome wsX1_bringHome ({ frames := 2, cells := 0, slots := 0, locals := 43 }) cI cZ D ad pl tb sz (WC cI cZ ad) (σ, γ) [.ref (ad 0), .int (nI ii)] (fun r u => ((hol σ ii ≠ 0 ∧ hol σ ii ≠ σ 2 (σ 6 ii) ∧ σ 2 (σ 6 ii) ≠ 0) ∧ r = 1 ∧ u = (uHome σ ii, γ)) ∨ (¬ (hol σ ii ≠ 0 ∧ hol σ ii ≠ σ 2 (σ 6 ii) ∧ σ 2 (σ 6 ii) ≠ 0) ∧ r = 0 ∧ u = (σ, γ))) := by
  refine Met.ofW (cc := cX1_bringHome) (maxL := 2) (ret := (some .boolean)) (by decide) rfl ?_
  intro p e s m args below meth c s₁ B hml hv
  obtain ⟨rfl, hsz, hP, hK, hD0, hZ⟩ := hv
  have hx := B.exec
  have hb := B.bytes
  have hr := B.returns
  have hts := atoms_spec (ws := wsX1_bringHome) B.pre
  have hown : s.vm.findClass RX1 = some m.cls := findClass_of_methodNamed B.named
  have hlocks := B.notSynchronized
  have hin : ∀ w ∈ wsX10, w ∈ wsX1_bringHome := fun w h => List.mem_cons_of_mem _ (List.mem_append_right _ h)
  subst hsz
  have hD : va_D (AC ad s.heap.size) (WC cI cZ ad (σ, γ)) := AC_self WAd_c hD0
  have hA : ∀ q : Nat, s.heap.size ≤ q → AC ad s.heap.size q := fun q h => Or.inr h
  have hS : va_S (AC ad s.heap.size) s.heap s.heap [] := va_S.rf
  have hl := lv_entry ([.ref (ad 0), .int (nI ii)]) (n := 2) (Nat.le_of_ble_eq_true rfl)
  rw [lg_entry_eq]
  generalize (lg_sl ([.ref (ad 0), .int (nI ii)]) ++ List.replicate (2 - (lg_sl ([.ref (ad 0), .int (nI ii)])).length) Slot.unset).toArray = ls at hl ⊢
  have hl : lv_has ls 2 [(0, .ref (ad 0)), (1, .int (nI ii))] := hl
  refine lv_aload_n hx hb dX1_bringHome_0 rfl (lv_at hl 0 rfl) ?_
  refine lv_iload_n hx hb dX1_bringHome_1 rfl (lv_at hl 1 rfl) ?_
  refine call_i (As := [.int (nI ii)]) (rest := []) WAd_c ⟨hx, hb, hml, hown, hts⟩ (c_X1_isWrong l cI cZ D ad pl tb _ σ γ ii hI (by omega)) (cwV 1 hts gX1_bringHome_X1_isWrong rfl rfl rfl (by decide +kernel) ⟨Nat.le_of_ble_eq_true rfl, Nat.le_of_ble_eq_true rfl⟩) (va_recv hK hP (ci := 0) (q0 := 0) rfl rfl) hK hP hD hS hA hZ rfl rfl (Nat.le_of_ble_eq_true rfl) hl.1 dX1_bringHome_2 ⟨Nat.zero_le _, Nat.zero_le _⟩ (fun r u H locs hq hP hD hS => ?_)
  obtain ⟨rfl, rfl⟩ := hq
  refine lv_if_eq (tgt := 23) hx hb dX1_bringHome_5 (by decide) (fun c_1 => ?_) (fun c_1 => ?_)
  · skip
    have c_1 : ¬ (hol σ ii ≠ 0 ∧ hol σ ii ≠ σ 2 (σ 6 ii)) := pI_0.mp c_1
    refine lv_iconst (v := 0) hx hb dX1_bringHome_23 (by decide) ?_
    exact ret_i (σ, γ) hx hb hr rfl hK hlocks hP hD hS (Or.inr ⟨by omega, rfl, rfl⟩) dX1_bringHome_24
  · skip
    have c_1 : hol σ ii ≠ 0 ∧ hol σ ii ≠ σ 2 (σ 6 ii) := Decidable.not_not.mp (mt pI_0.mpr c_1)
    refine lv_aload_n hx hb dX1_bringHome_8 rfl (lv_at hl 0 rfl) ?_
    refine va_get (D := D) (ci := 0) (v := .ref (ad 2)) (C := RX1) (T := TX1) (N := 15) hx hb hts hin hown hK hP 0 rfl rfl 2 (by decide) (hts (.fieldLink RX1 13 "HandCases" "holeOf" "[I") (by decide +kernel)) (fun _ h9 => h9) rfl dX1_bringHome_9 ?_
    refine lv_aload_n hx hb dX1_bringHome_12 rfl (lv_at hl 0 rfl) ?_
    refine va_get (D := D) (ci := 0) (v := .ref (ad 5)) (C := RX1) (T := TX1) (N := 15) hx hb hts hin hown hK hP 0 rfl rfl 6 (by decide) (hts (.fieldLink RX1 27 "HandCases" "numberOf" "[I") (by decide +kernel)) (fun _ h9 => h9) rfl dX1_bringHome_13 ?_
    refine lv_iload_n hx hb dX1_bringHome_16 rfl (lv_at hl 1 rfl) ?_
    have b_2 := b6 hI ii
    refine q_iald (v := nI (σ 6 ii)) hx hb hK hP 5 0 rfl rfl ii (nI_toInt (by omega)) (by omega) rfl dX1_bringHome_17 ?_
    have b_3 := b2 hI (σ 6 ii)
    refine q_iald (v := mI (σ 2 (σ 6 ii))) hx hb hK hP 2 0 rfl rfl (σ 6 ii) (nI_toInt (by omega)) (by omega) rfl dX1_bringHome_18 ?_
    refine lv_iconst (v := (-1)) hx hb dX1_bringHome_19 (by decide) ?_
    refine lv_icmp_ne (tgt := 25) hx hb dX1_bringHome_20 (by decide) (fun c_4 => ?_) (fun c_4 => ?_)
    · skip
      have c_4 := mt (cq_eq (mI_toInt (by omega)) (show (-1 : Int32).toInt = (-1 : Int) from by decide)).mpr c_4
      refine lv_aload_n hx hb dX1_bringHome_25 rfl (lv_at hl 0 rfl) ?_
      refine va_get (D := D) (ci := 0) (v := .ref (ad 7)) (C := RX1) (T := TX1) (N := 15) hx hb hts hin hown hK hP 0 rfl rfl 8 (by decide) (hts (.fieldLink RX1 33 "HandCases" "toldHole" "[I") (by decide +kernel)) (fun _ h9 => h9) rfl dX1_bringHome_26 ?_
      refine lv_iload_n hx hb dX1_bringHome_29 rfl (lv_at hl 1 rfl) ?_
      refine lv_iconst (v := (-1)) hx hb dX1_bringHome_30 (by decide) ?_
      refine q_iast (ws2 := WC cI cZ ad (setA σ 8 ii 0, γ)) hx hb hK hP hD hS 7 0 rfl rfl ii (nI_toInt (by omega)) (by omega) (by rw [show ((-1) : Int32) = mI 0 from by decide]; exact updM) rfl dX1_bringHome_31 (fun H locs hP hD hS => ?_)
      have hP : va_P D vwCl (WC cI cZ ad (uHome σ ii, γ)) H := hP
      have hD : va_D (AC ad s.heap.size) (WC cI cZ ad (uHome σ ii, γ)) := hD
      refine lv_iconst (v := 1) hx hb dX1_bringHome_32 (by decide) ?_
      exact ret_i (uHome σ ii, γ) hx hb hr rfl hK hlocks hP hD hS (Or.inl ⟨by omega, rfl, rfl⟩) dX1_bringHome_33
    · skip
      have c_4 := (cq_eq (mI_toInt (by omega)) (show (-1 : Int32).toInt = (-1 : Int) from by decide)).mp c_4
      refine lv_iconst (v := 0) hx hb dX1_bringHome_23 (by decide) ?_
      exact ret_i (σ, γ) hx hb hr rfl hK hlocks hP hD hS (Or.inr ⟨by omega, rfl, rfl⟩) dX1_bringHome_24

set_option maxHeartbeats 4000000 in
set_option maxRecDepth 100000 in
theorem c_X1_sample (l : Launch) (cI cZ : ClassId) (D : va_G) (ad pl : Nat → Nat) (tb sz : Nat) (σ γ : Sg) (p0 p1 p2 : Int32) (hI : Inv σ) : CtI l yX1_sample wsX1_sample ({ frames := 3, cells := 0, slots := 0, locals := 64 }) cI cZ D ad pl tb sz (WC cI cZ ad) (σ, γ) [.ref (ad 0), .int p0, .int p1, .int p2] (fun r u => ∃ γ1, u = ((oSample σ p0 p1 p2).2, γ1) ∧ r = (oSample σ p0 p1 p2).1) := by
  refine Met.ofW (cc := cX1_sample) (maxL := 8) (ret := (some .int)) (by decide) rfl ?_
  intro p e s m args below meth c s₁ B hml hv
  obtain ⟨rfl, hsz, hP, hK, hD0, hZ⟩ := hv
  have hx := B.exec
  have hb := B.bytes
  have hr := B.returns
  have hts := atoms_spec (ws := wsX1_sample) B.pre
  have hown : s.vm.findClass RX1 = some m.cls := findClass_of_methodNamed B.named
  have hlocks := B.notSynchronized
  have hin : ∀ w ∈ wsX10, w ∈ wsX1_sample := fun w h => List.mem_cons_of_mem _ (List.mem_append_right _ h)
  subst hsz
  have hD : va_D (AC ad s.heap.size) (WC cI cZ ad (σ, γ)) := AC_self WAd_c hD0
  have hA : ∀ q : Nat, s.heap.size ≤ q → AC ad s.heap.size q := fun q h => Or.inr h
  have hS : va_S (AC ad s.heap.size) s.heap s.heap [] := va_S.rf
  have hl := lv_entry ([.ref (ad 0), .int p0, .int p1, .int p2]) (n := 8) (Nat.le_of_ble_eq_true rfl)
  rw [lg_entry_eq]
  generalize (lg_sl ([.ref (ad 0), .int p0, .int p1, .int p2]) ++ List.replicate (8 - (lg_sl ([.ref (ad 0), .int p0, .int p1, .int p2])).length) Slot.unset).toArray = ls at hl ⊢
  have hl : lv_has ls 8 [(0, .ref (ad 0)), (1, .int p0), (2, .int p1), (3, .int p2)] := hl
  refine lv_iload_n hx hb dX1_sample_0 rfl (lv_at hl 3 rfl) ?_
  refine lv_iconst (v := 1) hx hb dX1_sample_1 (by decide) ?_
  refine lv_icmp_lt (tgt := 21) hx hb dX1_sample_2 (by decide) (fun c_1 => ?_) (fun c_1 => ?_)
  · skip
    have c_1 := (cq_lt rfl (show (1 : Int32).toInt = (1 : Int) from by decide)).mp c_1
    refine lv_bipush (v := (-2)) hx hb dX1_sample_21 (by decide) ?_
    have eo : oSample σ p0 p1 p2 = ((-2), σ) := by unfold oSample; repeat (first | rw [if_pos (by omega)] | rw [if_neg (by omega)])
    exact ret_i (σ, γ) hx hb hr rfl hK hlocks hP hD hS ⟨γ, by rw [eo], by rw [eo]⟩ dX1_sample_23
  · skip
    have c_1 := mt (cq_lt rfl (show (1 : Int32).toInt = (1 : Int) from by decide)).mpr c_1
    refine lv_iload_n hx hb dX1_sample_5 rfl (lv_at hl 3 rfl) ?_
    refine lv_sipush (v := 1000) hx hb dX1_sample_6 (by decide) ?_
    refine lv_icmp_gt (tgt := 21) hx hb dX1_sample_9 (by decide) (fun c_2 => ?_) (fun c_2 => ?_)
    · skip
      have c_2 := (cq_lt (show (1000 : Int32).toInt = (1000 : Int) from by decide) rfl).mp c_2
      refine lv_bipush (v := (-2)) hx hb dX1_sample_21 (by decide) ?_
      have eo : oSample σ p0 p1 p2 = ((-2), σ) := by unfold oSample; repeat (first | rw [if_pos (by omega)] | rw [if_neg (by omega)])
      exact ret_i (σ, γ) hx hb hr rfl hK hlocks hP hD hS ⟨γ, by rw [eo], by rw [eo]⟩ dX1_sample_23
    · skip
      have c_2 := mt (cq_lt (show (1000 : Int32).toInt = (1000 : Int) from by decide) rfl).mpr c_2
      refine lv_iload_n hx hb dX1_sample_12 rfl (lv_at hl 2 rfl) ?_
      refine lv_if_lt (tgt := 21) hx hb dX1_sample_13 (by decide) (fun c_3 => ?_) (fun c_3 => ?_)
      · skip
        have c_3 := (cq_lt rfl (show (0 : Int32).toInt = (0 : Int) from by decide)).mp c_3
        refine lv_bipush (v := (-2)) hx hb dX1_sample_21 (by decide) ?_
        have eo : oSample σ p0 p1 p2 = ((-2), σ) := by unfold oSample; repeat (first | rw [if_pos (by omega)] | rw [if_neg (by omega)])
        exact ret_i (σ, γ) hx hb hr rfl hK hlocks hP hD hS ⟨γ, by rw [eo], by rw [eo]⟩ dX1_sample_23
      · skip
        have c_3 := mt (cq_lt rfl (show (0 : Int32).toInt = (0 : Int) from by decide)).mpr c_3
        refine lv_iload_n hx hb dX1_sample_16 rfl (lv_at hl 2 rfl) ?_
        refine lv_iload_n hx hb dX1_sample_17 rfl (lv_at hl 3 rfl) ?_
        refine lv_icmp_le (tgt := 24) hx hb dX1_sample_18 (by decide) (fun c_4 => ?_) (fun c_4 => ?_)
        · skip
          have c_4 := (cq_le rfl rfl).mp c_4
          refine lv_aload_n hx hb dX1_sample_24 rfl (lv_at hl 0 rfl) ?_
          refine call_v (As := []) (rest := []) WAd_c ⟨hx, hb, hml, hown, hts⟩ (c_X1_noteWhereAllLie l cI cZ D ad pl tb _ σ γ hI) (cwV 0 hts gX1_sample_X1_noteWhereAllLie rfl rfl rfl (by decide +kernel) ⟨Nat.le_of_ble_eq_true rfl, Nat.le_of_ble_eq_true rfl⟩) (va_recv hK hP (ci := 0) (q0 := 0) rfl rfl) hK hP hD hS hA hZ rfl rfl (Nat.le_of_ble_eq_true rfl) hl.1 dX1_sample_25 ⟨Nat.zero_le _, Nat.zero_le _⟩ (fun u H locs hq hP hD hS => ?_)
          obtain ⟨γ_5, rfl, hlay⟩ := hq
          refine lv_iload_n hx hb dX1_sample_28 rfl (lv_at hl 1 rfl) ?_
          refine lv_istore (lv' := [(4, .int p0), (0, .ref (ad 0)), (1, .int p0), (2, .int p1), (3, .int p2)]) hx hb dX1_sample_29 hl (by decide) rfl (fun ls hl => ?_)
          refine lv_iconst (v := 0) hx hb dX1_sample_31 (by decide) ?_
          refine lv_istore (lv' := [(5, .int 0), (4, .int p0), (0, .ref (ad 0)), (1, .int p0), (2, .int p1), (3, .int p2)]) hx hb dX1_sample_32 hl (by decide) rfl (fun ls hl => ?_)
          refine lv_iconst (v := 0) hx hb dX1_sample_34 (by decide) ?_
          refine lv_istore (lv' := [(6, .int 0), (5, .int 0), (4, .int p0), (0, .ref (ad 0)), (1, .int p0), (2, .int p1), (3, .int p2)]) hx hb dX1_sample_35 hl (by decide) rfl (fun ls hl => ?_)
          refine W_loop (ι := Nat × Int32 × Sg × Nat) 37 (fun (x : Nat × Int32 × Sg × Nat) H locs ls => (x.1 ≤ σ 0 0) ∧ ((x.2.1, x.2.2.1, x.2.2.2) = foldS (smG σ p1 p2) (p0, σ, 0) x.1) ∧ (Inv x.2.2.1) ∧ (x.2.2.1 11 0 = σ 11 0) ∧ (x.2.2.1 0 0 = σ 0 0) ∧ va_P D vwCl (WC cI cZ ad (x.2.2.1, γ_5)) H ∧ va_D (AC ad s.heap.size) (WC cI cZ ad (x.2.2.1, γ_5)) ∧ va_S (AC ad s.heap.size) s.heap H locs ∧ lv_has ls 8 [(0, .ref (ad 0)), (1, .int p0), (2, .int p1), (3, .int p2), (4, .int x.2.1), (5, .int (nI x.2.2.2)), (6, .int (nI x.1))]) (fun (x : Nat × Int32 × Sg × Nat) => σ 0 0 - x.1) ?_ (0, p0, σ, 0) _ _ _ ⟨by (try dsimp only); omega, rfl, hI, rfl, rfl, hP, hD, hS, lv_as (lv_sub hl [3, 4, 5, 6, 2, 1, 0] rfl) (lv_c rfl (lv_c rfl (lv_c rfl (lv_c rfl (lv_c rfl (lv_c (congrArg Value.int (by rfl)) (lv_c (congrArg Value.int (by rfl)) rfl)))))))⟩
          intro ⟨g, x, σ1, n⟩ H locs ls ⟨h1, h2, h4, h5, h6, hP, hD, hS, hl⟩ ihg
          dsimp only at h1 h2 h4 h5 h6 hP hD hl ihg
          have b_0 := b0 hI
          have b_i := b11 hI
          refine lv_iload hx hb dX1_sample_37 (lv_at hl 6 rfl) ?_
          refine lv_aload_n hx hb dX1_sample_39 rfl (lv_at hl 0 rfl) ?_
          refine va_get (D := D) (ci := 0) (v := .int (nI (σ1 0 0))) (C := RX1) (T := TX1) (N := 15) hx hb hts hin hown hK hP 0 rfl rfl 0 (by decide) (hts (.fieldLink RX1 63 "HandCases" "holes" "I") (by decide +kernel)) (fun _ h9 => h9) rfl dX1_sample_40 ?_
          have b_6 := b0 h4
          refine lv_icmp_ge (tgt := 116) hx hb dX1_sample_43 (by decide) (fun c_7 => ?_) (fun c_7 => ?_)
          · skip
            have c_7 := (cq_le (nI_toInt (by omega)) (nI_toInt (by omega))).mp c_7
            refine lv_iload hx hb dX1_sample_116 (lv_at hl 5 rfl) ?_
            have eo : oSample σ p0 p1 p2 = (nI n, σ1) := by unfold oSample; rw [if_neg (by omega)]; have e9 : smT σ p0 p1 p2 = (x, σ1, n) := (by rw [h2]; exact congrArg (foldS (smG σ p1 p2) (p0, σ, 0)) (by omega)); rw [e9]
            exact ret_i (σ1, γ_5) hx hb hr rfl hK hlocks hP hD hS ⟨γ_5, by rw [eo], by rw [eo]⟩ dX1_sample_118
          · skip
            have c_7 := mt (cq_le (nI_toInt (by omega)) (nI_toInt (by omega))).mpr c_7
            refine lv_iconst (v := 0) hx hb dX1_sample_46 (by decide) ?_
            refine lv_istore (lv' := [(7, .int 0), (0, .ref (ad 0)), (1, .int p0), (2, .int p1), (3, .int p2), (4, .int x), (5, .int (nI n)), (6, .int (nI g))]) hx hb dX1_sample_47 hl (by decide) rfl (fun ls hl => ?_)
            refine W_loop (ι := Nat × Int32 × Sg × Nat) 49 (fun (x : Nat × Int32 × Sg × Nat) H locs ls => (x.1 ≤ σ 11 0) ∧ ((x.2.1, x.2.2.1, x.2.2.2) = foldS (smI (layF σ) g p1 p2) (foldS (smG σ p1 p2) (p0, σ, 0) g) x.1) ∧ (Inv x.2.2.1) ∧ (x.2.2.1 11 0 = σ 11 0) ∧ (x.2.2.1 0 0 = σ 0 0) ∧ va_P D vwCl (WC cI cZ ad (x.2.2.1, γ_5)) H ∧ va_D (AC ad s.heap.size) (WC cI cZ ad (x.2.2.1, γ_5)) ∧ va_S (AC ad s.heap.size) s.heap H locs ∧ lv_has ls 8 [(0, .ref (ad 0)), (1, .int p0), (2, .int p1), (3, .int p2), (4, .int x.2.1), (5, .int (nI x.2.2.2)), (6, .int (nI g)), (7, .int (nI x.1))]) (fun (x : Nat × Int32 × Sg × Nat) => σ 11 0 - x.1) ?_ (0, x, σ1, n) _ _ _ ⟨by (try dsimp only); omega, h2, h4, h5, h6, hP, hD, hS, lv_as (lv_sub hl [1, 2, 3, 4, 5, 6, 7, 0] rfl) (lv_c rfl (lv_c rfl (lv_c rfl (lv_c rfl (lv_c rfl (lv_c rfl (lv_c rfl (lv_c (congrArg Value.int (by rfl)) rfl))))))))⟩
            intro ⟨i, x2, σ2, n2⟩ H locs ls ⟨h7, h8, h9, h10, h11, hP, hD, hS, hl⟩ ihi
            dsimp only at h7 h8 h9 h10 h11 hP hD hl ihi
            have b_0 := b0 hI
            have b_i := b11 hI
            refine lv_iload hx hb dX1_sample_49 (lv_at hl 7 rfl) ?_
            refine lv_aload_n hx hb dX1_sample_51 rfl (lv_at hl 0 rfl) ?_
            refine va_get (D := D) (ci := 0) (v := .int (nI (σ2 11 0))) (C := RX1) (T := TX1) (N := 15) hx hb hts hin hown hK hP 0 rfl rfl 11 (by decide) (hts (.fieldLink RX1 42 "HandCases" "items" "I") (by decide +kernel)) (fun _ h9 => h9) rfl dX1_sample_52 ?_
            have b_8 := b11 h9
            refine lv_icmp_ge (tgt := 110) hx hb dX1_sample_55 (by decide) (fun c_9 => ?_) (fun c_9 => ?_)
            · skip
              have c_9 := (cq_le (nI_toInt (by omega)) (nI_toInt (by omega))).mp c_9
              refine lv_iinc (v := nI (g + 1)) (lv' := [(6, .int (nI (g + 1))), (0, .ref (ad 0)), (1, .int p0), (2, .int p1), (3, .int p2), (4, .int x2), (5, .int (nI n2)), (7, .int (nI i))]) hx hb dX1_sample_110 hl (k := 6) rfl (nI_add g 1) (by decide) rfl (fun ls hl => ?_)
              refine lv_goto (tgt := 37) hx hb dX1_sample_113 (by decide) ?_
              exact ihg (g + 1, x2, σ2, n2) _ _ _ ⟨by (try dsimp only); omega, by (try dsimp only); rw [h8]; exact congrArg (foldS (smI (layF σ) g p1 p2) (foldS (smG σ p1 p2) (p0, σ, 0) g)) (by omega), h9, h10, h11, hP, hD, hS, lv_sub hl [1, 2, 3, 4, 5, 6, 0] rfl⟩ (by show σ 0 0 - (g + 1) < σ 0 0 - g; omega)
            · skip
              have c_9 := mt (cq_le (nI_toInt (by omega)) (nI_toInt (by omega))).mpr c_9
              refine lv_aload_n hx hb dX1_sample_58 rfl (lv_at hl 0 rfl) ?_
              refine va_get (D := D) (ci := 0) (v := .ref (ad 11)) (C := RX1) (T := TX1) (N := 15) hx hb hts hin hown hK hP 0 rfl rfl 14 (by decide) (hts (.fieldLink RX1 51 "HandCases" "lay" "[I") (by decide +kernel)) (fun _ h9 => h9) rfl dX1_sample_59 ?_
              refine lv_iload hx hb dX1_sample_62 (lv_at hl 7 rfl) ?_
              have b_y := layF_le hI i
              refine q_iald (v := mI (layF σ i)) hx hb hK hP 11 0 rfl rfl i (nI_toInt (by omega)) (by omega) (congrArg mI (hlay i (by omega))) dX1_sample_64 ?_
              refine lv_iload hx hb dX1_sample_65 (lv_at hl 6 rfl) ?_
              refine lv_icmp_ne (tgt := 104) hx hb dX1_sample_67 (by decide) (fun c_10 => ?_) (fun c_10 => ?_)
              · skip
                have c_10 := mt (cq_eq (mI_toInt (by omega)) (nI_toInt (by omega))).mpr c_10
                refine lv_iinc (v := nI (i + 1)) (lv' := [(7, .int (nI (i + 1))), (0, .ref (ad 0)), (1, .int p0), (2, .int p1), (3, .int p2), (4, .int x2), (5, .int (nI n2)), (6, .int (nI g))]) hx hb dX1_sample_104 hl (k := 7) rfl (nI_add i 1) (by decide) rfl (fun ls hl => ?_)
                refine lv_goto (tgt := 49) hx hb dX1_sample_107 (by decide) ?_
                exact ihi (i + 1, x2, σ2, n2) _ _ _ ⟨by (try dsimp only); omega, by (try dsimp only); show _ = smI (layF σ) g p1 p2 (foldS (smI (layF σ) g p1 p2) (foldS (smG σ p1 p2) (p0, σ, 0) g) i) i; rw [← h8]; unfold smI; dsimp only; rw [if_neg (by omega)], h9, h10, h11, hP, hD, hS, lv_sub hl [1, 2, 3, 4, 5, 6, 7, 0] rfl⟩ (by show σ 11 0 - (i + 1) < σ 11 0 - i; omega)
              · skip
                have c_10 := (cq_eq (mI_toInt (by omega)) (nI_toInt (by omega))).mp c_10
                refine lv_iload hx hb dX1_sample_70 (lv_at hl 4 rfl) ?_
                refine lv_ldc hx hb hown (hts (.constant RX1 114 (1103515245)) (by decide +kernel)) dX1_sample_72 ?_
                refine lv_imul hx hb dX1_sample_74 ?_
                refine lv_sipush (v := 12345) hx hb dX1_sample_75 (by decide) ?_
                refine lv_iadd hx hb dX1_sample_78 ?_
                refine q_topi (smX x2) rfl ?_
                refine lv_istore (lv' := [(4, .int (smX x2)), (0, .ref (ad 0)), (1, .int p0), (2, .int p1), (3, .int p2), (5, .int (nI n2)), (6, .int (nI g)), (7, .int (nI i))]) hx hb dX1_sample_79 hl (by decide) rfl (fun ls hl => ?_)
                refine lv_iload hx hb dX1_sample_81 (lv_at hl 0 rfl) ?_
                refine lv_bipush (v := 16) hx hb dX1_sample_83 (by decide) ?_
                refine lv_iushr (v := smU (smX x2)) hx hb dX1_sample_85 rfl ?_
                refine lv_iload_n hx hb dX1_sample_86 rfl (lv_at hl 4 rfl) ?_
                refine lv_irem hx hb dX1_sample_87 (fun q9 => by have e9 : p2.toInt = 0 := (by rw [q9]; rfl); omega) ?_
                refine lv_iload_n hx hb dX1_sample_88 rfl (lv_at hl 3 rfl) ?_
                refine lv_icmp_ge (tgt := 104) hx hb dX1_sample_89 (by decide) (fun c_11 => ?_) (fun c_11 => ?_)
                · skip
                  have c_11 := (cq_le rfl rfl).mp c_11
                  have hdr : ¬ ((smU (smX x2) - smU (smX x2) / p2 * p2).toInt < p1.toInt) := Int.not_lt.mpr c_11
                  refine lv_iinc (v := nI (i + 1)) (lv' := [(7, .int (nI (i + 1))), (4, .int (smX x2)), (0, .ref (ad 0)), (1, .int p0), (2, .int p1), (3, .int p2), (5, .int (nI n2)), (6, .int (nI g))]) hx hb dX1_sample_104 hl (k := 7) rfl (nI_add i 1) (by decide) rfl (fun ls hl => ?_)
                  refine lv_goto (tgt := 49) hx hb dX1_sample_107 (by decide) ?_
                  exact ihi (i + 1, smX x2, σ2, n2) _ _ _ ⟨by (try dsimp only); omega, by (try dsimp only); show _ = smI (layF σ) g p1 p2 (foldS (smI (layF σ) g p1 p2) (foldS (smG σ p1 p2) (p0, σ, 0) g) i) i; rw [← h8]; unfold smI; dsimp only; rw [if_pos (by omega), if_neg (fun q9 => hdr q9.1)], h9, h10, h11, hP, hD, hS, lv_sub hl [2, 3, 4, 5, 1, 6, 7, 0] rfl⟩ (by show σ 11 0 - (i + 1) < σ 11 0 - i; omega)
                · skip
                  have c_11 := mt (cq_le rfl rfl).mpr c_11
                  have hdr : (smU (smX x2) - smU (smX x2) / p2 * p2).toInt < p1.toInt := Int.not_le.mp c_11
                  refine lv_aload_n hx hb dX1_sample_92 rfl (lv_at hl 1 rfl) ?_
                  refine lv_iload hx hb dX1_sample_93 (lv_at hl 7 rfl) ?_
                  refine call_i (As := [.int (nI i)]) (rest := []) WAd_c ⟨hx, hb, hml, hown, hts⟩ (c_X1_bringHome l cI cZ D ad pl tb _ σ2 γ_5 i h9 (by omega)) (cwV 1 hts gX1_sample_X1_bringHome rfl rfl rfl (by decide +kernel) ⟨Nat.le_of_ble_eq_true rfl, Nat.le_of_ble_eq_true rfl⟩) (va_recv hK hP (ci := 0) (q0 := 0) rfl rfl) hK hP hD hS hA hZ rfl rfl (Nat.le_of_ble_eq_true rfl) hl.1 dX1_sample_95 ⟨Nat.zero_le _, Nat.zero_le _⟩ (fun r u H locs hq hP hD hS => ?_)
                  rcases hq with ⟨hw9, rfl, rfl⟩ | ⟨hw9, rfl, rfl⟩
                  · skip
                    refine lv_if_eq (tgt := 104) hx hb dX1_sample_98 (by decide) (fun c_12 => ?_) (fun c_12 => ?_)
                    · skip
                      have c_12 := (cq_eq (show (1 : Int32).toInt = (1 : Int) from by decide) (show (0 : Int32).toInt = (0 : Int) from by decide)).mp c_12
                      exfalso; omega
                    · skip
                      have c_12 := mt (cq_eq (show (1 : Int32).toInt = (1 : Int) from by decide) (show (0 : Int32).toInt = (0 : Int) from by decide)).mpr c_12
                      refine lv_iinc (v := nI (n2 + 1)) (lv' := [(5, .int (nI (n2 + 1))), (4, .int (smX x2)), (0, .ref (ad 0)), (1, .int p0), (2, .int p1), (3, .int p2), (6, .int (nI g)), (7, .int (nI i))]) hx hb dX1_sample_101 hl (k := 5) rfl (nI_add n2 1) (by decide) rfl (fun ls hl => ?_)
                      refine lv_iinc (v := nI (i + 1)) (lv' := [(7, .int (nI (i + 1))), (5, .int (nI (n2 + 1))), (4, .int (smX x2)), (0, .ref (ad 0)), (1, .int p0), (2, .int p1), (3, .int p2), (6, .int (nI g))]) hx hb dX1_sample_104 hl (k := 7) rfl (nI_add i 1) (by decide) rfl (fun ls hl => ?_)
                      refine lv_goto (tgt := 49) hx hb dX1_sample_107 (by decide) ?_
                      exact ihi (i + 1, smX x2, uHome σ2 i, n2 + 1) _ _ _ ⟨by (try dsimp only); omega, by (try dsimp only); show _ = smI (layF σ) g p1 p2 (foldS (smI (layF σ) g p1 p2) (foldS (smG σ p1 p2) (p0, σ, 0) g) i) i; rw [← h8]; unfold smI; dsimp only; rw [if_pos (by omega), if_pos ⟨hdr, hw9⟩], I_home h9, h10, h11, hP, hD, hS, lv_sub hl [3, 4, 5, 6, 2, 1, 7, 0] rfl⟩ (by show σ 11 0 - (i + 1) < σ 11 0 - i; omega)
                  · skip
                    refine lv_if_eq (tgt := 104) hx hb dX1_sample_98 (by decide) (fun c_13 => ?_) (fun c_13 => ?_)
                    · skip
                      have c_13 := (cq_eq (show (0 : Int32).toInt = (0 : Int) from by decide) (show (0 : Int32).toInt = (0 : Int) from by decide)).mp c_13
                      refine lv_iinc (v := nI (i + 1)) (lv' := [(7, .int (nI (i + 1))), (4, .int (smX x2)), (0, .ref (ad 0)), (1, .int p0), (2, .int p1), (3, .int p2), (5, .int (nI n2)), (6, .int (nI g))]) hx hb dX1_sample_104 hl (k := 7) rfl (nI_add i 1) (by decide) rfl (fun ls hl => ?_)
                      refine lv_goto (tgt := 49) hx hb dX1_sample_107 (by decide) ?_
                      exact ihi (i + 1, smX x2, σ2, n2) _ _ _ ⟨by (try dsimp only); omega, by (try dsimp only); show _ = smI (layF σ) g p1 p2 (foldS (smI (layF σ) g p1 p2) (foldS (smG σ p1 p2) (p0, σ, 0) g) i) i; rw [← h8]; unfold smI; dsimp only; rw [if_pos (by omega), if_neg (fun q9 => hw9 q9.2)], h9, h10, h11, hP, hD, hS, lv_sub hl [2, 3, 4, 5, 1, 6, 7, 0] rfl⟩ (by show σ 11 0 - (i + 1) < σ 11 0 - i; omega)
                    · skip
                      have c_13 := mt (cq_eq (show (0 : Int32).toInt = (0 : Int) from by decide) (show (0 : Int32).toInt = (0 : Int) from by decide)).mpr c_13
                      exfalso; omega
        · skip
          have c_4 := mt (cq_le rfl rfl).mpr c_4
          refine lv_bipush (v := (-2)) hx hb dX1_sample_21 (by decide) ?_
          have eo : oSample σ p0 p1 p2 = ((-2), σ) := by unfold oSample; repeat (first | rw [if_pos (by omega)] | rw [if_neg (by omega)])
          exact ret_i (σ, γ) hx hb hr rfl hK hlocks hP hD hS ⟨γ, by rw [eo], by rw [eo]⟩ dX1_sample_23

