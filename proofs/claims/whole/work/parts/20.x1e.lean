set_option maxHeartbeats 4000000 in
set_option maxRecDepth 100000 in
theorem c_X1_frame (l : Launch) (hl0 : l.stackTraces = false) (cI cZ : ClassId) (D : va_G) (ad pl sa : Nat → Nat) (tb sz : Nat) (σ γ : Sg) (p0 p1 : Int32) (hI : Inv σ) : CtX l yX1_frame wsX1_frame ({ frames := 6, cells := 1, slots := 6, locals := 133 }) cI cZ D ad pl sa tb sz σ γ [.ref (ad 0), .int p0, .int p1] (fun r u => (∃ γ1, u = (σ, γ1)) ∧ oRow (frL σ) p0 p1 = (0, r)) (fun E => (E = "java/lang/IllegalArgumentException" ∧ (oRow (frL σ) p0 p1).1 = 1) ∨ (E = "java/lang/IndexOutOfBoundsException" ∧ (oRow (frL σ) p0 p1).1 = 2)) := by
  refine vx_ofW (cc := cX1_frame) (maxL := 3) (ret := (some .int)) (by decide) rfl ?_
  intro p e s m args below meth c s₁ B hml htab hv
  obtain ⟨rfl, ⟨hsz, hP, hK, hD0, hZ⟩, hX⟩ := hv
  have hx := B.exec
  have hb := B.bytes
  have hr := B.returns
  have hts := atoms_spec (ws := wsX1_frame) B.pre
  have hown : s.vm.findClass RX1 = some m.cls := findClass_of_methodNamed B.named
  have hlocks := B.notSynchronized
  have hin : ∀ w ∈ wsX10, w ∈ wsX1_frame := fun w h => List.mem_cons_of_mem _ (List.mem_append_left _ (List.mem_append_left _ (List.mem_append_right _ h)))
  subst hsz
  have hD : va_D (AC ad s.heap.size) (WC cI cZ ad (σ, γ)) := AC_self WAd_c hD0
  have hA : ∀ q : Nat, s.heap.size ≤ q → AC ad s.heap.size q := fun q h => Or.inr h
  have hS : va_S (AC ad s.heap.size) s.heap s.heap [] := va_S.rf
  have hl := lv_entry ([.ref (ad 0), .int p0, .int p1]) (n := 3) (Nat.le_of_ble_eq_true rfl)
  rw [lg_entry_eq]
  generalize (lg_sl ([.ref (ad 0), .int p0, .int p1]) ++ List.replicate (3 - (lg_sl ([.ref (ad 0), .int p0, .int p1])).length) Slot.unset).toArray = ls at hl ⊢
  have hl : lv_has ls 3 [(0, .ref (ad 0)), (1, .int p0), (2, .int p1)] := hl
  refine lv_aload_n hx hb dX1_frame_0 rfl (lv_at hl 0 rfl) ?_
  refine lv_iload_n hx hb dX1_frame_1 rfl (lv_at hl 1 rfl) ?_
  refine call_i (As := [.int p0]) (rest := []) WAd_c ⟨hx, hb, hml, hown, hts⟩ (c_X1_isCarrier l cI cZ D ad pl tb _ σ γ p0) (cwV 1 hts gX1_frame_X1_isCarrier rfl rfl rfl (by decide +kernel) ⟨Nat.le_of_ble_eq_true rfl, Nat.le_of_ble_eq_true rfl⟩) (va_recv hK hP (ci := 0) (q0 := 0) rfl rfl) hK hP hD hS hA hZ rfl rfl (Nat.le_of_ble_eq_true rfl) hl.1 dX1_frame_2 ⟨Nat.zero_le _, Nat.zero_le _⟩ (fun r u H locs hq hP hD hS => ?_)
  obtain ⟨rfl, rfl⟩ := hq
  refine lv_if_ne (tgt := 18) hx hb dX1_frame_5 (by decide) (fun c_1 => ?_) (fun c_1 => ?_)
  · skip
    have c_1 : 0 ≤ p0.toInt ∧ p0.toInt < 4 := Decidable.not_not.mp (mt pI_0.mpr c_1)
    obtain ⟨c0, e_c0, -, rfl⟩ := i_nat (p := p0) (by omega)
    refine lv_aload_n hx hb dX1_frame_18 rfl (lv_at hl 0 rfl) ?_
    refine lv_iload_n hx hb dX1_frame_19 rfl (lv_at hl 1 rfl) ?_
    refine call_v (As := [.int (nI c0)]) (rest := []) WAd_c ⟨hx, hb, hml, hown, hts⟩ (c_X1_lineUpFrame l cI cZ D ad pl tb _ σ γ c0 hI (by omega) (frL_le hI (c := c0) (by omega))) (cwV 1 hts gX1_frame_X1_lineUpFrame rfl rfl rfl (by decide +kernel) ⟨Nat.le_of_ble_eq_true rfl, Nat.le_of_ble_eq_true rfl⟩) (va_recv hK hP (ci := 0) (q0 := 0) rfl rfl) hK hP hD hS hA hZ rfl rfl (Nat.le_of_ble_eq_true rfl) hl.1 dX1_frame_20 ⟨Nat.zero_le _, Nat.zero_le _⟩ (fun u H locs hq hP hD hS => ?_)
    obtain ⟨γ_2, rfl, hR⟩ := hq
    have e_r := hR.1
    have e_l := frL_le hI (c := c0) (by omega)
    refine lv_iload_n hx hb dX1_frame_23 rfl (lv_at hl 2 rfl) ?_
    refine lv_if_lt (tgt := 35) hx hb dX1_frame_24 (by decide) (fun c_3 => ?_) (fun c_3 => ?_)
    · skip
      have c_3 := (cq_lt rfl (show (0 : Int32).toInt = (0 : Int) from by decide)).mp c_3
      exact vx_throwS (A := AC ad s.heap.size) (names := NMX) (mc := 1) (ms := 6) hx hb hl0 hown (by decide +kernel) x_nm (hts (.classLink RX1 133 "java/lang/IndexOutOfBoundsException") (by decide +kernel)) (hts (.initialized "java/lang/IndexOutOfBoundsException") (by decide +kernel)) hX.1.2.1 (vx_hat (fun w hw => hts w (List.mem_cons_of_mem _ (List.mem_append_right _ hw))) x_bIB hX.hIB) x_gIB hX.2.2.1 hX.2.2.2 hS (hl.1.trans hml.symm) dX1_frame_35 dX1_frame_38 dX1_frame_39 dX1_frame_41 dX1_frame_44 (fun x hx => (htab x hx).elim) (Nat.le_of_ble_eq_true rfl) (Nat.le_of_ble_eq_true rfl) (Nat.le_of_ble_eq_true rfl) (Nat.le_of_ble_eq_true rfl) hlocks (thr_x (Or.inr ⟨rfl, oRow_2 (LL := frL σ) e_c0 (by omega) (by show ¬ (0 ≤ p1.toInt ∧ p1.toInt < ((frL σ c0).length : Int)); omega)⟩) hP hK hD hS) hS.2.2 (Nat.le_refl _) (Nat.le_refl _)
    · skip
      have c_3 := mt (cq_lt rfl (show (0 : Int32).toInt = (0 : Int) from by decide)).mpr c_3
      refine lv_iload_n hx hb dX1_frame_27 rfl (lv_at hl 2 rfl) ?_
      refine lv_aload_n hx hb dX1_frame_28 rfl (lv_at hl 0 rfl) ?_
      refine va_get (D := D) (ci := 0) (v := .int (nI (γ_2 1 0))) (C := RX1) (T := TX1) (N := 15) hx hb hts hin hown hK hP 0 rfl rfl 13 (by decide) (hts (.fieldLink RX1 48 "HandCases" "rowLength" "I") (by decide +kernel)) (fun _ h9 => h9) rfl dX1_frame_29 ?_
      refine lv_icmp_lt (tgt := 45) hx hb dX1_frame_32 (by decide) (fun c_4 => ?_) (fun c_4 => ?_)
      · skip
        have c_4 := (cq_lt rfl (nI_toInt (by omega))).mp c_4
        refine lv_aload_n hx hb dX1_frame_45 rfl (lv_at hl 0 rfl) ?_
        refine va_get (D := D) (ci := 0) (v := .ref (ad 10)) (C := RX1) (T := TX1) (N := 15) hx hb hts hin hown hK hP 0 rfl rfl 12 (by decide) (hts (.fieldLink RX1 45 "HandCases" "row" "[I") (by decide +kernel)) (fun _ h9 => h9) rfl dX1_frame_46 ?_
        refine lv_iload_n hx hb dX1_frame_49 rfl (lv_at hl 2 rfl) ?_
        refine q_iald (v := nI (γ_2 0 p1.toInt.toNat)) hx hb hK hP 10 0 rfl rfl p1.toInt.toNat (by omega) (by omega) rfl dX1_frame_50 ?_
        have eo : oRow (frL σ) (nI c0) p1 = (0, nI (γ_2 0 p1.toInt.toNat)) := (oRow_0 (LL := frL σ) e_c0 (by omega) (by show 0 ≤ p1.toInt ∧ p1.toInt < ((frL σ c0).length : Int); omega)).trans (by rw [hR.2 _ (by omega)])
        exact W.widen (k := 1) (n := 6) (by omega) (by omega) (vx_ret (ret_i (σ, γ_2) hx hb hr rfl hK hlocks hP hD hS ⟨⟨γ_2, rfl⟩, eo⟩ dX1_frame_51))
      · skip
        have c_4 := mt (cq_lt rfl (nI_toInt (by omega))).mpr c_4
        exact vx_throwS (A := AC ad s.heap.size) (names := NMX) (mc := 1) (ms := 6) hx hb hl0 hown (by decide +kernel) x_nm (hts (.classLink RX1 133 "java/lang/IndexOutOfBoundsException") (by decide +kernel)) (hts (.initialized "java/lang/IndexOutOfBoundsException") (by decide +kernel)) hX.1.2.1 (vx_hat (fun w hw => hts w (List.mem_cons_of_mem _ (List.mem_append_right _ hw))) x_bIB hX.hIB) x_gIB hX.2.2.1 hX.2.2.2 hS (hl.1.trans hml.symm) dX1_frame_35 dX1_frame_38 dX1_frame_39 dX1_frame_41 dX1_frame_44 (fun x hx => (htab x hx).elim) (Nat.le_of_ble_eq_true rfl) (Nat.le_of_ble_eq_true rfl) (Nat.le_of_ble_eq_true rfl) (Nat.le_of_ble_eq_true rfl) hlocks (thr_x (Or.inr ⟨rfl, oRow_2 (LL := frL σ) e_c0 (by omega) (by show ¬ (0 ≤ p1.toInt ∧ p1.toInt < ((frL σ c0).length : Int)); omega)⟩) hP hK hD hS) hS.2.2 (Nat.le_refl _) (Nat.le_refl _)
  · skip
    have c_1 : ¬ (0 ≤ p0.toInt ∧ p0.toInt < 4) := pI_0.mp c_1
    exact vx_throwS (A := AC ad s.heap.size) (names := NMX) (mc := 1) (ms := 6) hx hb hl0 hown (by decide +kernel) x_nm (hts (.classLink RX1 122 "java/lang/IllegalArgumentException") (by decide +kernel)) (hts (.initialized "java/lang/IllegalArgumentException") (by decide +kernel)) hX.1.1 (vx_hat (fun w hw => hts w (List.mem_cons_of_mem _ (List.mem_append_left _ (List.mem_append_right _ hw)))) x_bIA hX.hIA) x_gIA hX.2.2.1 hX.2.2.2 hS (hl.1.trans hml.symm) dX1_frame_8 dX1_frame_11 dX1_frame_12 dX1_frame_14 dX1_frame_17 (fun x hx => (htab x hx).elim) (Nat.le_of_ble_eq_true rfl) (Nat.le_of_ble_eq_true rfl) (Nat.le_of_ble_eq_true rfl) (Nat.le_of_ble_eq_true rfl) hlocks (thr_x (Or.inl ⟨rfl, oRow_1 (by omega)⟩) hP hK hD hS) hS.2.2 (Nat.le_refl _) (Nat.le_refl _)

set_option maxHeartbeats 4000000 in
set_option maxRecDepth 100000 in
theorem c_X1_list (l : Launch) (hl0 : l.stackTraces = false) (cI cZ : ClassId) (D : va_G) (ad pl sa : Nat → Nat) (tb sz : Nat) (σ γ : Sg) (p0 p1 : Int32) (hI : Inv σ) : CtX l yX1_list wsX1_list ({ frames := 6, cells := 1, slots := 6, locals := 112 }) cI cZ D ad pl sa tb sz σ γ [.ref (ad 0), .int p0, .int p1] (fun r u => (∃ γ1, u = (σ, γ1)) ∧ oRow (fun c => roL σ c 3) p0 p1 = (0, r)) (fun E => (E = "java/lang/IllegalArgumentException" ∧ (oRow (fun c => roL σ c 3) p0 p1).1 = 1) ∨ (E = "java/lang/IndexOutOfBoundsException" ∧ (oRow (fun c => roL σ c 3) p0 p1).1 = 2)) := by
  refine vx_ofW (cc := cX1_list) (maxL := 3) (ret := (some .int)) (by decide) rfl ?_
  intro p e s m args below meth c s₁ B hml htab hv
  obtain ⟨rfl, ⟨hsz, hP, hK, hD0, hZ⟩, hX⟩ := hv
  have hx := B.exec
  have hb := B.bytes
  have hr := B.returns
  have hts := atoms_spec (ws := wsX1_list) B.pre
  have hown : s.vm.findClass RX1 = some m.cls := findClass_of_methodNamed B.named
  have hlocks := B.notSynchronized
  have hin : ∀ w ∈ wsX10, w ∈ wsX1_list := fun w h => List.mem_cons_of_mem _ (List.mem_append_left _ (List.mem_append_left _ (List.mem_append_right _ h)))
  subst hsz
  have hD : va_D (AC ad s.heap.size) (WC cI cZ ad (σ, γ)) := AC_self WAd_c hD0
  have hA : ∀ q : Nat, s.heap.size ≤ q → AC ad s.heap.size q := fun q h => Or.inr h
  have hS : va_S (AC ad s.heap.size) s.heap s.heap [] := va_S.rf
  have hl := lv_entry ([.ref (ad 0), .int p0, .int p1]) (n := 3) (Nat.le_of_ble_eq_true rfl)
  rw [lg_entry_eq]
  generalize (lg_sl ([.ref (ad 0), .int p0, .int p1]) ++ List.replicate (3 - (lg_sl ([.ref (ad 0), .int p0, .int p1])).length) Slot.unset).toArray = ls at hl ⊢
  have hl : lv_has ls 3 [(0, .ref (ad 0)), (1, .int p0), (2, .int p1)] := hl
  refine lv_aload_n hx hb dX1_list_0 rfl (lv_at hl 0 rfl) ?_
  refine lv_iload_n hx hb dX1_list_1 rfl (lv_at hl 1 rfl) ?_
  refine call_i (As := [.int p0]) (rest := []) WAd_c ⟨hx, hb, hml, hown, hts⟩ (c_X1_isCarrier l cI cZ D ad pl tb _ σ γ p0) (cwV 1 hts gX1_list_X1_isCarrier rfl rfl rfl (by decide +kernel) ⟨Nat.le_of_ble_eq_true rfl, Nat.le_of_ble_eq_true rfl⟩) (va_recv hK hP (ci := 0) (q0 := 0) rfl rfl) hK hP hD hS hA hZ rfl rfl (Nat.le_of_ble_eq_true rfl) hl.1 dX1_list_2 ⟨Nat.zero_le _, Nat.zero_le _⟩ (fun r u H locs hq hP hD hS => ?_)
  obtain ⟨rfl, rfl⟩ := hq
  refine lv_if_ne (tgt := 18) hx hb dX1_list_5 (by decide) (fun c_1 => ?_) (fun c_1 => ?_)
  · skip
    have c_1 : 0 ≤ p0.toInt ∧ p0.toInt < 4 := Decidable.not_not.mp (mt pI_0.mpr c_1)
    obtain ⟨c0, e_c0, -, rfl⟩ := i_nat (p := p0) (by omega)
    refine lv_aload_n hx hb dX1_list_18 rfl (lv_at hl 0 rfl) ?_
    refine lv_iconst (v := 0) hx hb dX1_list_19 (by decide) ?_
    refine va_put (D := D) (ci := 0) (v := .int 0) (ty := .int) (C := RX1) (T := TX1) (N := 15) hx hb hts hin tyX1 tyX1_ok nmX1 hown hK hP hD hS 0 rfl rfl 13 (by decide) (hts (.fieldLink RX1 48 "HandCases" "rowLength" "I") (by decide +kernel)) (fun _ h9 => h9) rfl (by decide +kernel) rfl rfl (Nat.le_of_ble_eq_true rfl) dX1_list_20 (fun H locs hP hD hS => ?_)
    have hP : va_P D vwCl (WC cI cZ ad (σ, setA γ 1 0 0)) H := hP
    have hD : va_D (AC ad s.heap.size) (WC cI cZ ad (σ, setA γ 1 0 0)) := hD
    refine lv_aload_n hx hb dX1_list_23 rfl (lv_at hl 0 rfl) ?_
    refine lv_iload_n hx hb dX1_list_24 rfl (lv_at hl 1 rfl) ?_
    refine va_gets hx hb hZ.2.2.2.1 hS hown (hts (.fieldLink RX1 138 "HandCases$Place" "LIST" "LHandCases$Place;") (by decide +kernel)) (fun _ h9 => h9) dX1_list_25 ?_
    refine call_v (As := [.int (nI c0), .ref (pl 3)]) (rest := []) WAd_c ⟨hx, hb, hml, hown, hts⟩ (c_X1_addRound l cI cZ D ad pl tb _ σ (setA γ 1 0 0) c0 3 ([]) hI (by omega) (by omega) RowIs_nil (by rw [List.length_nil]; have := roL_le hI (c := c0) (by omega); omega)) (cwV 2 hts gX1_list_X1_addRound rfl rfl rfl (by decide +kernel) ⟨Nat.le_of_ble_eq_true rfl, Nat.le_of_ble_eq_true rfl⟩) (va_recv hK hP (ci := 0) (q0 := 0) rfl rfl) hK hP hD hS hA hZ rfl rfl (Nat.le_of_ble_eq_true rfl) hl.1 dX1_list_28 ⟨Nat.zero_le _, Nat.zero_le _⟩ (fun u H locs hq hP hD hS => ?_)
    obtain ⟨γ_2, rfl, hR⟩ := hq
    have e_l := roL_le hI (c := c0) (by omega)
    rw [List.nil_append] at hR
    have e_r := hR.1
    refine lv_iload_n hx hb dX1_list_31 rfl (lv_at hl 2 rfl) ?_
    refine lv_if_lt (tgt := 43) hx hb dX1_list_32 (by decide) (fun c_3 => ?_) (fun c_3 => ?_)
    · skip
      have c_3 := (cq_lt rfl (show (0 : Int32).toInt = (0 : Int) from by decide)).mp c_3
      exact vx_throwS (A := AC ad s.heap.size) (names := NMX) (mc := 1) (ms := 6) hx hb hl0 hown (by decide +kernel) x_nm (hts (.classLink RX1 133 "java/lang/IndexOutOfBoundsException") (by decide +kernel)) (hts (.initialized "java/lang/IndexOutOfBoundsException") (by decide +kernel)) hX.1.2.2.1 (vx_hat (fun w hw => hts w (List.mem_cons_of_mem _ (List.mem_append_right _ hw))) x_bIB hX.hIB) x_gIB hX.2.2.1 hX.2.2.2 hS (hl.1.trans hml.symm) dX1_list_43 dX1_list_46 dX1_list_47 dX1_list_49 dX1_list_52 (fun x hx => (htab x hx).elim) (Nat.le_of_ble_eq_true rfl) (Nat.le_of_ble_eq_true rfl) (Nat.le_of_ble_eq_true rfl) (Nat.le_of_ble_eq_true rfl) hlocks (thr_x (Or.inr ⟨rfl, oRow_2 (LL := fun c => roL σ c 3) e_c0 (by omega) (by show ¬ (0 ≤ p1.toInt ∧ p1.toInt < ((roL σ c0 3).length : Int)); omega)⟩) hP hK hD hS) hS.2.2 (Nat.le_refl _) (Nat.le_refl _)
    · skip
      have c_3 := mt (cq_lt rfl (show (0 : Int32).toInt = (0 : Int) from by decide)).mpr c_3
      refine lv_iload_n hx hb dX1_list_35 rfl (lv_at hl 2 rfl) ?_
      refine lv_aload_n hx hb dX1_list_36 rfl (lv_at hl 0 rfl) ?_
      refine va_get (D := D) (ci := 0) (v := .int (nI (γ_2 1 0))) (C := RX1) (T := TX1) (N := 15) hx hb hts hin hown hK hP 0 rfl rfl 13 (by decide) (hts (.fieldLink RX1 48 "HandCases" "rowLength" "I") (by decide +kernel)) (fun _ h9 => h9) rfl dX1_list_37 ?_
      refine lv_icmp_lt (tgt := 53) hx hb dX1_list_40 (by decide) (fun c_4 => ?_) (fun c_4 => ?_)
      · skip
        have c_4 := (cq_lt rfl (nI_toInt (by omega))).mp c_4
        refine lv_aload_n hx hb dX1_list_53 rfl (lv_at hl 0 rfl) ?_
        refine va_get (D := D) (ci := 0) (v := .ref (ad 10)) (C := RX1) (T := TX1) (N := 15) hx hb hts hin hown hK hP 0 rfl rfl 12 (by decide) (hts (.fieldLink RX1 45 "HandCases" "row" "[I") (by decide +kernel)) (fun _ h9 => h9) rfl dX1_list_54 ?_
        refine lv_iload_n hx hb dX1_list_57 rfl (lv_at hl 2 rfl) ?_
        refine q_iald (v := nI (γ_2 0 p1.toInt.toNat)) hx hb hK hP 10 0 rfl rfl p1.toInt.toNat (by omega) (by omega) rfl dX1_list_58 ?_
        have eo : oRow (fun c => roL σ c 3) (nI c0) p1 = (0, nI (γ_2 0 p1.toInt.toNat)) := (oRow_0 (LL := fun c => roL σ c 3) e_c0 (by omega) (by show 0 ≤ p1.toInt ∧ p1.toInt < ((roL σ c0 3).length : Int); omega)).trans (by rw [hR.2 _ (by omega)])
        exact W.widen (k := 1) (n := 6) (by omega) (by omega) (vx_ret (ret_i (σ, γ_2) hx hb hr rfl hK hlocks hP hD hS ⟨⟨γ_2, rfl⟩, eo⟩ dX1_list_59))
      · skip
        have c_4 := mt (cq_lt rfl (nI_toInt (by omega))).mpr c_4
        exact vx_throwS (A := AC ad s.heap.size) (names := NMX) (mc := 1) (ms := 6) hx hb hl0 hown (by decide +kernel) x_nm (hts (.classLink RX1 133 "java/lang/IndexOutOfBoundsException") (by decide +kernel)) (hts (.initialized "java/lang/IndexOutOfBoundsException") (by decide +kernel)) hX.1.2.2.1 (vx_hat (fun w hw => hts w (List.mem_cons_of_mem _ (List.mem_append_right _ hw))) x_bIB hX.hIB) x_gIB hX.2.2.1 hX.2.2.2 hS (hl.1.trans hml.symm) dX1_list_43 dX1_list_46 dX1_list_47 dX1_list_49 dX1_list_52 (fun x hx => (htab x hx).elim) (Nat.le_of_ble_eq_true rfl) (Nat.le_of_ble_eq_true rfl) (Nat.le_of_ble_eq_true rfl) (Nat.le_of_ble_eq_true rfl) hlocks (thr_x (Or.inr ⟨rfl, oRow_2 (LL := fun c => roL σ c 3) e_c0 (by omega) (by show ¬ (0 ≤ p1.toInt ∧ p1.toInt < ((roL σ c0 3).length : Int)); omega)⟩) hP hK hD hS) hS.2.2 (Nat.le_refl _) (Nat.le_refl _)
  · skip
    have c_1 : ¬ (0 ≤ p0.toInt ∧ p0.toInt < 4) := pI_0.mp c_1
    exact vx_throwS (A := AC ad s.heap.size) (names := NMX) (mc := 1) (ms := 6) hx hb hl0 hown (by decide +kernel) x_nm (hts (.classLink RX1 122 "java/lang/IllegalArgumentException") (by decide +kernel)) (hts (.initialized "java/lang/IllegalArgumentException") (by decide +kernel)) hX.1.1 (vx_hat (fun w hw => hts w (List.mem_cons_of_mem _ (List.mem_append_left _ (List.mem_append_right _ hw)))) x_bIA hX.hIA) x_gIA hX.2.2.1 hX.2.2.2 hS (hl.1.trans hml.symm) dX1_list_8 dX1_list_11 dX1_list_12 dX1_list_14 dX1_list_17 (fun x hx => (htab x hx).elim) (Nat.le_of_ble_eq_true rfl) (Nat.le_of_ble_eq_true rfl) (Nat.le_of_ble_eq_true rfl) (Nat.le_of_ble_eq_true rfl) hlocks (thr_x (Or.inl ⟨rfl, oRow_1 (by omega)⟩) hP hK hD hS) hS.2.2 (Nat.le_refl _) (Nat.le_refl _)

set_option maxHeartbeats 4000000 in
set_option maxRecDepth 100000 in
theorem c_X1_minutes (l : Launch) (hl0 : l.stackTraces = false) (cI cZ : ClassId) (D : va_G) (ad pl sa : Nat → Nat) (tb sz : Nat) (σ γ : Sg) (p0 : Int32) (hI : Inv σ) : CtX l yX1_minutes wsX1_minutes ({ frames := 6, cells := 1, slots := 6, locals := 134 }) cI cZ D ad pl sa tb sz σ γ [.ref (ad 0), .int p0] (fun r u => (∃ γ1, u = (σ, γ1)) ∧ oMin σ p0 = (0, r)) (fun E => E = "java/lang/IllegalArgumentException" ∧ (oMin σ p0).1 = 1) := by
  refine vx_ofW (cc := cX1_minutes) (maxL := 2) (ret := (some .int)) (by decide) rfl ?_
  intro p e s m args below meth c s₁ B hml htab hv
  obtain ⟨rfl, ⟨hsz, hP, hK, hD0, hZ⟩, hX⟩ := hv
  have hx := B.exec
  have hb := B.bytes
  have hr := B.returns
  have hts := atoms_spec (ws := wsX1_minutes) B.pre
  have hown : s.vm.findClass RX1 = some m.cls := findClass_of_methodNamed B.named
  have hlocks := B.notSynchronized
  subst hsz
  have hD : va_D (AC ad s.heap.size) (WC cI cZ ad (σ, γ)) := AC_self WAd_c hD0
  have hA : ∀ q : Nat, s.heap.size ≤ q → AC ad s.heap.size q := fun q h => Or.inr h
  have hS : va_S (AC ad s.heap.size) s.heap s.heap [] := va_S.rf
  have hl := lv_entry ([.ref (ad 0), .int p0]) (n := 2) (Nat.le_of_ble_eq_true rfl)
  rw [lg_entry_eq]
  generalize (lg_sl ([.ref (ad 0), .int p0]) ++ List.replicate (2 - (lg_sl ([.ref (ad 0), .int p0])).length) Slot.unset).toArray = ls at hl ⊢
  have hl : lv_has ls 2 [(0, .ref (ad 0)), (1, .int p0)] := hl
  refine lv_aload_n hx hb dX1_minutes_0 rfl (lv_at hl 0 rfl) ?_
  refine lv_iload_n hx hb dX1_minutes_1 rfl (lv_at hl 1 rfl) ?_
  refine call_i (As := [.int p0]) (rest := []) WAd_c ⟨hx, hb, hml, hown, hts⟩ (c_X1_isCarrier l cI cZ D ad pl tb _ σ γ p0) (cwV 1 hts gX1_minutes_X1_isCarrier rfl rfl rfl (by decide +kernel) ⟨Nat.le_of_ble_eq_true rfl, Nat.le_of_ble_eq_true rfl⟩) (va_recv hK hP (ci := 0) (q0 := 0) rfl rfl) hK hP hD hS hA hZ rfl rfl (Nat.le_of_ble_eq_true rfl) hl.1 dX1_minutes_2 ⟨Nat.zero_le _, Nat.zero_le _⟩ (fun r u H locs hq hP hD hS => ?_)
  obtain ⟨rfl, rfl⟩ := hq
  refine lv_if_ne (tgt := 18) hx hb dX1_minutes_5 (by decide) (fun c_1 => ?_) (fun c_1 => ?_)
  · skip
    have c_1 : 0 ≤ p0.toInt ∧ p0.toInt < 4 := Decidable.not_not.mp (mt pI_0.mpr c_1)
    obtain ⟨c0, e_c0, -, rfl⟩ := i_nat (p := p0) (by omega)
    refine lv_aload_n hx hb dX1_minutes_18 rfl (lv_at hl 0 rfl) ?_
    refine lv_iload_n hx hb dX1_minutes_19 rfl (lv_at hl 1 rfl) ?_
    refine call_i (As := [.int (nI c0)]) (rest := []) WAd_c ⟨hx, hb, hml, hown, hts⟩ (c_X1_secondsOf l cI cZ D ad pl tb _ σ γ c0 hI (by omega) (mL_le hI (c := c0) (by omega))) (cwV 1 hts gX1_minutes_X1_secondsOf rfl rfl rfl (by decide +kernel) ⟨Nat.le_of_ble_eq_true rfl, Nat.le_of_ble_eq_true rfl⟩) (va_recv hK hP (ci := 0) (q0 := 0) rfl rfl) hK hP hD hS hA hZ rfl rfl (Nat.le_of_ble_eq_true rfl) hl.1 dX1_minutes_20 ⟨Nat.zero_le _, Nat.zero_le _⟩ (fun r u H locs hq hP hD hS => ?_)
    obtain ⟨γ_2, rfl, rfl⟩ := hq
    refine lv_bipush (v := 60) hx hb dX1_minutes_23 (by decide) ?_
    refine lv_iadd hx hb dX1_minutes_25 ?_
    refine q_topi (nI (secL σ c0 + 60)) (nI_add (secL σ c0) 60) ?_
    refine lv_iconst (v := 1) hx hb dX1_minutes_26 (by decide) ?_
    refine lv_isub hx hb dX1_minutes_27 ?_
    refine q_topi (nI (secL σ c0 + 59)) (nI_pred (secL σ c0 + 59)) ?_
    refine lv_bipush (v := 60) hx hb dX1_minutes_28 (by decide) ?_
    refine lv_idiv hx hb dX1_minutes_30 (by decide) ?_
    refine q_topi (nI ((secL σ c0 + 59) / 60)) (pk_div (by have := secL_le hI c0; omega) (by decide) (by decide)) ?_
    have eo : oMin σ (nI c0) = (0, nI ((secL σ c0 + 59) / 60)) := by unfold oMin; simp only [e_c0, Int.toNat_natCast]; rw [if_neg (by omega)]
    exact W.widen (k := 1) (n := 6) (by omega) (by omega) (vx_ret (ret_i (σ, γ_2) hx hb hr rfl hK hlocks hP hD hS ⟨⟨γ_2, rfl⟩, eo⟩ dX1_minutes_31))
  · skip
    have c_1 : ¬ (0 ≤ p0.toInt ∧ p0.toInt < 4) := pI_0.mp c_1
    exact vx_throwS (A := AC ad s.heap.size) (names := NMX) (mc := 1) (ms := 6) hx hb hl0 hown (by decide +kernel) x_nm (hts (.classLink RX1 122 "java/lang/IllegalArgumentException") (by decide +kernel)) (hts (.initialized "java/lang/IllegalArgumentException") (by decide +kernel)) hX.1.1 (vx_hat (fun w hw => hts w (List.mem_cons_of_mem _ (List.mem_append_right _ hw))) x_bIA hX.hIA) x_gIA hX.2.2.1 hX.2.2.2 hS (hl.1.trans hml.symm) dX1_minutes_8 dX1_minutes_11 dX1_minutes_12 dX1_minutes_14 dX1_minutes_17 (fun x hx => (htab x hx).elim) (Nat.le_of_ble_eq_true rfl) (Nat.le_of_ble_eq_true rfl) (Nat.le_of_ble_eq_true rfl) (Nat.le_of_ble_eq_true rfl) hlocks (thr_x ⟨rfl, by unfold oMin; rw [if_pos (by omega)]⟩ hP hK hD hS) hS.2.2 (Nat.le_refl _) (Nat.le_refl _)

set_option maxHeartbeats 4000000 in
set_option maxRecDepth 100000 in
theorem c_X1_count (l : Launch) (hl0 : l.stackTraces = false) (cI cZ : ClassId) (D : va_G) (ad pl sa : Nat → Nat) (tb sz : Nat) (σ γ : Sg) (p0 : Int32) (hI : Inv σ) : CtX l yX1_count wsX1_count ({ frames := 6, cells := 1, slots := 6, locals := 109 }) cI cZ D ad pl sa tb sz σ γ [.ref (ad 0), .int p0] (fun r u => (∃ γ1, u = (σ, γ1)) ∧ oCnt σ p0 = (0, r)) (fun E => E = "java/lang/IndexOutOfBoundsException" ∧ (oCnt σ p0).1 = 1) := by
  refine vx_ofW (cc := cX1_count) (maxL := 2) (ret := (some .int)) (by decide) rfl ?_
  intro p e s m args below meth c s₁ B hml htab hv
  obtain ⟨rfl, ⟨hsz, hP, hK, hD0, hZ⟩, hX⟩ := hv
  have hx := B.exec
  have hb := B.bytes
  have hr := B.returns
  have hts := atoms_spec (ws := wsX1_count) B.pre
  have hown : s.vm.findClass RX1 = some m.cls := findClass_of_methodNamed B.named
  have hlocks := B.notSynchronized
  have hin : ∀ w ∈ wsX10, w ∈ wsX1_count := fun w h => List.mem_cons_of_mem _ (List.mem_append_left _ (List.mem_append_right _ h))
  subst hsz
  have hD : va_D (AC ad s.heap.size) (WC cI cZ ad (σ, γ)) := AC_self WAd_c hD0
  have hA : ∀ q : Nat, s.heap.size ≤ q → AC ad s.heap.size q := fun q h => Or.inr h
  have hS : va_S (AC ad s.heap.size) s.heap s.heap [] := va_S.rf
  have hl := lv_entry ([.ref (ad 0), .int p0]) (n := 2) (Nat.le_of_ble_eq_true rfl)
  rw [lg_entry_eq]
  generalize (lg_sl ([.ref (ad 0), .int p0]) ++ List.replicate (2 - (lg_sl ([.ref (ad 0), .int p0])).length) Slot.unset).toArray = ls at hl ⊢
  have hl : lv_has ls 2 [(0, .ref (ad 0)), (1, .int p0)] := hl
  refine lv_iload_n hx hb dX1_count_0 rfl (lv_at hl 1 rfl) ?_
  by_cases w_1 : p0 = 0
  · skip
    refine lv_tableIn (off := 51) (tgt := 52) hx hb dX1_count_1 (by rw [w_1]; decide) (by rw [w_1]; decide) (by rw [w_1]; rfl) (by decide) ?_
    refine lv_aload_n hx hb dX1_count_52 rfl (lv_at hl 0 rfl) ?_
    refine va_get (D := D) (ci := 0) (v := .int (nI (σ 0 0))) (C := RX1) (T := TX1) (N := 15) hx hb hts hin hown hK hP 0 rfl rfl 0 (by decide) (hts (.fieldLink RX1 63 "HandCases" "holes" "I") (by decide +kernel)) (fun _ h9 => h9) rfl dX1_count_53 ?_
    have b_2 := b0 hI
    have eo : oCnt σ p0 = (0, nI (σ 0 0)) := (oCnt_lit (k := 0) (by rw [w_1]; decide) (by decide)).trans rfl
    exact W.widen (k := 1) (n := 6) (by omega) (by omega) (vx_ret (ret_i (σ, γ) hx hb hr rfl hK hlocks hP hD hS ⟨⟨γ, rfl⟩, eo⟩ dX1_count_56))
  have w_1 : ¬ p0.toInt = 0 := mt (cq_eq rfl (by decide : (0 : Int32).toInt = 0)).mpr w_1
  by_cases w_3 : p0 = 1
  · skip
    refine lv_tableIn (off := 56) (tgt := 57) hx hb dX1_count_1 (by rw [w_3]; decide) (by rw [w_3]; decide) (by rw [w_3]; rfl) (by decide) ?_
    refine lv_aload_n hx hb dX1_count_57 rfl (lv_at hl 0 rfl) ?_
    refine va_get (D := D) (ci := 0) (v := .int (nI (σ 5 0))) (C := RX1) (T := TX1) (N := 15) hx hb hts hin hown hK hP 0 rfl rfl 5 (by decide) (hts (.fieldLink RX1 23 "HandCases" "houses" "I") (by decide +kernel)) (fun _ h9 => h9) rfl dX1_count_58 ?_
    have b_4 := b5 hI
    have eo : oCnt σ p0 = (0, nI (σ 5 0)) := (oCnt_lit (k := 1) (by rw [w_3]; decide) (by decide)).trans rfl
    exact W.widen (k := 1) (n := 6) (by omega) (by omega) (vx_ret (ret_i (σ, γ) hx hb hr rfl hK hlocks hP hD hS ⟨⟨γ, rfl⟩, eo⟩ dX1_count_61))
  have w_3 : ¬ p0.toInt = 1 := mt (cq_eq rfl (by decide : (1 : Int32).toInt = 1)).mpr w_3
  by_cases w_5 : p0 = 2
  · skip
    refine lv_tableIn (off := 61) (tgt := 62) hx hb dX1_count_1 (by rw [w_5]; decide) (by rw [w_5]; decide) (by rw [w_5]; rfl) (by decide) ?_
    refine lv_aload_n hx hb dX1_count_62 rfl (lv_at hl 0 rfl) ?_
    refine va_get (D := D) (ci := 0) (v := .int (nI (σ 11 0))) (C := RX1) (T := TX1) (N := 15) hx hb hts hin hown hK hP 0 rfl rfl 11 (by decide) (hts (.fieldLink RX1 42 "HandCases" "items" "I") (by decide +kernel)) (fun _ h9 => h9) rfl dX1_count_63 ?_
    have b_6 := b11 hI
    have eo : oCnt σ p0 = (0, nI (σ 11 0)) := (oCnt_lit (k := 2) (by rw [w_5]; decide) (by decide)).trans rfl
    exact W.widen (k := 1) (n := 6) (by omega) (by omega) (vx_ret (ret_i (σ, γ) hx hb hr rfl hK hlocks hP hD hS ⟨⟨γ, rfl⟩, eo⟩ dX1_count_66))
  have w_5 : ¬ p0.toInt = 2 := mt (cq_eq rfl (by decide : (2 : Int32).toInt = 2)).mpr w_5
  by_cases w_7 : p0 = 3
  · skip
    refine lv_tableIn (off := 66) (tgt := 67) hx hb dX1_count_1 (by rw [w_7]; decide) (by rw [w_7]; decide) (by rw [w_7]; rfl) (by decide) ?_
    refine lv_aload_n hx hb dX1_count_67 rfl (lv_at hl 0 rfl) ?_
    refine call_i (As := []) (rest := []) WAd_c ⟨hx, hb, hml, hown, hts⟩ (c_X1_wrongOnes l cI cZ D ad pl tb _ σ γ hI) (cwV 0 hts gX1_count_X1_wrongOnes rfl rfl rfl (by decide +kernel) ⟨Nat.le_of_ble_eq_true rfl, Nat.le_of_ble_eq_true rfl⟩) (va_recv hK hP (ci := 0) (q0 := 0) rfl rfl) hK hP hD hS hA hZ rfl rfl (Nat.le_of_ble_eq_true rfl) hl.1 dX1_count_68 ⟨Nat.zero_le _, Nat.zero_le _⟩ (fun r u H locs hq hP hD hS => ?_)
    obtain ⟨rfl, rfl⟩ := hq
    have eo : oCnt σ p0 = (0, nI (sumN (wrF σ) (σ 11 0))) := (oCnt_lit (k := 3) (by rw [w_7]; decide) (by decide)).trans rfl
    exact W.widen (k := 1) (n := 6) (by omega) (by omega) (vx_ret (ret_i (σ, γ) hx hb hr rfl hK hlocks hP hD hS ⟨⟨γ, rfl⟩, eo⟩ dX1_count_71))
  have w_7 : ¬ p0.toInt = 3 := mt (cq_eq rfl (by decide : (3 : Int32).toInt = 3)).mpr w_7
  by_cases w_8 : p0 = 4
  · skip
    refine lv_tableIn (off := 71) (tgt := 72) hx hb dX1_count_1 (by rw [w_8]; decide) (by rw [w_8]; decide) (by rw [w_8]; rfl) (by decide) ?_
    refine lv_aload_n hx hb dX1_count_72 rfl (lv_at hl 0 rfl) ?_
    refine call_i (As := []) (rest := []) WAd_c ⟨hx, hb, hml, hown, hts⟩ (c_X1_heldHouses l cI cZ D ad pl tb _ σ γ hI) (cwV 0 hts gX1_count_X1_heldHouses rfl rfl rfl (by decide +kernel) ⟨Nat.le_of_ble_eq_true rfl, Nat.le_of_ble_eq_true rfl⟩) (va_recv hK hP (ci := 0) (q0 := 0) rfl rfl) hK hP hD hS hA hZ rfl rfl (Nat.le_of_ble_eq_true rfl) hl.1 dX1_count_73 ⟨Nat.zero_le _, Nat.zero_le _⟩ (fun r u H locs hq hP hD hS => ?_)
    obtain ⟨rfl, rfl⟩ := hq
    have eo : oCnt σ p0 = (0, nI (sumN (heF σ) (σ 5 0))) := (oCnt_lit (k := 4) (by rw [w_8]; decide) (by decide)).trans rfl
    exact W.widen (k := 1) (n := 6) (by omega) (by omega) (vx_ret (ret_i (σ, γ) hx hb hr rfl hK hlocks hP hD hS ⟨⟨γ, rfl⟩, eo⟩ dX1_count_76))
  have w_8 : ¬ p0.toInt = 4 := mt (cq_eq rfl (by decide : (4 : Int32).toInt = 4)).mpr w_8
  by_cases w_9 : p0 = 5
  · skip
    refine lv_tableIn (off := 76) (tgt := 77) hx hb dX1_count_1 (by rw [w_9]; decide) (by rw [w_9]; decide) (by rw [w_9]; rfl) (by decide) ?_
    refine lv_aload_n hx hb dX1_count_77 rfl (lv_at hl 0 rfl) ?_
    refine call_i (As := []) (rest := []) WAd_c ⟨hx, hb, hml, hown, hts⟩ (c_X1_itemsInFrames l cI cZ D ad pl tb _ σ γ hI) (cwV 0 hts gX1_count_X1_itemsInFrames rfl rfl rfl (by decide +kernel) ⟨Nat.le_of_ble_eq_true rfl, Nat.le_of_ble_eq_true rfl⟩) (va_recv hK hP (ci := 0) (q0 := 0) rfl rfl) hK hP hD hS hA hZ rfl rfl (Nat.le_of_ble_eq_true rfl) hl.1 dX1_count_78 ⟨Nat.zero_le _, Nat.zero_le _⟩ (fun r u H locs hq hP hD hS => ?_)
    obtain ⟨rfl, rfl⟩ := hq
    have eo : oCnt σ p0 = (0, nI (sumN (atF σ 4) (σ 11 0) + sumN (atF σ 1) (σ 11 0))) := (oCnt_lit (k := 5) (by rw [w_9]; decide) (by decide)).trans rfl
    exact W.widen (k := 1) (n := 6) (by omega) (by omega) (vx_ret (ret_i (σ, γ) hx hb hr rfl hK hlocks hP hD hS ⟨⟨γ, rfl⟩, eo⟩ dX1_count_81))
  have w_9 : ¬ p0.toInt = 5 := mt (cq_eq rfl (by decide : (5 : Int32).toInt = 5)).mpr w_9
  by_cases w_10 : p0 = 6
  · skip
    refine lv_tableIn (off := 81) (tgt := 82) hx hb dX1_count_1 (by rw [w_10]; decide) (by rw [w_10]; decide) (by rw [w_10]; rfl) (by decide) ?_
    refine lv_aload_n hx hb dX1_count_82 rfl (lv_at hl 0 rfl) ?_
    refine va_gets hx hb hZ.2.2.2.1 hS hown (hts (.fieldLink RX1 138 "HandCases$Place" "LIST" "LHandCases$Place;") (by decide +kernel)) (fun _ h9 => h9) dX1_count_83 ?_
    refine call_i (As := [.ref (pl 3)]) (rest := []) WAd_c ⟨hx, hb, hml, hown, hts⟩ (c_X1_itemsAt l cI cZ D ad pl tb _ σ γ 3 hI (by omega)) (cwV 1 hts gX1_count_X1_itemsAt rfl rfl rfl (by decide +kernel) ⟨Nat.le_of_ble_eq_true rfl, Nat.le_of_ble_eq_true rfl⟩) (va_recv hK hP (ci := 0) (q0 := 0) rfl rfl) hK hP hD hS hA hZ rfl rfl (Nat.le_of_ble_eq_true rfl) hl.1 dX1_count_86 ⟨Nat.zero_le _, Nat.zero_le _⟩ (fun r u H locs hq hP hD hS => ?_)
    obtain ⟨rfl, rfl⟩ := hq
    have eo : oCnt σ p0 = (0, nI (sumN (atF σ 3) (σ 11 0))) := (oCnt_lit (k := 6) (by rw [w_10]; decide) (by decide)).trans rfl
    exact W.widen (k := 1) (n := 6) (by omega) (by omega) (vx_ret (ret_i (σ, γ) hx hb hr rfl hK hlocks hP hD hS ⟨⟨γ, rfl⟩, eo⟩ dX1_count_89))
  have w_10 : ¬ p0.toInt = 6 := mt (cq_eq rfl (by decide : (6 : Int32).toInt = 6)).mpr w_10
  by_cases w_11 : p0 = 7
  · skip
    refine lv_tableIn (off := 89) (tgt := 90) hx hb dX1_count_1 (by rw [w_11]; decide) (by rw [w_11]; decide) (by rw [w_11]; rfl) (by decide) ?_
    refine lv_aload_n hx hb dX1_count_90 rfl (lv_at hl 0 rfl) ?_
    refine va_gets hx hb hZ.2.2.1 hS hown (hts (.fieldLink RX1 150 "HandCases$Place" "DRAWER" "LHandCases$Place;") (by decide +kernel)) (fun _ h9 => h9) dX1_count_91 ?_
    refine call_i (As := [.ref (pl 2)]) (rest := []) WAd_c ⟨hx, hb, hml, hown, hts⟩ (c_X1_itemsAt l cI cZ D ad pl tb _ σ γ 2 hI (by omega)) (cwV 1 hts gX1_count_X1_itemsAt rfl rfl rfl (by decide +kernel) ⟨Nat.le_of_ble_eq_true rfl, Nat.le_of_ble_eq_true rfl⟩) (va_recv hK hP (ci := 0) (q0 := 0) rfl rfl) hK hP hD hS hA hZ rfl rfl (Nat.le_of_ble_eq_true rfl) hl.1 dX1_count_94 ⟨Nat.zero_le _, Nat.zero_le _⟩ (fun r u H locs hq hP hD hS => ?_)
    obtain ⟨rfl, rfl⟩ := hq
    have eo : oCnt σ p0 = (0, nI (sumN (atF σ 2) (σ 11 0))) := (oCnt_lit (k := 7) (by rw [w_11]; decide) (by decide)).trans rfl
    exact W.widen (k := 1) (n := 6) (by omega) (by omega) (vx_ret (ret_i (σ, γ) hx hb hr rfl hK hlocks hP hD hS ⟨⟨γ, rfl⟩, eo⟩ dX1_count_97))
  have w_11 : ¬ p0.toInt = 7 := mt (cq_eq rfl (by decide : (7 : Int32).toInt = 7)).mpr w_11
  by_cases w_12 : p0 = 8
  · skip
    refine lv_tableIn (off := 97) (tgt := 98) hx hb dX1_count_1 (by rw [w_12]; decide) (by rw [w_12]; decide) (by rw [w_12]; rfl) (by decide) ?_
    refine lv_aload_n hx hb dX1_count_98 rfl (lv_at hl 0 rfl) ?_
    refine va_gets hx hb hZ.1 hS hown (hts (.fieldLink RX1 163 "HandCases$Place" "STRAY" "LHandCases$Place;") (by decide +kernel)) (fun _ h9 => h9) dX1_count_99 ?_
    refine call_i (As := [.ref (pl 0)]) (rest := []) WAd_c ⟨hx, hb, hml, hown, hts⟩ (c_X1_itemsAt l cI cZ D ad pl tb _ σ γ 0 hI (by omega)) (cwV 1 hts gX1_count_X1_itemsAt rfl rfl rfl (by decide +kernel) ⟨Nat.le_of_ble_eq_true rfl, Nat.le_of_ble_eq_true rfl⟩) (va_recv hK hP (ci := 0) (q0 := 0) rfl rfl) hK hP hD hS hA hZ rfl rfl (Nat.le_of_ble_eq_true rfl) hl.1 dX1_count_102 ⟨Nat.zero_le _, Nat.zero_le _⟩ (fun r u H locs hq hP hD hS => ?_)
    obtain ⟨rfl, rfl⟩ := hq
    have eo : oCnt σ p0 = (0, nI (sumN (atF σ 0) (σ 11 0))) := (oCnt_lit (k := 8) (by rw [w_12]; decide) (by decide)).trans rfl
    exact W.widen (k := 1) (n := 6) (by omega) (by omega) (vx_ret (ret_i (σ, γ) hx hb hr rfl hK hlocks hP hD hS ⟨⟨γ, rfl⟩, eo⟩ dX1_count_105))
  have w_12 : ¬ p0.toInt = 8 := mt (cq_eq rfl (by decide : (8 : Int32).toInt = 8)).mpr w_12
  refine lv_tableOut (tgt := 106) hx hb dX1_count_1 (by rw [show (p0 : Int32).toInt = _ from rfl]; omega) (by decide) ?_
  exact vx_throwS (A := AC ad s.heap.size) (names := NMX) (mc := 1) (ms := 6) hx hb hl0 hown (by decide +kernel) x_nm (hts (.classLink RX1 133 "java/lang/IndexOutOfBoundsException") (by decide +kernel)) (hts (.initialized "java/lang/IndexOutOfBoundsException") (by decide +kernel)) hX.1.2.2.2 (vx_hat (fun w hw => hts w (List.mem_cons_of_mem _ (List.mem_append_right _ hw))) x_bIB hX.hIB) x_gIB hX.2.2.1 hX.2.2.2 hS (hl.1.trans hml.symm) dX1_count_106 dX1_count_109 dX1_count_110 dX1_count_112 dX1_count_115 (fun x hx => (htab x hx).elim) (Nat.le_of_ble_eq_true rfl) (Nat.le_of_ble_eq_true rfl) (Nat.le_of_ble_eq_true rfl) (Nat.le_of_ble_eq_true rfl) hlocks (thr_x ⟨rfl, by unfold oCnt; rw [if_pos (by omega)]⟩ hP hK hD hS) hS.2.2 (Nat.le_refl _) (Nat.le_refl _)

