set_option maxHeartbeats 4000000 in
set_option maxRecDepth 100000 in
theorem c_X1_house (l : Launch) (cI cZ : ClassId) (D : va_G) (ad pl : Nat → Nat) (tb sz : Nat) (σ γ : Sg) (p0 p1 : Int32) (hI : Inv σ) : CtI l yX1_house wsX1_house ({ frames := 2, cells := 0, slots := 0, locals := 42 }) cI cZ D ad pl tb sz (WC cI cZ ad) (σ, γ) [.ref (ad 0), .int p0, .int p1] (fun r u => ∃ γ1, u = ((oHouse σ p0 p1).2, γ1) ∧ r = (oHouse σ p0 p1).1) := by
  refine Met.ofW (cc := cX1_house) (maxL := 3) (ret := (some .int)) (by decide) rfl ?_
  intro p e s m args below meth c s₁ B hml hv
  obtain ⟨rfl, hsz, hP, hK, hD0, hZ⟩ := hv
  have hx := B.exec
  have hb := B.bytes
  have hr := B.returns
  have hts := atoms_spec (ws := wsX1_house) B.pre
  have hown : s.vm.findClass RX1 = some m.cls := findClass_of_methodNamed B.named
  have hlocks := B.notSynchronized
  have hin : ∀ w ∈ wsX10, w ∈ wsX1_house := fun w h => List.mem_cons_of_mem _ (List.mem_append_right _ h)
  subst hsz
  have hD : va_D (AC ad s.heap.size) (WC cI cZ ad (σ, γ)) := AC_self WAd_c hD0
  have hA : ∀ q : Nat, s.heap.size ≤ q → AC ad s.heap.size q := fun q h => Or.inr h
  have hS : va_S (AC ad s.heap.size) s.heap s.heap [] := va_S.rf
  have hl := lv_entry ([.ref (ad 0), .int p0, .int p1]) (n := 3) (Nat.le_of_ble_eq_true rfl)
  rw [lg_entry_eq]
  generalize (lg_sl ([.ref (ad 0), .int p0, .int p1]) ++ List.replicate (3 - (lg_sl ([.ref (ad 0), .int p0, .int p1])).length) Slot.unset).toArray = ls at hl ⊢
  have hl : lv_has ls 3 [(0, .ref (ad 0)), (1, .int p0), (2, .int p1)] := hl
  refine lv_aload_n hx hb dX1_house_0 rfl (lv_at hl 0 rfl) ?_
  refine lv_iload_n hx hb dX1_house_1 rfl (lv_at hl 1 rfl) ?_
  refine call_i (As := [.int p0]) (rest := []) WAd_c ⟨hx, hb, hml, hown, hts⟩ (c_X1_isCarrier l cI cZ D ad pl tb _ σ γ p0) (cwV 1 hts gX1_house_X1_isCarrier rfl rfl rfl (by decide +kernel) ⟨Nat.le_of_ble_eq_true rfl, Nat.le_of_ble_eq_true rfl⟩) (va_recv hK hP (ci := 0) (q0 := 0) rfl rfl) hK hP hD hS hA hZ rfl rfl (Nat.le_of_ble_eq_true rfl) hl.1 dX1_house_2 ⟨Nat.zero_le _, Nat.zero_le _⟩ (fun r u H locs hq hP hD hS => ?_)
  obtain ⟨rfl, rfl⟩ := hq
  refine lv_if_ne (tgt := 10) hx hb dX1_house_5 (by decide) (fun c_1 => ?_) (fun c_1 => ?_)
  · skip
    have c_1 : 0 ≤ p0.toInt ∧ p0.toInt < 4 := Decidable.not_not.mp (mt pI_0.mpr c_1)
    refine lv_aload_n hx hb dX1_house_10 rfl (lv_at hl 0 rfl) ?_
    refine lv_iload_n hx hb dX1_house_11 rfl (lv_at hl 2 rfl) ?_
    refine call_i (As := [.int p1]) (rest := []) WAd_c ⟨hx, hb, hml, hown, hts⟩ (c_X1_isNumber l cI cZ D ad pl tb _ σ γ p1) (cwV 1 hts gX1_house_X1_isNumber rfl rfl rfl (by decide +kernel) ⟨Nat.le_of_ble_eq_true rfl, Nat.le_of_ble_eq_true rfl⟩) (va_recv hK hP (ci := 0) (q0 := 0) rfl rfl) hK hP hD hS hA hZ rfl rfl (Nat.le_of_ble_eq_true rfl) hl.1 dX1_house_12 ⟨Nat.zero_le _, Nat.zero_le _⟩ (fun r u H locs hq hP hD hS => ?_)
    obtain ⟨rfl, rfl⟩ := hq
    refine lv_if_ne (tgt := 21) hx hb dX1_house_15 (by decide) (fun c_2 => ?_) (fun c_2 => ?_)
    · skip
      have c_2 : 0 ≤ p1.toInt ∧ p1.toInt < 200 := Decidable.not_not.mp (mt pI_0.mpr c_2)
      refine lv_aload_n hx hb dX1_house_21 rfl (lv_at hl 0 rfl) ?_
      refine lv_iload_n hx hb dX1_house_22 rfl (lv_at hl 2 rfl) ?_
      refine call_i (As := [.int p1]) (rest := []) WAd_c ⟨hx, hb, hml, hown, hts⟩ (c_X1_isHouse l cI cZ D ad pl tb _ σ γ p1 hI) (cwV 1 hts gX1_house_X1_isHouse rfl rfl rfl (by decide +kernel) ⟨Nat.le_of_ble_eq_true rfl, Nat.le_of_ble_eq_true rfl⟩) (va_recv hK hP (ci := 0) (q0 := 0) rfl rfl) hK hP hD hS hA hZ rfl rfl (Nat.le_of_ble_eq_true rfl) hl.1 dX1_house_23 ⟨Nat.zero_le _, Nat.zero_le _⟩ (fun r u H locs hq hP hD hS => ?_)
      obtain ⟨rfl, rfl⟩ := hq
      refine lv_if_eq (tgt := 32) hx hb dX1_house_26 (by decide) (fun c_3 => ?_) (fun c_3 => ?_)
      · skip
        have c_3 : ¬ (0 ≤ p1.toInt ∧ p1.toInt < 200 ∧ σ 1 p1.toInt.toNat ≠ 0) := pI_0.mp c_3
        obtain ⟨c0, e_c0, -, rfl⟩ := i_nat (p := p0) (by omega)
        obtain ⟨h0, e_h0, -, rfl⟩ := i_nat (p := p1) (by omega)
        simp only [e_c0, e_h0, Int.toNat_natCast] at c_3
        refine lv_aload_n hx hb dX1_house_32 rfl (lv_at hl 0 rfl) ?_
        refine va_get (D := D) (ci := 0) (v := .int (nI (σ 5 0))) (C := RX1) (T := TX1) (N := 15) hx hb hts hin hown hK hP 0 rfl rfl 5 (by decide) (hts (.fieldLink RX1 23 "HandCases" "houses" "I") (by decide +kernel)) (fun _ h9 => h9) rfl dX1_house_33 ?_
        have b_4 := b5 hI
        refine lv_bipush (v := 60) hx hb dX1_house_36 (by decide) ?_
        refine lv_icmp_lt (tgt := 44) hx hb dX1_house_38 (by decide) (fun c_5 => ?_) (fun c_5 => ?_)
        · skip
          have c_5 := (cq_lt (nI_toInt (by omega)) (show (60 : Int32).toInt = (60 : Int) from by decide)).mp c_5
          refine lv_aload_n hx hb dX1_house_44 rfl (lv_at hl 0 rfl) ?_
          refine va_get (D := D) (ci := 0) (v := .ref (ad 4)) (C := RX1) (T := TX1) (N := 15) hx hb hts hin hown hK hP 0 rfl rfl 4 (by decide) (hts (.fieldLink RX1 20 "HandCases" "told" "[I") (by decide +kernel)) (fun _ h9 => h9) rfl dX1_house_45 ?_
          refine lv_aload_n hx hb dX1_house_48 rfl (lv_at hl 0 rfl) ?_
          refine va_get (D := D) (ci := 0) (v := .int (nI (σ 5 0))) (C := RX1) (T := TX1) (N := 15) hx hb hts hin hown hK hP 0 rfl rfl 5 (by decide) (hts (.fieldLink RX1 23 "HandCases" "houses" "I") (by decide +kernel)) (fun _ h9 => h9) rfl dX1_house_49 ?_
          have b_6 := b5 hI
          refine lv_iload_n hx hb dX1_house_52 rfl (lv_at hl 2 rfl) ?_
          refine q_iast (ws2 := WC cI cZ ad (setA σ 4 (σ 5 0) h0, γ)) hx hb hK hP hD hS 4 0 rfl rfl (σ 5 0) (nI_toInt (by omega)) (by omega) updN rfl dX1_house_53 (fun H locs hP hD hS => ?_)
          refine lv_aload_n hx hb dX1_house_54 rfl (lv_at hl 0 rfl) ?_
          refine lv_dup hx hb dX1_house_55 rfl ?_
          refine va_get (D := D) (ci := 0) (v := .int (nI (σ 5 0))) (C := RX1) (T := TX1) (N := 15) hx hb hts hin hown hK hP 0 rfl rfl 5 (by decide) (hts (.fieldLink RX1 23 "HandCases" "houses" "I") (by decide +kernel)) (fun _ h9 => h9) rfl dX1_house_56 ?_
          have b_7 := b5 hI
          refine lv_iconst (v := 1) hx hb dX1_house_59 (by decide) ?_
          refine lv_iadd hx hb dX1_house_60 ?_
          refine q_topi (nI ((σ 5 0) + 1)) (nI_add (σ 5 0) 1) ?_
          refine va_put (D := D) (ci := 0) (v := .int (nI ((σ 5 0) + 1))) (ty := .int) (C := RX1) (T := TX1) (N := 15) hx hb hts hin tyX1 tyX1_ok nmX1 hown hK hP hD hS 0 rfl rfl 5 (by decide) (hts (.fieldLink RX1 23 "HandCases" "houses" "I") (by decide +kernel)) (fun _ h9 => h9) rfl (by decide +kernel) rfl rfl (Nat.le_of_ble_eq_true rfl) dX1_house_61 (fun H locs hP hD hS => ?_)
          have hP : va_P D vwCl (WC cI cZ ad (setA (setA σ 4 (σ 5 0) h0) 5 0 ((σ 5 0) + 1), γ)) H := hP
          have hD : va_D (AC ad s.heap.size) (WC cI cZ ad (setA (setA σ 4 (σ 5 0) h0) 5 0 ((σ 5 0) + 1), γ)) := hD
          refine lv_aload_n hx hb dX1_house_64 rfl (lv_at hl 0 rfl) ?_
          refine va_get (D := D) (ci := 0) (v := .ref (ad 1)) (C := RX1) (T := TX1) (N := 15) hx hb hts hin hown hK hP 0 rfl rfl 1 (by decide) (hts (.fieldLink RX1 9 "HandCases" "carrierOf" "[I") (by decide +kernel)) (fun _ h9 => h9) rfl dX1_house_65 ?_
          refine lv_iload_n hx hb dX1_house_68 rfl (lv_at hl 2 rfl) ?_
          refine lv_iload_n hx hb dX1_house_69 rfl (lv_at hl 1 rfl) ?_
          refine q_iast (ws2 := WC cI cZ ad (setA (setA (setA σ 4 (σ 5 0) h0) 5 0 ((σ 5 0) + 1)) 1 h0 (c0 + 1), γ)) hx hb hK hP hD hS 1 0 rfl rfl h0 (nI_toInt (by omega)) (by omega) (by rw [← mI_s]; exact updM) rfl dX1_house_70 (fun H locs hP hD hS => ?_)
          have hI2 : Inv (uHouse σ c0 h0) := I_house hI (by omega) (by omega) (by omega) (by omega)
          have hP : va_P D vwCl (WC cI cZ ad (uHouse σ c0 h0, γ)) H := hP
          have hD : va_D (AC ad s.heap.size) (WC cI cZ ad (uHouse σ c0 h0, γ)) := hD
          refine lv_aload_n hx hb dX1_house_71 rfl (lv_at hl 0 rfl) ?_
          refine lv_iload_n hx hb dX1_house_72 rfl (lv_at hl 1 rfl) ?_
          refine call_i (As := [.int (nI c0)]) (rest := []) WAd_c ⟨hx, hb, hml, hown, hts⟩ (c_X1_lengthOfRound l cI cZ D ad pl tb _ (uHouse σ c0 h0) γ c0 hI2 (by omega)) (cwV 1 hts gX1_house_X1_lengthOfRound rfl rfl rfl (by decide +kernel) ⟨Nat.le_of_ble_eq_true rfl, Nat.le_of_ble_eq_true rfl⟩) (va_recv hK hP (ci := 0) (q0 := 0) rfl rfl) hK hP hD hS hA hZ rfl rfl (Nat.le_of_ble_eq_true rfl) hl.1 dX1_house_73 ⟨Nat.zero_le _, Nat.zero_le _⟩ (fun r u H locs hq hP hD hS => ?_)
          obtain ⟨rfl, rfl⟩ := hq
          have eo : oHouse σ (nI c0) (nI h0) = (nI (sumN (cF (uHouse σ c0 h0) c0) ((uHouse σ c0 h0) 5 0)), uHouse σ c0 h0) := by unfold oHouse; simp only [e_c0, e_h0, Int.toNat_natCast]; repeat (first | rw [if_pos (by omega)] | rw [if_neg (by omega)])
          exact ret_i (uHouse σ c0 h0, γ) hx hb hr rfl hK hlocks hP hD hS ⟨γ, by rw [eo], by rw [eo]⟩ dX1_house_76
        · skip
          have c_5 := mt (cq_lt (nI_toInt (by omega)) (show (60 : Int32).toInt = (60 : Int) from by decide)).mpr c_5
          refine lv_bipush (v := (-4)) hx hb dX1_house_41 (by decide) ?_
          have eo : oHouse σ (nI c0) (nI h0) = ((-4), σ) := by unfold oHouse; simp only [e_c0, e_h0, Int.toNat_natCast]; repeat (first | rw [if_pos (by omega)] | rw [if_neg (by omega)])
          exact ret_i (σ, γ) hx hb hr rfl hK hlocks hP hD hS ⟨γ, by rw [eo], by rw [eo]⟩ dX1_house_43
      · skip
        have c_3 : 0 ≤ p1.toInt ∧ p1.toInt < 200 ∧ σ 1 p1.toInt.toNat ≠ 0 := Decidable.not_not.mp (mt pI_0.mpr c_3)
        refine lv_bipush (v := (-3)) hx hb dX1_house_29 (by decide) ?_
        have eo : oHouse σ p0 p1 = ((-3), σ) := by unfold oHouse; repeat (first | rw [if_pos (by omega)] | rw [if_neg (by omega)])
        exact ret_i (σ, γ) hx hb hr rfl hK hlocks hP hD hS ⟨γ, by rw [eo], by rw [eo]⟩ dX1_house_31
    · skip
      have c_2 : ¬ (0 ≤ p1.toInt ∧ p1.toInt < 200) := pI_0.mp c_2
      refine lv_bipush (v := (-2)) hx hb dX1_house_18 (by decide) ?_
      have eo : oHouse σ p0 p1 = ((-2), σ) := by unfold oHouse; repeat (first | rw [if_pos (by omega)] | rw [if_neg (by omega)])
      exact ret_i (σ, γ) hx hb hr rfl hK hlocks hP hD hS ⟨γ, by rw [eo], by rw [eo]⟩ dX1_house_20
  · skip
    have c_1 : ¬ (0 ≤ p0.toInt ∧ p0.toInt < 4) := pI_0.mp c_1
    refine lv_iconst (v := (-1)) hx hb dX1_house_8 (by decide) ?_
    have eo : oHouse σ p0 p1 = ((-1), σ) := by unfold oHouse; repeat (first | rw [if_pos (by omega)] | rw [if_neg (by omega)])
    exact ret_i (σ, γ) hx hb hr rfl hK hlocks hP hD hS ⟨γ, by rw [eo], by rw [eo]⟩ dX1_house_9

set_option maxHeartbeats 4000000 in
set_option maxRecDepth 100000 in
theorem c_X1_point (l : Launch) (cI cZ : ClassId) (D : va_G) (ad pl : Nat → Nat) (tb sz : Nat) (σ γ : Sg) (p0 p1 : Int32) (hI : Inv σ) : CtI l yX1_point wsX1_point ({ frames := 2, cells := 0, slots := 0, locals := 42 }) cI cZ D ad pl tb sz (WC cI cZ ad) (σ, γ) [.ref (ad 0), .int p0, .int p1] (fun r u => ∃ γ1, u = ((oPoint σ p0 p1).2, γ1) ∧ r = (oPoint σ p0 p1).1) := by
  refine Met.ofW (cc := cX1_point) (maxL := 3) (ret := (some .int)) (by decide) rfl ?_
  intro p e s m args below meth c s₁ B hml hv
  obtain ⟨rfl, hsz, hP, hK, hD0, hZ⟩ := hv
  have hx := B.exec
  have hb := B.bytes
  have hr := B.returns
  have hts := atoms_spec (ws := wsX1_point) B.pre
  have hown : s.vm.findClass RX1 = some m.cls := findClass_of_methodNamed B.named
  have hlocks := B.notSynchronized
  have hin : ∀ w ∈ wsX10, w ∈ wsX1_point := fun w h => List.mem_cons_of_mem _ (List.mem_append_right _ h)
  subst hsz
  have hD : va_D (AC ad s.heap.size) (WC cI cZ ad (σ, γ)) := AC_self WAd_c hD0
  have hA : ∀ q : Nat, s.heap.size ≤ q → AC ad s.heap.size q := fun q h => Or.inr h
  have hS : va_S (AC ad s.heap.size) s.heap s.heap [] := va_S.rf
  have hl := lv_entry ([.ref (ad 0), .int p0, .int p1]) (n := 3) (Nat.le_of_ble_eq_true rfl)
  rw [lg_entry_eq]
  generalize (lg_sl ([.ref (ad 0), .int p0, .int p1]) ++ List.replicate (3 - (lg_sl ([.ref (ad 0), .int p0, .int p1])).length) Slot.unset).toArray = ls at hl ⊢
  have hl : lv_has ls 3 [(0, .ref (ad 0)), (1, .int p0), (2, .int p1)] := hl
  refine lv_aload_n hx hb dX1_point_0 rfl (lv_at hl 0 rfl) ?_
  refine lv_iload_n hx hb dX1_point_1 rfl (lv_at hl 1 rfl) ?_
  refine call_i (As := [.int p0]) (rest := []) WAd_c ⟨hx, hb, hml, hown, hts⟩ (c_X1_isHouse l cI cZ D ad pl tb _ σ γ p0 hI) (cwV 1 hts gX1_point_X1_isHouse rfl rfl rfl (by decide +kernel) ⟨Nat.le_of_ble_eq_true rfl, Nat.le_of_ble_eq_true rfl⟩) (va_recv hK hP (ci := 0) (q0 := 0) rfl rfl) hK hP hD hS hA hZ rfl rfl (Nat.le_of_ble_eq_true rfl) hl.1 dX1_point_2 ⟨Nat.zero_le _, Nat.zero_le _⟩ (fun r u H locs hq hP hD hS => ?_)
  obtain ⟨rfl, rfl⟩ := hq
  refine lv_if_ne (tgt := 10) hx hb dX1_point_5 (by decide) (fun c_1 => ?_) (fun c_1 => ?_)
  · skip
    have c_1 : 0 ≤ p0.toInt ∧ p0.toInt < 200 ∧ σ 1 p0.toInt.toNat ≠ 0 := Decidable.not_not.mp (mt pI_0.mpr c_1)
    refine lv_aload_n hx hb dX1_point_10 rfl (lv_at hl 0 rfl) ?_
    refine lv_iload_n hx hb dX1_point_11 rfl (lv_at hl 2 rfl) ?_
    refine call_i (As := [.int p1]) (rest := []) WAd_c ⟨hx, hb, hml, hown, hts⟩ (c_X1_isHole l cI cZ D ad pl tb _ σ γ p1 hI) (cwV 1 hts gX1_point_X1_isHole rfl rfl rfl (by decide +kernel) ⟨Nat.le_of_ble_eq_true rfl, Nat.le_of_ble_eq_true rfl⟩) (va_recv hK hP (ci := 0) (q0 := 0) rfl rfl) hK hP hD hS hA hZ rfl rfl (Nat.le_of_ble_eq_true rfl) hl.1 dX1_point_12 ⟨Nat.zero_le _, Nat.zero_le _⟩ (fun r u H locs hq hP hD hS => ?_)
    obtain ⟨rfl, rfl⟩ := hq
    refine lv_if_ne (tgt := 21) hx hb dX1_point_15 (by decide) (fun c_2 => ?_) (fun c_2 => ?_)
    · skip
      have c_2 : 0 ≤ p1.toInt ∧ p1.toInt < (σ 0 0 : Nat) := Decidable.not_not.mp (mt pI_0.mpr c_2)
      obtain ⟨h0, e_h0, -, rfl⟩ := i_nat (p := p0) (by omega)
      obtain ⟨g0, e_g0, -, rfl⟩ := i_nat (p := p1) (by omega)
      simp only [e_h0, e_g0, Int.toNat_natCast] at c_1
      have b_0 := b0 hI
      refine lv_aload_n hx hb dX1_point_21 rfl (lv_at hl 0 rfl) ?_
      refine va_get (D := D) (ci := 0) (v := .ref (ad 2)) (C := RX1) (T := TX1) (N := 15) hx hb hts hin hown hK hP 0 rfl rfl 2 (by decide) (hts (.fieldLink RX1 13 "HandCases" "holeOf" "[I") (by decide +kernel)) (fun _ h9 => h9) rfl dX1_point_22 ?_
      refine lv_iload_n hx hb dX1_point_25 rfl (lv_at hl 1 rfl) ?_
      refine lv_iload_n hx hb dX1_point_26 rfl (lv_at hl 2 rfl) ?_
      refine q_iast (ws2 := WC cI cZ ad (setA σ 2 h0 (g0 + 1), γ)) hx hb hK hP hD hS 2 0 rfl rfl h0 (nI_toInt (by omega)) (by omega) (by rw [← mI_s]; exact updM) rfl dX1_point_27 (fun H locs hP hD hS => ?_)
      have hI2 : Inv (uPoint σ h0 g0) := I_point hI (by omega) (by omega) (by omega)
      have hP : va_P D vwCl (WC cI cZ ad (uPoint σ h0 g0, γ)) H := hP
      have hD : va_D (AC ad s.heap.size) (WC cI cZ ad (uPoint σ h0 g0, γ)) := hD
      have e_u : (uPoint σ h0 g0) 0 0 = σ 0 0 := rfl
      refine lv_aload_n hx hb dX1_point_28 rfl (lv_at hl 0 rfl) ?_
      refine lv_iload_n hx hb dX1_point_29 rfl (lv_at hl 2 rfl) ?_
      refine call_i (As := [.int (nI g0)]) (rest := []) WAd_c ⟨hx, hb, hml, hown, hts⟩ (c_X1_housesAt l cI cZ D ad pl tb _ (uPoint σ h0 g0) γ g0 hI2 (by omega)) (cwV 1 hts gX1_point_X1_housesAt rfl rfl rfl (by decide +kernel) ⟨Nat.le_of_ble_eq_true rfl, Nat.le_of_ble_eq_true rfl⟩) (va_recv hK hP (ci := 0) (q0 := 0) rfl rfl) hK hP hD hS hA hZ rfl rfl (Nat.le_of_ble_eq_true rfl) hl.1 dX1_point_30 ⟨Nat.zero_le _, Nat.zero_le _⟩ (fun r u H locs hq hP hD hS => ?_)
      obtain ⟨rfl, rfl⟩ := hq
      have eo : oPoint σ (nI h0) (nI g0) = (nI (sumN (hF (uPoint σ h0 g0) g0) ((uPoint σ h0 g0) 5 0)), uPoint σ h0 g0) := by unfold oPoint; simp only [e_h0, e_g0, Int.toNat_natCast]; repeat (first | rw [if_pos (by omega)] | rw [if_neg (by omega)])
      exact ret_i (uPoint σ h0 g0, γ) hx hb hr rfl hK hlocks hP hD hS ⟨γ, by rw [eo], by rw [eo]⟩ dX1_point_33
    · skip
      have c_2 : ¬ (0 ≤ p1.toInt ∧ p1.toInt < (σ 0 0 : Nat)) := pI_0.mp c_2
      refine lv_bipush (v := (-2)) hx hb dX1_point_18 (by decide) ?_
      have eo : oPoint σ p0 p1 = ((-2), σ) := by unfold oPoint; repeat (first | rw [if_pos (by omega)] | rw [if_neg (by omega)])
      exact ret_i (σ, γ) hx hb hr rfl hK hlocks hP hD hS ⟨γ, by rw [eo], by rw [eo]⟩ dX1_point_20
  · skip
    have c_1 : ¬ (0 ≤ p0.toInt ∧ p0.toInt < 200 ∧ σ 1 p0.toInt.toNat ≠ 0) := pI_0.mp c_1
    refine lv_iconst (v := (-1)) hx hb dX1_point_8 (by decide) ?_
    have eo : oPoint σ p0 p1 = ((-1), σ) := by unfold oPoint; repeat (first | rw [if_pos (by omega)] | rw [if_neg (by omega)])
    exact ret_i (σ, γ) hx hb hr rfl hK hlocks hP hD hS ⟨γ, by rw [eo], by rw [eo]⟩ dX1_point_9

set_option maxHeartbeats 4000000 in
set_option maxRecDepth 100000 in
theorem c_X1_item (l : Launch) (cI cZ : ClassId) (D : va_G) (ad pl : Nat → Nat) (tb sz : Nat) (σ γ : Sg) (p0 p1 : Int32) (hI : Inv σ) : CtI l yX1_item wsX1_item ({ frames := 1, cells := 0, slots := 0, locals := 21 }) cI cZ D ad pl tb sz (WC cI cZ ad) (σ, γ) [.ref (ad 0), .int p0, .int p1] (fun r u => ∃ γ1, u = ((oItem σ p0 p1).2, γ1) ∧ r = (oItem σ p0 p1).1) := by
  refine Met.ofW (cc := cX1_item) (maxL := 4) (ret := (some .int)) (by decide) rfl ?_
  intro p e s m args below meth c s₁ B hml hv
  obtain ⟨rfl, hsz, hP, hK, hD0, hZ⟩ := hv
  have hx := B.exec
  have hb := B.bytes
  have hr := B.returns
  have hts := atoms_spec (ws := wsX1_item) B.pre
  have hown : s.vm.findClass RX1 = some m.cls := findClass_of_methodNamed B.named
  have hlocks := B.notSynchronized
  have hin : ∀ w ∈ wsX10, w ∈ wsX1_item := fun w h => List.mem_cons_of_mem _ (List.mem_append_right _ h)
  subst hsz
  have hD : va_D (AC ad s.heap.size) (WC cI cZ ad (σ, γ)) := AC_self WAd_c hD0
  have hA : ∀ q : Nat, s.heap.size ≤ q → AC ad s.heap.size q := fun q h => Or.inr h
  have hS : va_S (AC ad s.heap.size) s.heap s.heap [] := va_S.rf
  have hl := lv_entry ([.ref (ad 0), .int p0, .int p1]) (n := 4) (Nat.le_of_ble_eq_true rfl)
  rw [lg_entry_eq]
  generalize (lg_sl ([.ref (ad 0), .int p0, .int p1]) ++ List.replicate (4 - (lg_sl ([.ref (ad 0), .int p0, .int p1])).length) Slot.unset).toArray = ls at hl ⊢
  have hl : lv_has ls 4 [(0, .ref (ad 0)), (1, .int p0), (2, .int p1)] := hl
  refine lv_aload_n hx hb dX1_item_0 rfl (lv_at hl 0 rfl) ?_
  refine lv_iload_n hx hb dX1_item_1 rfl (lv_at hl 1 rfl) ?_
  refine call_i (As := [.int p0]) (rest := []) WAd_c ⟨hx, hb, hml, hown, hts⟩ (c_X1_isNumber l cI cZ D ad pl tb _ σ γ p0) (cwV 1 hts gX1_item_X1_isNumber rfl rfl rfl (by decide +kernel) ⟨Nat.le_of_ble_eq_true rfl, Nat.le_of_ble_eq_true rfl⟩) (va_recv hK hP (ci := 0) (q0 := 0) rfl rfl) hK hP hD hS hA hZ rfl rfl (Nat.le_of_ble_eq_true rfl) hl.1 dX1_item_2 ⟨Nat.zero_le _, Nat.zero_le _⟩ (fun r u H locs hq hP hD hS => ?_)
  obtain ⟨rfl, rfl⟩ := hq
  refine lv_if_eq (tgt := 17) hx hb dX1_item_5 (by decide) (fun c_1 => ?_) (fun c_1 => ?_)
  · skip
    have c_1 : ¬ (0 ≤ p0.toInt ∧ p0.toInt < 200) := pI_0.mp c_1
    refine lv_bipush (v := (-2)) hx hb dX1_item_17 (by decide) ?_
    have eo : oItem σ p0 p1 = ((-2), σ) := by unfold oItem; repeat (first | rw [if_pos (by omega)] | rw [if_neg (by omega)])
    exact ret_i (σ, γ) hx hb hr rfl hK hlocks hP hD hS ⟨γ, by rw [eo], by rw [eo]⟩ dX1_item_19
  · skip
    have c_1 : 0 ≤ p0.toInt ∧ p0.toInt < 200 := Decidable.not_not.mp (mt pI_0.mpr c_1)
    refine lv_iload_n hx hb dX1_item_8 rfl (lv_at hl 2 rfl) ?_
    refine lv_if_lt (tgt := 17) hx hb dX1_item_9 (by decide) (fun c_2 => ?_) (fun c_2 => ?_)
    · skip
      have c_2 := (cq_lt rfl (show (0 : Int32).toInt = (0 : Int) from by decide)).mp c_2
      refine lv_bipush (v := (-2)) hx hb dX1_item_17 (by decide) ?_
      have eo : oItem σ p0 p1 = ((-2), σ) := by unfold oItem; repeat (first | rw [if_pos (by omega)] | rw [if_neg (by omega)])
      exact ret_i (σ, γ) hx hb hr rfl hK hlocks hP hD hS ⟨γ, by rw [eo], by rw [eo]⟩ dX1_item_19
    · skip
      have c_2 := mt (cq_lt rfl (show (0 : Int32).toInt = (0 : Int) from by decide)).mpr c_2
      refine lv_iload_n hx hb dX1_item_12 rfl (lv_at hl 2 rfl) ?_
      refine lv_iconst (v := 3) hx hb dX1_item_13 (by decide) ?_
      refine lv_icmp_lt (tgt := 20) hx hb dX1_item_14 (by decide) (fun c_3 => ?_) (fun c_3 => ?_)
      · skip
        have c_3 := (cq_lt rfl (show (3 : Int32).toInt = (3 : Int) from by decide)).mp c_3
        refine lv_aload_n hx hb dX1_item_20 rfl (lv_at hl 0 rfl) ?_
        refine va_get (D := D) (ci := 0) (v := .int (nI (σ 11 0))) (C := RX1) (T := TX1) (N := 15) hx hb hts hin hown hK hP 0 rfl rfl 11 (by decide) (hts (.fieldLink RX1 42 "HandCases" "items" "I") (by decide +kernel)) (fun _ h9 => h9) rfl dX1_item_21 ?_
        have b_4 := b11 hI
        refine lv_sipush (v := 250) hx hb dX1_item_24 (by decide) ?_
        refine lv_icmp_lt (tgt := 33) hx hb dX1_item_27 (by decide) (fun c_5 => ?_) (fun c_5 => ?_)
        · skip
          have c_5 := (cq_lt (nI_toInt (by omega)) (show (250 : Int32).toInt = (250 : Int) from by decide)).mp c_5
          obtain ⟨n0, e_n0, -, rfl⟩ := i_nat (p := p0) (by omega)
          obtain ⟨k0, e_k0, -, rfl⟩ := i_nat (p := p1) (by omega)
          refine lv_aload_n hx hb dX1_item_33 rfl (lv_at hl 0 rfl) ?_
          refine va_get (D := D) (ci := 0) (v := .int (nI (σ 11 0))) (C := RX1) (T := TX1) (N := 15) hx hb hts hin hown hK hP 0 rfl rfl 11 (by decide) (hts (.fieldLink RX1 42 "HandCases" "items" "I") (by decide +kernel)) (fun _ h9 => h9) rfl dX1_item_34 ?_
          have b_6 := b11 hI
          refine lv_istore_n (lv' := [(3, .int (nI (σ 11 0))), (0, .ref (ad 0)), (1, .int (nI n0)), (2, .int (nI k0))]) hx hb dX1_item_37 rfl hl (by decide) rfl (fun ls hl => ?_)
          refine lv_aload_n hx hb dX1_item_38 rfl (lv_at hl 1 rfl) ?_
          refine va_get (D := D) (ci := 0) (v := .ref (ad 5)) (C := RX1) (T := TX1) (N := 15) hx hb hts hin hown hK hP 0 rfl rfl 6 (by decide) (hts (.fieldLink RX1 27 "HandCases" "numberOf" "[I") (by decide +kernel)) (fun _ h9 => h9) rfl dX1_item_39 ?_
          refine lv_iload_n hx hb dX1_item_42 rfl (lv_at hl 0 rfl) ?_
          refine lv_iload_n hx hb dX1_item_43 rfl (lv_at hl 2 rfl) ?_
          refine q_iast (ws2 := WC cI cZ ad (setA σ 6 (σ 11 0) n0, γ)) hx hb hK hP hD hS 5 0 rfl rfl (σ 11 0) (nI_toInt (by omega)) (by omega) updN rfl dX1_item_44 (fun H locs hP hD hS => ?_)
          refine lv_aload_n hx hb dX1_item_45 rfl (lv_at hl 1 rfl) ?_
          refine va_get (D := D) (ci := 0) (v := .ref (ad 6)) (C := RX1) (T := TX1) (N := 15) hx hb hts hin hown hK hP 0 rfl rfl 7 (by decide) (hts (.fieldLink RX1 30 "HandCases" "kindOf" "[I") (by decide +kernel)) (fun _ h9 => h9) rfl dX1_item_46 ?_
          refine lv_iload_n hx hb dX1_item_49 rfl (lv_at hl 0 rfl) ?_
          refine lv_iload_n hx hb dX1_item_50 rfl (lv_at hl 3 rfl) ?_
          refine q_iast (ws2 := WC cI cZ ad (setA (setA σ 6 (σ 11 0) n0) 7 (σ 11 0) k0, γ)) hx hb hK hP hD hS 6 0 rfl rfl (σ 11 0) (nI_toInt (by omega)) (by omega) updN rfl dX1_item_51 (fun H locs hP hD hS => ?_)
          refine lv_aload_n hx hb dX1_item_52 rfl (lv_at hl 1 rfl) ?_
          refine va_get (D := D) (ci := 0) (v := .ref (ad 7)) (C := RX1) (T := TX1) (N := 15) hx hb hts hin hown hK hP 0 rfl rfl 8 (by decide) (hts (.fieldLink RX1 33 "HandCases" "toldHole" "[I") (by decide +kernel)) (fun _ h9 => h9) rfl dX1_item_53 ?_
          refine lv_iload_n hx hb dX1_item_56 rfl (lv_at hl 0 rfl) ?_
          refine lv_iconst (v := (-1)) hx hb dX1_item_57 (by decide) ?_
          refine q_iast (ws2 := WC cI cZ ad (setA (setA (setA σ 6 (σ 11 0) n0) 7 (σ 11 0) k0) 8 (σ 11 0) 0, γ)) hx hb hK hP hD hS 7 0 rfl rfl (σ 11 0) (nI_toInt (by omega)) (by omega) (by rw [show ((-1) : Int32) = mI 0 from by decide]; exact updM) rfl dX1_item_58 (fun H locs hP hD hS => ?_)
          refine lv_aload_n hx hb dX1_item_59 rfl (lv_at hl 1 rfl) ?_
          refine va_get (D := D) (ci := 0) (v := .ref (ad 8)) (C := RX1) (T := TX1) (N := 15) hx hb hts hin hown hK hP 0 rfl rfl 9 (by decide) (hts (.fieldLink RX1 36 "HandCases" "before" "[I") (by decide +kernel)) (fun _ h9 => h9) rfl dX1_item_60 ?_
          refine lv_iload_n hx hb dX1_item_63 rfl (lv_at hl 0 rfl) ?_
          refine lv_iconst (v := (-1)) hx hb dX1_item_64 (by decide) ?_
          refine q_iast (ws2 := WC cI cZ ad (setA (setA (setA (setA σ 6 (σ 11 0) n0) 7 (σ 11 0) k0) 8 (σ 11 0) 0) 9 (σ 11 0) 0, γ)) hx hb hK hP hD hS 8 0 rfl rfl (σ 11 0) (nI_toInt (by omega)) (by omega) (by rw [show ((-1) : Int32) = mI 0 from by decide]; exact updM) rfl dX1_item_65 (fun H locs hP hD hS => ?_)
          refine lv_aload_n hx hb dX1_item_66 rfl (lv_at hl 1 rfl) ?_
          refine va_get (D := D) (ci := 0) (v := .ref (ad 9)) (C := RX1) (T := TX1) (N := 15) hx hb hts hin hown hK hP 0 rfl rfl 10 (by decide) (hts (.fieldLink RX1 39 "HandCases" "behind" "[I") (by decide +kernel)) (fun _ h9 => h9) rfl dX1_item_67 ?_
          refine lv_iload_n hx hb dX1_item_70 rfl (lv_at hl 0 rfl) ?_
          refine lv_iconst (v := (-1)) hx hb dX1_item_71 (by decide) ?_
          refine q_iast (ws2 := WC cI cZ ad (setA (setA (setA (setA (setA σ 6 (σ 11 0) n0) 7 (σ 11 0) k0) 8 (σ 11 0) 0) 9 (σ 11 0) 0) 10 (σ 11 0) 0, γ)) hx hb hK hP hD hS 9 0 rfl rfl (σ 11 0) (nI_toInt (by omega)) (by omega) (by rw [show ((-1) : Int32) = mI 0 from by decide]; exact updM) rfl dX1_item_72 (fun H locs hP hD hS => ?_)
          refine lv_aload_n hx hb dX1_item_73 rfl (lv_at hl 1 rfl) ?_
          refine lv_dup hx hb dX1_item_74 rfl ?_
          refine va_get (D := D) (ci := 0) (v := .int (nI (σ 11 0))) (C := RX1) (T := TX1) (N := 15) hx hb hts hin hown hK hP 0 rfl rfl 11 (by decide) (hts (.fieldLink RX1 42 "HandCases" "items" "I") (by decide +kernel)) (fun _ h9 => h9) rfl dX1_item_75 ?_
          have b_7 := b11 hI
          refine lv_iconst (v := 1) hx hb dX1_item_78 (by decide) ?_
          refine lv_iadd hx hb dX1_item_79 ?_
          refine q_topi (nI ((σ 11 0) + 1)) (nI_add (σ 11 0) 1) ?_
          refine va_put (D := D) (ci := 0) (v := .int (nI ((σ 11 0) + 1))) (ty := .int) (C := RX1) (T := TX1) (N := 15) hx hb hts hin tyX1 tyX1_ok nmX1 hown hK hP hD hS 0 rfl rfl 11 (by decide) (hts (.fieldLink RX1 42 "HandCases" "items" "I") (by decide +kernel)) (fun _ h9 => h9) rfl (by decide +kernel) rfl rfl (Nat.le_of_ble_eq_true rfl) dX1_item_80 (fun H locs hP hD hS => ?_)
          have hP : va_P D vwCl (WC cI cZ ad (setA (setA (setA (setA (setA (setA σ 6 (σ 11 0) n0) 7 (σ 11 0) k0) 8 (σ 11 0) 0) 9 (σ 11 0) 0) 10 (σ 11 0) 0) 11 0 ((σ 11 0) + 1), γ)) H := hP
          have hD : va_D (AC ad s.heap.size) (WC cI cZ ad (setA (setA (setA (setA (setA (setA σ 6 (σ 11 0) n0) 7 (σ 11 0) k0) 8 (σ 11 0) 0) 9 (σ 11 0) 0) 10 (σ 11 0) 0) 11 0 ((σ 11 0) + 1), γ)) := hD
          have hP : va_P D vwCl (WC cI cZ ad (uItem σ n0 k0, γ)) H := hP
          have hD : va_D (AC ad s.heap.size) (WC cI cZ ad (uItem σ n0 k0, γ)) := hD
          refine lv_iload_n hx hb dX1_item_83 rfl (lv_at hl 0 rfl) ?_
          have eo : oItem σ (nI n0) (nI k0) = (nI (σ 11 0), uItem σ n0 k0) := by unfold oItem; simp only [e_n0, e_k0, Int.toNat_natCast]; repeat (first | rw [if_pos (by omega)] | rw [if_neg (by omega)])
          exact ret_i (uItem σ n0 k0, γ) hx hb hr rfl hK hlocks hP hD hS ⟨γ, by rw [eo], by rw [eo]⟩ dX1_item_84
        · skip
          have c_5 := mt (cq_lt (nI_toInt (by omega)) (show (250 : Int32).toInt = (250 : Int) from by decide)).mpr c_5
          refine lv_bipush (v := (-4)) hx hb dX1_item_30 (by decide) ?_
          have eo : oItem σ p0 p1 = ((-4), σ) := by unfold oItem; repeat (first | rw [if_pos (by omega)] | rw [if_neg (by omega)])
          exact ret_i (σ, γ) hx hb hr rfl hK hlocks hP hD hS ⟨γ, by rw [eo], by rw [eo]⟩ dX1_item_32
      · skip
        have c_3 := mt (cq_lt rfl (show (3 : Int32).toInt = (3 : Int) from by decide)).mpr c_3
        refine lv_bipush (v := (-2)) hx hb dX1_item_17 (by decide) ?_
        have eo : oItem σ p0 p1 = ((-2), σ) := by unfold oItem; repeat (first | rw [if_pos (by omega)] | rw [if_neg (by omega)])
        exact ret_i (σ, γ) hx hb hr rfl hK hlocks hP hD hS ⟨γ, by rw [eo], by rw [eo]⟩ dX1_item_19

set_option maxHeartbeats 4000000 in
set_option maxRecDepth 100000 in
theorem c_X1_bundle (l : Launch) (cI cZ : ClassId) (D : va_G) (ad pl : Nat → Nat) (tb sz : Nat) (σ γ : Sg) (p0 p1 : Int32) (hI : Inv σ) : CtI l yX1_bundle wsX1_bundle ({ frames := 2, cells := 0, slots := 0, locals := 45 }) cI cZ D ad pl tb sz (WC cI cZ ad) (σ, γ) [.ref (ad 0), .int p0, .int p1] (fun r u => ∃ γ1, u = ((oBundle σ p0 p1).2, γ1) ∧ r = (oBundle σ p0 p1).1) := by
  refine Met.ofW (cc := cX1_bundle) (maxL := 3) (ret := (some .int)) (by decide) rfl ?_
  intro p e s m args below meth c s₁ B hml hv
  obtain ⟨rfl, hsz, hP, hK, hD0, hZ⟩ := hv
  have hx := B.exec
  have hb := B.bytes
  have hr := B.returns
  have hts := atoms_spec (ws := wsX1_bundle) B.pre
  have hown : s.vm.findClass RX1 = some m.cls := findClass_of_methodNamed B.named
  have hlocks := B.notSynchronized
  have hin : ∀ w ∈ wsX10, w ∈ wsX1_bundle := fun w h => List.mem_cons_of_mem _ (List.mem_append_right _ h)
  subst hsz
  have hD : va_D (AC ad s.heap.size) (WC cI cZ ad (σ, γ)) := AC_self WAd_c hD0
  have hA : ∀ q : Nat, s.heap.size ≤ q → AC ad s.heap.size q := fun q h => Or.inr h
  have hS : va_S (AC ad s.heap.size) s.heap s.heap [] := va_S.rf
  have hl := lv_entry ([.ref (ad 0), .int p0, .int p1]) (n := 3) (Nat.le_of_ble_eq_true rfl)
  rw [lg_entry_eq]
  generalize (lg_sl ([.ref (ad 0), .int p0, .int p1]) ++ List.replicate (3 - (lg_sl ([.ref (ad 0), .int p0, .int p1])).length) Slot.unset).toArray = ls at hl ⊢
  have hl : lv_has ls 3 [(0, .ref (ad 0)), (1, .int p0), (2, .int p1)] := hl
  refine lv_aload_n hx hb dX1_bundle_0 rfl (lv_at hl 0 rfl) ?_
  refine lv_iload_n hx hb dX1_bundle_1 rfl (lv_at hl 1 rfl) ?_
  refine call_i (As := [.int p0]) (rest := []) WAd_c ⟨hx, hb, hml, hown, hts⟩ (c_X1_isItem l cI cZ D ad pl tb _ σ γ p0 hI) (cwV 1 hts gX1_bundle_X1_isItem rfl rfl rfl (by decide +kernel) ⟨Nat.le_of_ble_eq_true rfl, Nat.le_of_ble_eq_true rfl⟩) (va_recv hK hP (ci := 0) (q0 := 0) rfl rfl) hK hP hD hS hA hZ rfl rfl (Nat.le_of_ble_eq_true rfl) hl.1 dX1_bundle_2 ⟨Nat.zero_le _, Nat.zero_le _⟩ (fun r u H locs hq hP hD hS => ?_)
  obtain ⟨rfl, rfl⟩ := hq
  refine lv_if_eq (tgt := 16) hx hb dX1_bundle_5 (by decide) (fun c_1 => ?_) (fun c_1 => ?_)
  · skip
    have c_1 : ¬ (0 ≤ p0.toInt ∧ p0.toInt < (σ 11 0 : Nat)) := pI_0.mp c_1
    refine lv_iconst (v := (-1)) hx hb dX1_bundle_16 (by decide) ?_
    have eo : oBundle σ p0 p1 = ((-1), σ) := by unfold oBundle; repeat (first | rw [if_pos (by omega)] | rw [if_neg (by omega)])
    exact ret_i (σ, γ) hx hb hr rfl hK hlocks hP hD hS ⟨γ, by rw [eo], by rw [eo]⟩ dX1_bundle_17
  · skip
    have c_1 : 0 ≤ p0.toInt ∧ p0.toInt < (σ 11 0 : Nat) := Decidable.not_not.mp (mt pI_0.mpr c_1)
    refine lv_aload_n hx hb dX1_bundle_8 rfl (lv_at hl 0 rfl) ?_
    refine lv_iload_n hx hb dX1_bundle_9 rfl (lv_at hl 2 rfl) ?_
    refine call_i (As := [.int p1]) (rest := []) WAd_c ⟨hx, hb, hml, hown, hts⟩ (c_X1_isItem l cI cZ D ad pl tb _ σ γ p1 hI) (cwV 1 hts gX1_bundle_X1_isItem rfl rfl rfl (by decide +kernel) ⟨Nat.le_of_ble_eq_true rfl, Nat.le_of_ble_eq_true rfl⟩) (va_recv hK hP (ci := 0) (q0 := 0) rfl rfl) hK hP hD hS hA hZ rfl rfl (Nat.le_of_ble_eq_true rfl) hl.1 dX1_bundle_10 ⟨Nat.zero_le _, Nat.zero_le _⟩ (fun r u H locs hq hP hD hS => ?_)
    obtain ⟨rfl, rfl⟩ := hq
    refine lv_if_ne (tgt := 18) hx hb dX1_bundle_13 (by decide) (fun c_2 => ?_) (fun c_2 => ?_)
    · skip
      have c_2 : 0 ≤ p1.toInt ∧ p1.toInt < (σ 11 0 : Nat) := Decidable.not_not.mp (mt pI_0.mpr c_2)
      obtain ⟨a0, e_a0, -, rfl⟩ := i_nat (p := p0) (by omega)
      obtain ⟨b0, e_b0, -, rfl⟩ := i_nat (p := p1) (by omega)
      have b_i := b11 hI
      refine lv_aload_n hx hb dX1_bundle_18 rfl (lv_at hl 0 rfl) ?_
      refine lv_iload_n hx hb dX1_bundle_19 rfl (lv_at hl 1 rfl) ?_
      refine lv_iload_n hx hb dX1_bundle_20 rfl (lv_at hl 2 rfl) ?_
      refine call_i (As := [.int (nI a0), .int (nI b0)]) (rest := []) WAd_c ⟨hx, hb, hml, hown, hts⟩ (c_X1_mayBundle l cI cZ D ad pl tb _ σ γ a0 b0 hI (by omega) (by omega)) (cwV 2 hts gX1_bundle_X1_mayBundle rfl rfl rfl (by decide +kernel) ⟨Nat.le_of_ble_eq_true rfl, Nat.le_of_ble_eq_true rfl⟩) (va_recv hK hP (ci := 0) (q0 := 0) rfl rfl) hK hP hD hS hA hZ rfl rfl (Nat.le_of_ble_eq_true rfl) hl.1 dX1_bundle_21 ⟨Nat.zero_le _, Nat.zero_le _⟩ (fun r u H locs hq hP hD hS => ?_)
      obtain ⟨rfl, rfl⟩ := hq
      refine lv_if_ne (tgt := 30) hx hb dX1_bundle_24 (by decide) (fun c_3 => ?_) (fun c_3 => ?_)
      · skip
        have c_3 : σ 7 a0 ≠ 2 ∧ σ 7 b0 ≠ 2 ∧ σ 9 b0 = 0 ∧ σ 10 a0 = 0 ∧ leadN σ 250 a0 ≠ b0 := Decidable.not_not.mp (mt pI_0.mpr c_3)
        refine lv_aload_n hx hb dX1_bundle_30 rfl (lv_at hl 0 rfl) ?_
        refine va_get (D := D) (ci := 0) (v := .ref (ad 9)) (C := RX1) (T := TX1) (N := 15) hx hb hts hin hown hK hP 0 rfl rfl 10 (by decide) (hts (.fieldLink RX1 39 "HandCases" "behind" "[I") (by decide +kernel)) (fun _ h9 => h9) rfl dX1_bundle_31 ?_
        refine lv_iload_n hx hb dX1_bundle_34 rfl (lv_at hl 1 rfl) ?_
        refine lv_iload_n hx hb dX1_bundle_35 rfl (lv_at hl 2 rfl) ?_
        refine q_iast (ws2 := WC cI cZ ad (setA σ 10 a0 (b0 + 1), γ)) hx hb hK hP hD hS 9 0 rfl rfl a0 (nI_toInt (by omega)) (by omega) (by rw [← mI_s]; exact updM) rfl dX1_bundle_36 (fun H locs hP hD hS => ?_)
        refine lv_aload_n hx hb dX1_bundle_37 rfl (lv_at hl 0 rfl) ?_
        refine va_get (D := D) (ci := 0) (v := .ref (ad 8)) (C := RX1) (T := TX1) (N := 15) hx hb hts hin hown hK hP 0 rfl rfl 9 (by decide) (hts (.fieldLink RX1 36 "HandCases" "before" "[I") (by decide +kernel)) (fun _ h9 => h9) rfl dX1_bundle_38 ?_
        refine lv_iload_n hx hb dX1_bundle_41 rfl (lv_at hl 2 rfl) ?_
        refine lv_iload_n hx hb dX1_bundle_42 rfl (lv_at hl 1 rfl) ?_
        refine q_iast (ws2 := WC cI cZ ad (setA (setA σ 10 a0 (b0 + 1)) 9 b0 (a0 + 1), γ)) hx hb hK hP hD hS 8 0 rfl rfl b0 (nI_toInt (by omega)) (by omega) (by rw [← mI_s]; exact updM) rfl dX1_bundle_43 (fun H locs hP hD hS => ?_)
        refine lv_aload_n hx hb dX1_bundle_44 rfl (lv_at hl 0 rfl) ?_
        refine va_get (D := D) (ci := 0) (v := .ref (ad 7)) (C := RX1) (T := TX1) (N := 15) hx hb hts hin hown hK hP 0 rfl rfl 8 (by decide) (hts (.fieldLink RX1 33 "HandCases" "toldHole" "[I") (by decide +kernel)) (fun _ h9 => h9) rfl dX1_bundle_45 ?_
        refine lv_iload_n hx hb dX1_bundle_48 rfl (lv_at hl 2 rfl) ?_
        refine lv_iconst (v := (-1)) hx hb dX1_bundle_49 (by decide) ?_
        refine q_iast (ws2 := WC cI cZ ad (setA (setA (setA σ 10 a0 (b0 + 1)) 9 b0 (a0 + 1)) 8 b0 0, γ)) hx hb hK hP hD hS 7 0 rfl rfl b0 (nI_toInt (by omega)) (by omega) (by rw [show ((-1) : Int32) = mI 0 from by decide]; exact updM) rfl dX1_bundle_50 (fun H locs hP hD hS => ?_)
        have hI2 : Inv (uBundle σ a0 b0) := I_bundle hI (by omega) (by omega) (by omega) (by omega) (by omega)
        have hP : va_P D vwCl (WC cI cZ ad (uBundle σ a0 b0, γ)) H := hP
        have hD : va_D (AC ad s.heap.size) (WC cI cZ ad (uBundle σ a0 b0, γ)) := hD
        have e_u : (uBundle σ a0 b0) 11 0 = σ 11 0 := rfl
        refine lv_aload_n hx hb dX1_bundle_51 rfl (lv_at hl 0 rfl) ?_
        refine lv_aload_n hx hb dX1_bundle_52 rfl (lv_at hl 0 rfl) ?_
        refine lv_iload_n hx hb dX1_bundle_53 rfl (lv_at hl 1 rfl) ?_
        refine call_i (As := [.int (nI a0)]) (rest := [.ref (ad 0)]) WAd_c ⟨hx, hb, hml, hown, hts⟩ (c_X1_leadOf l cI cZ D ad pl tb _ (uBundle σ a0 b0) γ a0 hI2 (by omega)) (cwV 1 hts gX1_bundle_X1_leadOf rfl rfl rfl (by decide +kernel) ⟨Nat.le_of_ble_eq_true rfl, Nat.le_of_ble_eq_true rfl⟩) (va_recv hK hP (ci := 0) (q0 := 0) rfl rfl) hK hP hD hS hA hZ rfl rfl (Nat.le_of_ble_eq_true rfl) hl.1 dX1_bundle_54 ⟨Nat.zero_le _, Nat.zero_le _⟩ (fun r u H locs hq hP hD hS => ?_)
        obtain ⟨rfl, rfl⟩ := hq
        have b_4 := (I_lead hI2 (i := a0) (by omega)).1
        have b_5 := b11 hI2
        refine call_i (As := [.int (nI (leadN (uBundle σ a0 b0) 250 a0))]) (rest := []) WAd_c ⟨hx, hb, hml, hown, hts⟩ (c_X1_sizeOfBundle l cI cZ D ad pl tb _ (uBundle σ a0 b0) γ (leadN (uBundle σ a0 b0) 250 a0) hI2 (by omega)) (cwV 1 hts gX1_bundle_X1_sizeOfBundle rfl rfl rfl (by decide +kernel) ⟨Nat.le_of_ble_eq_true rfl, Nat.le_of_ble_eq_true rfl⟩) (va_recv hK hP (ci := 0) (q0 := 0) rfl rfl) hK hP hD hS hA hZ rfl rfl (Nat.le_of_ble_eq_true rfl) hl.1 dX1_bundle_57 ⟨Nat.zero_le _, Nat.zero_le _⟩ (fun r u H locs hq hP hD hS => ?_)
        obtain ⟨rfl, rfl⟩ := hq
        have eo : oBundle σ (nI a0) (nI b0) = (nI (len (uBundle σ a0 b0) (leadN (uBundle σ a0 b0) 250 a0)), uBundle σ a0 b0) := by unfold oBundle; simp only [e_a0, e_b0, Int.toNat_natCast]; repeat (first | rw [if_pos (by omega)] | rw [if_neg (by omega)])
        exact ret_i (uBundle σ a0 b0, γ) hx hb hr rfl hK hlocks hP hD hS ⟨γ, by rw [eo], by rw [eo]⟩ dX1_bundle_60
      · skip
        have c_3 : ¬ (σ 7 a0 ≠ 2 ∧ σ 7 b0 ≠ 2 ∧ σ 9 b0 = 0 ∧ σ 10 a0 = 0 ∧ leadN σ 250 a0 ≠ b0) := pI_0.mp c_3
        refine lv_bipush (v := (-3)) hx hb dX1_bundle_27 (by decide) ?_
        have eo : oBundle σ (nI a0) (nI b0) = ((-3), σ) := by unfold oBundle; simp only [e_a0, e_b0, Int.toNat_natCast]; repeat (first | rw [if_pos (by omega)] | rw [if_neg (by omega)])
        exact ret_i (σ, γ) hx hb hr rfl hK hlocks hP hD hS ⟨γ, by rw [eo], by rw [eo]⟩ dX1_bundle_29
    · skip
      have c_2 : ¬ (0 ≤ p1.toInt ∧ p1.toInt < (σ 11 0 : Nat)) := pI_0.mp c_2
      refine lv_iconst (v := (-1)) hx hb dX1_bundle_16 (by decide) ?_
      have eo : oBundle σ p0 p1 = ((-1), σ) := by unfold oBundle; repeat (first | rw [if_pos (by omega)] | rw [if_neg (by omega)])
      exact ret_i (σ, γ) hx hb hr rfl hK hlocks hP hD hS ⟨γ, by rw [eo], by rw [eo]⟩ dX1_bundle_17

set_option maxHeartbeats 4000000 in
set_option maxRecDepth 100000 in
theorem c_X1_put (l : Launch) (cI cZ : ClassId) (D : va_G) (ad pl : Nat → Nat) (tb sz : Nat) (σ γ : Sg) (p0 p1 : Int32) (hI : Inv σ) : CtI l yX1_put wsX1_put ({ frames := 2, cells := 0, slots := 0, locals := 43 }) cI cZ D ad pl tb sz (WC cI cZ ad) (σ, γ) [.ref (ad 0), .int p0, .int p1] (fun r u => ∃ γ1, u = ((oPut σ p0 p1).2, γ1) ∧ r = (oPut σ p0 p1).1) := by
  refine Met.ofW (cc := cX1_put) (maxL := 3) (ret := (some .int)) (by decide) rfl ?_
  intro p e s m args below meth c s₁ B hml hv
  obtain ⟨rfl, hsz, hP, hK, hD0, hZ⟩ := hv
  have hx := B.exec
  have hb := B.bytes
  have hr := B.returns
  have hts := atoms_spec (ws := wsX1_put) B.pre
  have hown : s.vm.findClass RX1 = some m.cls := findClass_of_methodNamed B.named
  have hlocks := B.notSynchronized
  have hin : ∀ w ∈ wsX10, w ∈ wsX1_put := fun w h => List.mem_cons_of_mem _ (List.mem_append_right _ h)
  subst hsz
  have hD : va_D (AC ad s.heap.size) (WC cI cZ ad (σ, γ)) := AC_self WAd_c hD0
  have hA : ∀ q : Nat, s.heap.size ≤ q → AC ad s.heap.size q := fun q h => Or.inr h
  have hS : va_S (AC ad s.heap.size) s.heap s.heap [] := va_S.rf
  have hl := lv_entry ([.ref (ad 0), .int p0, .int p1]) (n := 3) (Nat.le_of_ble_eq_true rfl)
  rw [lg_entry_eq]
  generalize (lg_sl ([.ref (ad 0), .int p0, .int p1]) ++ List.replicate (3 - (lg_sl ([.ref (ad 0), .int p0, .int p1])).length) Slot.unset).toArray = ls at hl ⊢
  have hl : lv_has ls 3 [(0, .ref (ad 0)), (1, .int p0), (2, .int p1)] := hl
  refine lv_aload_n hx hb dX1_put_0 rfl (lv_at hl 0 rfl) ?_
  refine lv_iload_n hx hb dX1_put_1 rfl (lv_at hl 1 rfl) ?_
  refine call_i (As := [.int p0]) (rest := []) WAd_c ⟨hx, hb, hml, hown, hts⟩ (c_X1_isItem l cI cZ D ad pl tb _ σ γ p0 hI) (cwV 1 hts gX1_put_X1_isItem rfl rfl rfl (by decide +kernel) ⟨Nat.le_of_ble_eq_true rfl, Nat.le_of_ble_eq_true rfl⟩) (va_recv hK hP (ci := 0) (q0 := 0) rfl rfl) hK hP hD hS hA hZ rfl rfl (Nat.le_of_ble_eq_true rfl) hl.1 dX1_put_2 ⟨Nat.zero_le _, Nat.zero_le _⟩ (fun r u H locs hq hP hD hS => ?_)
  obtain ⟨rfl, rfl⟩ := hq
  refine lv_if_ne (tgt := 10) hx hb dX1_put_5 (by decide) (fun c_1 => ?_) (fun c_1 => ?_)
  · skip
    have c_1 : 0 ≤ p0.toInt ∧ p0.toInt < (σ 11 0 : Nat) := Decidable.not_not.mp (mt pI_0.mpr c_1)
    refine lv_aload_n hx hb dX1_put_10 rfl (lv_at hl 0 rfl) ?_
    refine lv_iload_n hx hb dX1_put_11 rfl (lv_at hl 2 rfl) ?_
    refine call_i (As := [.int p1]) (rest := []) WAd_c ⟨hx, hb, hml, hown, hts⟩ (c_X1_isHole l cI cZ D ad pl tb _ σ γ p1 hI) (cwV 1 hts gX1_put_X1_isHole rfl rfl rfl (by decide +kernel) ⟨Nat.le_of_ble_eq_true rfl, Nat.le_of_ble_eq_true rfl⟩) (va_recv hK hP (ci := 0) (q0 := 0) rfl rfl) hK hP hD hS hA hZ rfl rfl (Nat.le_of_ble_eq_true rfl) hl.1 dX1_put_12 ⟨Nat.zero_le _, Nat.zero_le _⟩ (fun r u H locs hq hP hD hS => ?_)
    obtain ⟨rfl, rfl⟩ := hq
    refine lv_if_ne (tgt := 21) hx hb dX1_put_15 (by decide) (fun c_2 => ?_) (fun c_2 => ?_)
    · skip
      have c_2 : 0 ≤ p1.toInt ∧ p1.toInt < (σ 0 0 : Nat) := Decidable.not_not.mp (mt pI_0.mpr c_2)
      obtain ⟨i0, e_i0, -, rfl⟩ := i_nat (p := p0) (by omega)
      obtain ⟨g0, e_g0, -, rfl⟩ := i_nat (p := p1) (by omega)
      have b_i := b11 hI
      have b_0 := b0 hI
      refine lv_aload_n hx hb dX1_put_21 rfl (lv_at hl 0 rfl) ?_
      refine va_get (D := D) (ci := 0) (v := .ref (ad 6)) (C := RX1) (T := TX1) (N := 15) hx hb hts hin hown hK hP 0 rfl rfl 7 (by decide) (hts (.fieldLink RX1 30 "HandCases" "kindOf" "[I") (by decide +kernel)) (fun _ h9 => h9) rfl dX1_put_22 ?_
      refine lv_iload_n hx hb dX1_put_25 rfl (lv_at hl 1 rfl) ?_
      have b_3 := b7 hI i0
      refine q_iald (v := nI (σ 7 i0)) hx hb hK hP 6 0 rfl rfl i0 (nI_toInt (by omega)) (by omega) rfl dX1_put_26 ?_
      refine lv_iconst (v := 2) hx hb dX1_put_27 (by decide) ?_
      refine lv_icmp_eq (tgt := 39) hx hb dX1_put_28 (by decide) (fun c_4 => ?_) (fun c_4 => ?_)
      · skip
        have c_4 := (cq_eq (nI_toInt (by omega)) (show (2 : Int32).toInt = (2 : Int) from by decide)).mp c_4
        refine lv_bipush (v := (-3)) hx hb dX1_put_39 (by decide) ?_
        have eo : oPut σ (nI i0) (nI g0) = ((-3), σ) := by unfold oPut; simp only [e_i0, e_g0, Int.toNat_natCast]; repeat (first | rw [if_pos (by omega)] | rw [if_neg (by omega)])
        exact ret_i (σ, γ) hx hb hr rfl hK hlocks hP hD hS ⟨γ, by rw [eo], by rw [eo]⟩ dX1_put_41
      · skip
        have c_4 := mt (cq_eq (nI_toInt (by omega)) (show (2 : Int32).toInt = (2 : Int) from by decide)).mpr c_4
        refine lv_aload_n hx hb dX1_put_31 rfl (lv_at hl 0 rfl) ?_
        refine lv_iload_n hx hb dX1_put_32 rfl (lv_at hl 1 rfl) ?_
        refine call_i (As := [.int (nI i0)]) (rest := []) WAd_c ⟨hx, hb, hml, hown, hts⟩ (c_X1_leads l cI cZ D ad pl tb _ σ γ i0 hI (by omega)) (cwV 1 hts gX1_put_X1_leads rfl rfl rfl (by decide +kernel) ⟨Nat.le_of_ble_eq_true rfl, Nat.le_of_ble_eq_true rfl⟩) (va_recv hK hP (ci := 0) (q0 := 0) rfl rfl) hK hP hD hS hA hZ rfl rfl (Nat.le_of_ble_eq_true rfl) hl.1 dX1_put_33 ⟨Nat.zero_le _, Nat.zero_le _⟩ (fun r u H locs hq hP hD hS => ?_)
        obtain ⟨rfl, rfl⟩ := hq
        refine lv_if_ne (tgt := 42) hx hb dX1_put_36 (by decide) (fun c_5 => ?_) (fun c_5 => ?_)
        · skip
          have c_5 : σ 9 i0 = 0 := Decidable.not_not.mp (mt pI_0.mpr c_5)
          refine lv_aload_n hx hb dX1_put_42 rfl (lv_at hl 0 rfl) ?_
          refine va_get (D := D) (ci := 0) (v := .ref (ad 7)) (C := RX1) (T := TX1) (N := 15) hx hb hts hin hown hK hP 0 rfl rfl 8 (by decide) (hts (.fieldLink RX1 33 "HandCases" "toldHole" "[I") (by decide +kernel)) (fun _ h9 => h9) rfl dX1_put_43 ?_
          refine lv_iload_n hx hb dX1_put_46 rfl (lv_at hl 1 rfl) ?_
          refine lv_iload_n hx hb dX1_put_47 rfl (lv_at hl 2 rfl) ?_
          refine q_iast (ws2 := WC cI cZ ad (setA σ 8 i0 (g0 + 1), γ)) hx hb hK hP hD hS 7 0 rfl rfl i0 (nI_toInt (by omega)) (by omega) (by rw [← mI_s]; exact updM) rfl dX1_put_48 (fun H locs hP hD hS => ?_)
          have hI2 : Inv (uPut σ i0 g0) := I_put hI (by omega)
          have hP : va_P D vwCl (WC cI cZ ad (uPut σ i0 g0, γ)) H := hP
          have hD : va_D (AC ad s.heap.size) (WC cI cZ ad (uPut σ i0 g0, γ)) := hD
          refine lv_aload_n hx hb dX1_put_49 rfl (lv_at hl 0 rfl) ?_
          refine lv_iload_n hx hb dX1_put_50 rfl (lv_at hl 1 rfl) ?_
          refine call_i (As := [.int (nI i0)]) (rest := []) WAd_c ⟨hx, hb, hml, hown, hts⟩ (c_X1_isWrong l cI cZ D ad pl tb _ (uPut σ i0 g0) γ i0 hI2 (by omega)) (cwV 1 hts gX1_put_X1_isWrong rfl rfl rfl (by decide +kernel) ⟨Nat.le_of_ble_eq_true rfl, Nat.le_of_ble_eq_true rfl⟩) (va_recv hK hP (ci := 0) (q0 := 0) rfl rfl) hK hP hD hS hA hZ rfl rfl (Nat.le_of_ble_eq_true rfl) hl.1 dX1_put_51 ⟨Nat.zero_le _, Nat.zero_le _⟩ (fun r u H locs hq hP hD hS => ?_)
          obtain ⟨rfl, rfl⟩ := hq
          refine lv_if_eq (tgt := 61) hx hb dX1_put_54 (by decide) (fun c_6 => ?_) (fun c_6 => ?_)
          · skip
            have c_6 : ¬ (hol (uPut σ i0 g0) i0 ≠ 0 ∧ hol (uPut σ i0 g0) i0 ≠ (uPut σ i0 g0) 2 ((uPut σ i0 g0) 6 i0)) := pI_0.mp c_6
            refine lv_iconst (v := 0) hx hb dX1_put_61 (by decide) ?_
            have eo : oPut σ (nI i0) (nI g0) = (pI (hol (uPut σ i0 g0) i0 ≠ 0 ∧ hol (uPut σ i0 g0) i0 ≠ (uPut σ i0 g0) 2 ((uPut σ i0 g0) 6 i0)), uPut σ i0 g0) := by unfold oPut; simp only [e_i0, e_g0, Int.toNat_natCast]; repeat (first | rw [if_pos (by omega)] | rw [if_neg (by omega)])
            exact ret_i (uPut σ i0 g0, γ) hx hb hr rfl hK hlocks hP hD hS ⟨γ, by rw [eo], by rw [eo]; exact pI_f (by omega)⟩ dX1_put_62
          · skip
            have c_6 : hol (uPut σ i0 g0) i0 ≠ 0 ∧ hol (uPut σ i0 g0) i0 ≠ (uPut σ i0 g0) 2 ((uPut σ i0 g0) 6 i0) := Decidable.not_not.mp (mt pI_0.mpr c_6)
            refine lv_iconst (v := 1) hx hb dX1_put_57 (by decide) ?_
            refine lv_goto (tgt := 62) hx hb dX1_put_58 (by decide) ?_
            have eo : oPut σ (nI i0) (nI g0) = (pI (hol (uPut σ i0 g0) i0 ≠ 0 ∧ hol (uPut σ i0 g0) i0 ≠ (uPut σ i0 g0) 2 ((uPut σ i0 g0) 6 i0)), uPut σ i0 g0) := by unfold oPut; simp only [e_i0, e_g0, Int.toNat_natCast]; repeat (first | rw [if_pos (by omega)] | rw [if_neg (by omega)])
            exact ret_i (uPut σ i0 g0, γ) hx hb hr rfl hK hlocks hP hD hS ⟨γ, by rw [eo], by rw [eo]; exact pI_t (by omega)⟩ dX1_put_62
        · skip
          have c_5 : ¬ (σ 9 i0 = 0) := pI_0.mp c_5
          refine lv_bipush (v := (-3)) hx hb dX1_put_39 (by decide) ?_
          have eo : oPut σ (nI i0) (nI g0) = ((-3), σ) := by unfold oPut; simp only [e_i0, e_g0, Int.toNat_natCast]; repeat (first | rw [if_pos (by omega)] | rw [if_neg (by omega)])
          exact ret_i (σ, γ) hx hb hr rfl hK hlocks hP hD hS ⟨γ, by rw [eo], by rw [eo]⟩ dX1_put_41
    · skip
      have c_2 : ¬ (0 ≤ p1.toInt ∧ p1.toInt < (σ 0 0 : Nat)) := pI_0.mp c_2
      refine lv_bipush (v := (-2)) hx hb dX1_put_18 (by decide) ?_
      have eo : oPut σ p0 p1 = ((-2), σ) := by unfold oPut; repeat (first | rw [if_pos (by omega)] | rw [if_neg (by omega)])
      exact ret_i (σ, γ) hx hb hr rfl hK hlocks hP hD hS ⟨γ, by rw [eo], by rw [eo]⟩ dX1_put_20
  · skip
    have c_1 : ¬ (0 ≤ p0.toInt ∧ p0.toInt < (σ 11 0 : Nat)) := pI_0.mp c_1
    refine lv_iconst (v := (-1)) hx hb dX1_put_8 (by decide) ?_
    have eo : oPut σ p0 p1 = ((-1), σ) := by unfold oPut; repeat (first | rw [if_pos (by omega)] | rw [if_neg (by omega)])
    exact ret_i (σ, γ) hx hb hr rfl hK hlocks hP hD hS ⟨γ, by rw [eo], by rw [eo]⟩ dX1_put_9

set_option maxHeartbeats 4000000 in
set_option maxRecDepth 100000 in
theorem c_X1_hold (l : Launch) (cI cZ : ClassId) (D : va_G) (ad pl : Nat → Nat) (tb sz : Nat) (σ γ : Sg) (p0 : Int32) (on : Nat) (hI : Inv σ) (hon : on ≤ 1) : CtI l yX1_hold wsX1_hold ({ frames := 2, cells := 0, slots := 0, locals := 42 }) cI cZ D ad pl tb sz (WC cI cZ ad) (σ, γ) [.ref (ad 0), .int p0, .int (nI on)] (fun r u => ∃ γ1, u = ((oHold σ p0 on).2, γ1) ∧ r = (oHold σ p0 on).1) := by
  refine Met.ofW (cc := cX1_hold) (maxL := 3) (ret := (some .boolean)) (by decide) rfl ?_
  intro p e s m args below meth c s₁ B hml hv
  obtain ⟨rfl, hsz, hP, hK, hD0, hZ⟩ := hv
  have hx := B.exec
  have hb := B.bytes
  have hr := B.returns
  have hts := atoms_spec (ws := wsX1_hold) B.pre
  have hown : s.vm.findClass RX1 = some m.cls := findClass_of_methodNamed B.named
  have hlocks := B.notSynchronized
  have hin : ∀ w ∈ wsX10, w ∈ wsX1_hold := fun w h => List.mem_cons_of_mem _ (List.mem_append_right _ h)
  subst hsz
  have hD : va_D (AC ad s.heap.size) (WC cI cZ ad (σ, γ)) := AC_self WAd_c hD0
  have hA : ∀ q : Nat, s.heap.size ≤ q → AC ad s.heap.size q := fun q h => Or.inr h
  have hS : va_S (AC ad s.heap.size) s.heap s.heap [] := va_S.rf
  have hl := lv_entry ([.ref (ad 0), .int p0, .int (nI on)]) (n := 3) (Nat.le_of_ble_eq_true rfl)
  rw [lg_entry_eq]
  generalize (lg_sl ([.ref (ad 0), .int p0, .int (nI on)]) ++ List.replicate (3 - (lg_sl ([.ref (ad 0), .int p0, .int (nI on)])).length) Slot.unset).toArray = ls at hl ⊢
  have hl : lv_has ls 3 [(0, .ref (ad 0)), (1, .int p0), (2, .int (nI on))] := hl
  refine lv_aload_n hx hb dX1_hold_0 rfl (lv_at hl 0 rfl) ?_
  refine lv_iload_n hx hb dX1_hold_1 rfl (lv_at hl 1 rfl) ?_
  refine call_i (As := [.int p0]) (rest := []) WAd_c ⟨hx, hb, hml, hown, hts⟩ (c_X1_isHouse l cI cZ D ad pl tb _ σ γ p0 hI) (cwV 1 hts gX1_hold_X1_isHouse rfl rfl rfl (by decide +kernel) ⟨Nat.le_of_ble_eq_true rfl, Nat.le_of_ble_eq_true rfl⟩) (va_recv hK hP (ci := 0) (q0 := 0) rfl rfl) hK hP hD hS hA hZ rfl rfl (Nat.le_of_ble_eq_true rfl) hl.1 dX1_hold_2 ⟨Nat.zero_le _, Nat.zero_le _⟩ (fun r u H locs hq hP hD hS => ?_)
  obtain ⟨rfl, rfl⟩ := hq
  refine lv_if_eq (tgt := 18) hx hb dX1_hold_5 (by decide) (fun c_1 => ?_) (fun c_1 => ?_)
  · skip
    have c_1 : ¬ (0 ≤ p0.toInt ∧ p0.toInt < 200 ∧ σ 1 p0.toInt.toNat ≠ 0) := pI_0.mp c_1
    refine lv_iconst (v := 0) hx hb dX1_hold_18 (by decide) ?_
    have eo : oHold σ p0 on = (0, σ) := by unfold oHold; repeat (first | rw [if_pos (by omega)] | rw [if_neg (by omega)])
    exact ret_i (σ, γ) hx hb hr rfl hK hlocks hP hD hS ⟨γ, by rw [eo], by rw [eo]⟩ dX1_hold_19
  · skip
    have c_1 : 0 ≤ p0.toInt ∧ p0.toInt < 200 ∧ σ 1 p0.toInt.toNat ≠ 0 := Decidable.not_not.mp (mt pI_0.mpr c_1)
    obtain ⟨h0, e_h0, -, rfl⟩ := i_nat (p := p0) (by omega)
    simp only [e_h0, Int.toNat_natCast] at c_1
    refine lv_aload_n hx hb dX1_hold_8 rfl (lv_at hl 0 rfl) ?_
    refine va_get (D := D) (ci := 0) (v := .ref (ad 3)) (C := RX1) (T := TX1) (N := 15) hx hb hts hin hown hK hP 0 rfl rfl 3 (by decide) (hts (.fieldLink RX1 16 "HandCases" "held" "[Z") (by decide +kernel)) (fun _ h9 => h9) rfl dX1_hold_9 ?_
    refine lv_iload_n hx hb dX1_hold_12 rfl (lv_at hl 1 rfl) ?_
    have b_2 := b3 hI h0
    refine q_zald (v := nI (σ 3 h0)) hx hb hK hP 3 1 rfl rfl h0 (nI_toInt (by omega)) (by omega) rfl dX1_hold_13 ?_
    refine lv_iload_n hx hb dX1_hold_14 rfl (lv_at hl 2 rfl) ?_
    refine lv_icmp_ne (tgt := 20) hx hb dX1_hold_15 (by decide) (fun c_3 => ?_) (fun c_3 => ?_)
    · skip
      have c_3 := mt (cq_eq (nI_toInt (by omega)) (nI_toInt (by omega))).mpr c_3
      refine lv_aload_n hx hb dX1_hold_20 rfl (lv_at hl 0 rfl) ?_
      refine va_get (D := D) (ci := 0) (v := .ref (ad 3)) (C := RX1) (T := TX1) (N := 15) hx hb hts hin hown hK hP 0 rfl rfl 3 (by decide) (hts (.fieldLink RX1 16 "HandCases" "held" "[Z") (by decide +kernel)) (fun _ h9 => h9) rfl dX1_hold_21 ?_
      refine lv_iload_n hx hb dX1_hold_24 rfl (lv_at hl 1 rfl) ?_
      refine lv_iload_n hx hb dX1_hold_25 rfl (lv_at hl 2 rfl) ?_
      refine q_zast (ws2 := WC cI cZ ad (setA σ 3 h0 on, γ)) hx hb hK hP hD hS 3 1 rfl rfl h0 (nI_toInt (by omega)) (by omega) (by rw [nar_z hon]; exact updN) rfl dX1_hold_26 (fun H locs hP hD hS => ?_)
      have hP : va_P D vwCl (WC cI cZ ad (uHold σ h0 on, γ)) H := hP
      have hD : va_D (AC ad s.heap.size) (WC cI cZ ad (uHold σ h0 on, γ)) := hD
      refine lv_iconst (v := 1) hx hb dX1_hold_27 (by decide) ?_
      have eo : oHold σ (nI h0) on = (1, uHold σ h0 on) := by unfold oHold; simp only [e_h0, Int.toNat_natCast]; repeat (first | rw [if_pos (by omega)] | rw [if_neg (by omega)])
      exact ret_i (uHold σ h0 on, γ) hx hb hr rfl hK hlocks hP hD hS ⟨γ, by rw [eo], by rw [eo]⟩ dX1_hold_28
    · skip
      have c_3 := (cq_eq (nI_toInt (by omega)) (nI_toInt (by omega))).mp c_3
      refine lv_iconst (v := 0) hx hb dX1_hold_18 (by decide) ?_
      have eo : oHold σ (nI h0) on = (0, σ) := by unfold oHold; simp only [e_h0, Int.toNat_natCast]; repeat (first | rw [if_pos (by omega)] | rw [if_neg (by omega)])
      exact ret_i (σ, γ) hx hb hr rfl hK hlocks hP hD hS ⟨γ, by rw [eo], by rw [eo]⟩ dX1_hold_19

set_option maxHeartbeats 4000000 in
set_option maxRecDepth 100000 in
theorem c_X1_lies (l : Launch) (cI cZ : ClassId) (D : va_G) (ad pl : Nat → Nat) (tb sz : Nat) (σ γ : Sg) (p0 : Int32) (hI : Inv σ) : CtI l yX1_lies wsX1_lies ({ frames := 1, cells := 0, slots := 0, locals := 23 }) cI cZ D ad pl tb sz (WC cI cZ ad) (σ, γ) [.ref (ad 0), .int p0] (fun r u => r = oLies σ p0 ∧ u = (σ, γ)) := by
  refine Met.ofW (cc := cX1_lies) (maxL := 2) (ret := (some .int)) (by decide) rfl ?_
  intro p e s m args below meth c s₁ B hml hv
  obtain ⟨rfl, hsz, hP, hK, hD0, hZ⟩ := hv
  have hx := B.exec
  have hb := B.bytes
  have hr := B.returns
  have hts := atoms_spec (ws := wsX1_lies) B.pre
  have hown : s.vm.findClass RX1 = some m.cls := findClass_of_methodNamed B.named
  have hlocks := B.notSynchronized
  subst hsz
  have hD : va_D (AC ad s.heap.size) (WC cI cZ ad (σ, γ)) := AC_self WAd_c hD0
  have hA : ∀ q : Nat, s.heap.size ≤ q → AC ad s.heap.size q := fun q h => Or.inr h
  have hS : va_S (AC ad s.heap.size) s.heap s.heap [] := va_S.rf
  have hl := lv_entry ([.ref (ad 0), .int p0]) (n := 2) (Nat.le_of_ble_eq_true rfl)
  rw [lg_entry_eq]
  generalize (lg_sl ([.ref (ad 0), .int p0]) ++ List.replicate (2 - (lg_sl ([.ref (ad 0), .int p0])).length) Slot.unset).toArray = ls at hl ⊢
  have hl : lv_has ls 2 [(0, .ref (ad 0)), (1, .int p0)] := hl
  refine lv_aload_n hx hb dX1_lies_0 rfl (lv_at hl 0 rfl) ?_
  refine lv_iload_n hx hb dX1_lies_1 rfl (lv_at hl 1 rfl) ?_
  refine call_i (As := [.int p0]) (rest := []) WAd_c ⟨hx, hb, hml, hown, hts⟩ (c_X1_isItem l cI cZ D ad pl tb _ σ γ p0 hI) (cwV 1 hts gX1_lies_X1_isItem rfl rfl rfl (by decide +kernel) ⟨Nat.le_of_ble_eq_true rfl, Nat.le_of_ble_eq_true rfl⟩) (va_recv hK hP (ci := 0) (q0 := 0) rfl rfl) hK hP hD hS hA hZ rfl rfl (Nat.le_of_ble_eq_true rfl) hl.1 dX1_lies_2 ⟨Nat.zero_le _, Nat.zero_le _⟩ (fun r u H locs hq hP hD hS => ?_)
  obtain ⟨rfl, rfl⟩ := hq
  refine lv_if_eq (tgt := 20) hx hb dX1_lies_5 (by decide) (fun c_1 => ?_) (fun c_1 => ?_)
  · skip
    have c_1 : ¬ (0 ≤ p0.toInt ∧ p0.toInt < (σ 11 0 : Nat)) := pI_0.mp c_1
    refine lv_iconst (v := (-1)) hx hb dX1_lies_20 (by decide) ?_
    exact ret_i (σ, γ) hx hb hr rfl hK hlocks hP hD hS ⟨by unfold oLies; rw [if_neg (by omega)], rfl⟩ dX1_lies_21
  · skip
    have c_1 : 0 ≤ p0.toInt ∧ p0.toInt < (σ 11 0 : Nat) := Decidable.not_not.mp (mt pI_0.mpr c_1)
    obtain ⟨i0, e_i0, -, rfl⟩ := i_nat (p := p0) (by omega)
    have b_i := b11 hI
    refine lv_aload_n hx hb dX1_lies_8 rfl (lv_at hl 0 rfl) ?_
    refine lv_aload_n hx hb dX1_lies_9 rfl (lv_at hl 0 rfl) ?_
    refine lv_iload_n hx hb dX1_lies_10 rfl (lv_at hl 1 rfl) ?_
    refine call_i (As := [.int (nI i0)]) (rest := [.ref (ad 0)]) WAd_c ⟨hx, hb, hml, hown, hts⟩ (c_X1_leadOf l cI cZ D ad pl tb _ σ γ i0 hI (by omega)) (cwV 1 hts gX1_lies_X1_leadOf rfl rfl rfl (by decide +kernel) ⟨Nat.le_of_ble_eq_true rfl, Nat.le_of_ble_eq_true rfl⟩) (va_recv hK hP (ci := 0) (q0 := 0) rfl rfl) hK hP hD hS hA hZ rfl rfl (Nat.le_of_ble_eq_true rfl) hl.1 dX1_lies_11 ⟨Nat.zero_le _, Nat.zero_le _⟩ (fun r u H locs hq hP hD hS => ?_)
    obtain ⟨rfl, rfl⟩ := hq
    have b_2 := (I_lead hI (i := i0) (by omega)).1
    have b_3 := b11 hI
    refine call_i (As := [.int (nI (leadN σ 250 i0))]) (rest := []) WAd_c ⟨hx, hb, hml, hown, hts⟩ (c_X1_holeOfLead l cI cZ D ad pl tb _ σ γ (leadN σ 250 i0) hI (by omega)) (cwV 1 hts gX1_lies_X1_holeOfLead rfl rfl rfl (by decide +kernel) ⟨Nat.le_of_ble_eq_true rfl, Nat.le_of_ble_eq_true rfl⟩) (va_recv hK hP (ci := 0) (q0 := 0) rfl rfl) hK hP hD hS hA hZ rfl rfl (Nat.le_of_ble_eq_true rfl) hl.1 dX1_lies_14 ⟨Nat.zero_le _, Nat.zero_le _⟩ (fun r u H locs hq hP hD hS => ?_)
    obtain ⟨rfl, rfl⟩ := hq
    have b_4 := hol_le hI (leadN σ 250 i0)
    refine lv_goto (tgt := 21) hx hb dX1_lies_17 (by decide) ?_
    exact ret_i (σ, γ) hx hb hr rfl hK hlocks hP hD hS ⟨by unfold oLies; simp only [e_i0, Int.toNat_natCast]; rw [if_pos (by omega)], rfl⟩ dX1_lies_21

set_option maxHeartbeats 4000000 in
set_option maxRecDepth 100000 in
theorem c_X1_sort (l : Launch) (cI cZ : ClassId) (D : va_G) (ad pl : Nat → Nat) (tb sz : Nat) (σ γ : Sg)  (hI : Inv σ) : CtI l yX1_sort wsX1_sort ({ frames := 5, cells := 0, slots := 0, locals := 109 }) cI cZ D ad pl tb sz (WC cI cZ ad) (σ, γ) [.ref (ad 0)] (fun r u => r = nI (sumN (atF σ 4) (σ 11 0) + sumN (atF σ 1) (σ 11 0)) ∧ u = (σ, γ)) := by
  refine Met.ofW (cc := cX1_sort) (maxL := 1) (ret := (some .int)) (by decide) rfl ?_
  intro p e s m args below meth c s₁ B hml hv
  obtain ⟨rfl, hsz, hP, hK, hD0, hZ⟩ := hv
  have hx := B.exec
  have hb := B.bytes
  have hr := B.returns
  have hts := atoms_spec (ws := wsX1_sort) B.pre
  have hown : s.vm.findClass RX1 = some m.cls := findClass_of_methodNamed B.named
  have hlocks := B.notSynchronized
  subst hsz
  have hD : va_D (AC ad s.heap.size) (WC cI cZ ad (σ, γ)) := AC_self WAd_c hD0
  have hA : ∀ q : Nat, s.heap.size ≤ q → AC ad s.heap.size q := fun q h => Or.inr h
  have hS : va_S (AC ad s.heap.size) s.heap s.heap [] := va_S.rf
  have hl := lv_entry ([.ref (ad 0)]) (n := 1) (Nat.le_of_ble_eq_true rfl)
  rw [lg_entry_eq]
  generalize (lg_sl ([.ref (ad 0)]) ++ List.replicate (1 - (lg_sl ([.ref (ad 0)])).length) Slot.unset).toArray = ls at hl ⊢
  have hl : lv_has ls 1 [(0, .ref (ad 0))] := hl
  refine lv_aload_n hx hb dX1_sort_0 rfl (lv_at hl 0 rfl) ?_
  refine call_i (As := []) (rest := []) WAd_c ⟨hx, hb, hml, hown, hts⟩ (c_X1_itemsInFrames l cI cZ D ad pl tb _ σ γ hI) (cwV 0 hts gX1_sort_X1_itemsInFrames rfl rfl rfl (by decide +kernel) ⟨Nat.le_of_ble_eq_true rfl, Nat.le_of_ble_eq_true rfl⟩) (va_recv hK hP (ci := 0) (q0 := 0) rfl rfl) hK hP hD hS hA hZ rfl rfl (Nat.le_of_ble_eq_true rfl) hl.1 dX1_sort_1 ⟨Nat.zero_le _, Nat.zero_le _⟩ (fun r u H locs hq hP hD hS => ?_)
  obtain ⟨rfl, rfl⟩ := hq
  exact ret_i (σ, γ) hx hb hr rfl hK hlocks hP hD hS ⟨rfl, rfl⟩ dX1_sort_4

set_option maxHeartbeats 4000000 in
set_option maxRecDepth 100000 in
theorem c_X1_drawer (l : Launch) (cI cZ : ClassId) (D : va_G) (ad pl : Nat → Nat) (tb sz : Nat) (σ γ : Sg) (p0 p1 : Int32) (hI : Inv σ) : CtI l yX1_drawer wsX1_drawer ({ frames := 4, cells := 0, slots := 0, locals := 89 }) cI cZ D ad pl tb sz (WC cI cZ ad) (σ, γ) [.ref (ad 0), .int p0, .int p1] (fun r u => ∃ γ1, u = (σ, γ1) ∧ r = pickI p1 (hL σ (dH p0) 2)) := by
  refine Met.ofW (cc := cX1_drawer) (maxL := 3) (ret := (some .int)) (by decide) rfl ?_
  intro p e s m args below meth c s₁ B hml hv
  obtain ⟨rfl, hsz, hP, hK, hD0, hZ⟩ := hv
  have hx := B.exec
  have hb := B.bytes
  have hr := B.returns
  have hts := atoms_spec (ws := wsX1_drawer) B.pre
  have hown : s.vm.findClass RX1 = some m.cls := findClass_of_methodNamed B.named
  have hlocks := B.notSynchronized
  have hin : ∀ w ∈ wsX10, w ∈ wsX1_drawer := fun w h => List.mem_cons_of_mem _ (List.mem_append_right _ h)
  subst hsz
  have hD : va_D (AC ad s.heap.size) (WC cI cZ ad (σ, γ)) := AC_self WAd_c hD0
  have hA : ∀ q : Nat, s.heap.size ≤ q → AC ad s.heap.size q := fun q h => Or.inr h
  have hS : va_S (AC ad s.heap.size) s.heap s.heap [] := va_S.rf
  have hl := lv_entry ([.ref (ad 0), .int p0, .int p1]) (n := 3) (Nat.le_of_ble_eq_true rfl)
  rw [lg_entry_eq]
  generalize (lg_sl ([.ref (ad 0), .int p0, .int p1]) ++ List.replicate (3 - (lg_sl ([.ref (ad 0), .int p0, .int p1])).length) Slot.unset).toArray = ls at hl ⊢
  have hl : lv_has ls 3 [(0, .ref (ad 0)), (1, .int p0), (2, .int p1)] := hl
  refine lv_aload_n hx hb dX1_drawer_0 rfl (lv_at hl 0 rfl) ?_
  refine lv_iconst (v := 0) hx hb dX1_drawer_1 (by decide) ?_
  refine va_put (D := D) (ci := 0) (v := .int 0) (ty := .int) (C := RX1) (T := TX1) (N := 15) hx hb hts hin tyX1 tyX1_ok nmX1 hown hK hP hD hS 0 rfl rfl 13 (by decide) (hts (.fieldLink RX1 48 "HandCases" "rowLength" "I") (by decide +kernel)) (fun _ h9 => h9) rfl (by decide +kernel) rfl rfl (Nat.le_of_ble_eq_true rfl) dX1_drawer_2 (fun H locs hP hD hS => ?_)
  have hP : va_P D vwCl (WC cI cZ ad (σ, setA γ 1 0 0)) H := hP
  have hD : va_D (AC ad s.heap.size) (WC cI cZ ad (σ, setA γ 1 0 0)) := hD
  refine lv_aload_n hx hb dX1_drawer_5 rfl (lv_at hl 0 rfl) ?_
  refine lv_iload_n hx hb dX1_drawer_6 rfl (lv_at hl 1 rfl) ?_
  refine va_gets hx hb hZ.2.2.1 hS hown (hts (.fieldLink RX1 150 "HandCases$Place" "DRAWER" "LHandCases$Place;") (by decide +kernel)) (fun _ h9 => h9) dX1_drawer_7 ?_
  refine call_v (As := [.int p0, .ref (pl 2)]) (rest := []) WAd_c ⟨hx, hb, hml, hown, hts⟩ (c_X1_addOfHouse l cI cZ D ad pl tb _ σ (setA γ 1 0 0) p0 (dH p0) 2 ([]) hI dH_iff (by omega) RowIs_nil (by rw [List.length_nil]; have := hL_le hI (dH p0) 2; omega)) (cwV 2 hts gX1_drawer_X1_addOfHouse rfl rfl rfl (by decide +kernel) ⟨Nat.le_of_ble_eq_true rfl, Nat.le_of_ble_eq_true rfl⟩) (va_recv hK hP (ci := 0) (q0 := 0) rfl rfl) hK hP hD hS hA hZ rfl rfl (Nat.le_of_ble_eq_true rfl) hl.1 dX1_drawer_10 ⟨Nat.zero_le _, Nat.zero_le _⟩ (fun u H locs hq hP hD hS => ?_)
  obtain ⟨γ_1, rfl, hR⟩ := hq
  refine lv_aload_n hx hb dX1_drawer_13 rfl (lv_at hl 0 rfl) ?_
  refine lv_iload_n hx hb dX1_drawer_14 rfl (lv_at hl 2 rfl) ?_
  refine call_i (As := [.int p1]) (rest := []) WAd_c ⟨hx, hb, hml, hown, hts⟩ (c_X1_inRow l cI cZ D ad pl tb _ σ γ_1 p1 ([] ++ hL σ (dH p0) 2) hR (hL_le hI (dH p0) 2)) (cwV 1 hts gX1_drawer_X1_inRow rfl rfl rfl (by decide +kernel) ⟨Nat.le_of_ble_eq_true rfl, Nat.le_of_ble_eq_true rfl⟩) (va_recv hK hP (ci := 0) (q0 := 0) rfl rfl) hK hP hD hS hA hZ rfl rfl (Nat.le_of_ble_eq_true rfl) hl.1 dX1_drawer_15 ⟨Nat.zero_le _, Nat.zero_le _⟩ (fun r u H locs hq hP hD hS => ?_)
  obtain ⟨rfl, rfl⟩ := hq
  exact ret_i (σ, γ_1) hx hb hr rfl hK hlocks hP hD hS ⟨γ_1, rfl, rfl⟩ dX1_drawer_18

set_option maxHeartbeats 4000000 in
set_option maxRecDepth 100000 in
theorem c_X1_stray (l : Launch) (cI cZ : ClassId) (D : va_G) (ad pl : Nat → Nat) (tb sz : Nat) (σ γ : Sg) (p0 : Int32) (hI : Inv σ) : CtI l yX1_stray wsX1_stray ({ frames := 3, cells := 0, slots := 0, locals := 66 }) cI cZ D ad pl tb sz (WC cI cZ ad) (σ, γ) [.ref (ad 0), .int p0] (fun r u => ∃ γ1, u = (σ, γ1) ∧ r = pickI p0 (stL σ)) := by
  refine Met.ofW (cc := cX1_stray) (maxL := 3) (ret := (some .int)) (by decide) rfl ?_
  intro p e s m args below meth c s₁ B hml hv
  obtain ⟨rfl, hsz, hP, hK, hD0, hZ⟩ := hv
  have hx := B.exec
  have hb := B.bytes
  have hr := B.returns
  have hts := atoms_spec (ws := wsX1_stray) B.pre
  have hown : s.vm.findClass RX1 = some m.cls := findClass_of_methodNamed B.named
  have hlocks := B.notSynchronized
  have hin : ∀ w ∈ wsX10, w ∈ wsX1_stray := fun w h => List.mem_cons_of_mem _ (List.mem_append_right _ h)
  subst hsz
  have hD : va_D (AC ad s.heap.size) (WC cI cZ ad (σ, γ)) := AC_self WAd_c hD0
  have hA : ∀ q : Nat, s.heap.size ≤ q → AC ad s.heap.size q := fun q h => Or.inr h
  have hS : va_S (AC ad s.heap.size) s.heap s.heap [] := va_S.rf
  have hl := lv_entry ([.ref (ad 0), .int p0]) (n := 3) (Nat.le_of_ble_eq_true rfl)
  rw [lg_entry_eq]
  generalize (lg_sl ([.ref (ad 0), .int p0]) ++ List.replicate (3 - (lg_sl ([.ref (ad 0), .int p0])).length) Slot.unset).toArray = ls at hl ⊢
  have hl : lv_has ls 3 [(0, .ref (ad 0)), (1, .int p0)] := hl
  refine lv_aload_n hx hb dX1_stray_0 rfl (lv_at hl 0 rfl) ?_
  refine lv_iconst (v := 0) hx hb dX1_stray_1 (by decide) ?_
  refine va_put (D := D) (ci := 0) (v := .int 0) (ty := .int) (C := RX1) (T := TX1) (N := 15) hx hb hts hin tyX1 tyX1_ok nmX1 hown hK hP hD hS 0 rfl rfl 13 (by decide) (hts (.fieldLink RX1 48 "HandCases" "rowLength" "I") (by decide +kernel)) (fun _ h9 => h9) rfl (by decide +kernel) rfl rfl (Nat.le_of_ble_eq_true rfl) dX1_stray_2 (fun H locs hP hD hS => ?_)
  have hP : va_P D vwCl (WC cI cZ ad (σ, setA γ 1 0 0)) H := hP
  have hD : va_D (AC ad s.heap.size) (WC cI cZ ad (σ, setA γ 1 0 0)) := hD
  refine lv_iconst (v := 0) hx hb dX1_stray_5 (by decide) ?_
  refine lv_istore_n (lv' := [(2, .int 0), (0, .ref (ad 0)), (1, .int p0)]) hx hb dX1_stray_6 rfl hl (by decide) rfl (fun ls hl => ?_)
  refine W_loop (ι := Nat × Sg) 7 (fun (x : Nat × Sg) H locs ls => (x.1 ≤ σ 11 0) ∧ (RowIs x.2 (catN (stF σ) x.1)) ∧ va_P D vwCl (WC cI cZ ad (σ, x.2)) H ∧ va_D (AC ad s.heap.size) (WC cI cZ ad (σ, x.2)) ∧ va_S (AC ad s.heap.size) s.heap H locs ∧ lv_has ls 3 [(0, .ref (ad 0)), (1, .int p0), (2, .int (nI x.1))]) (fun (x : Nat × Sg) => σ 11 0 - x.1) ?_ (0, (setA γ 1 0 0)) _ _ _ ⟨by (try dsimp only); omega, RowIs_nil, hP, hD, hS, lv_as (lv_sub hl [1, 2, 0] rfl) (lv_c rfl (lv_c rfl (lv_c (congrArg Value.int (by rfl)) rfl)))⟩
  intro ⟨i, γ1⟩ H locs ls ⟨h1, h2, hP, hD, hS, hl⟩ ih
  dsimp only at h1 h2 hP hD hl ih
  have b_i := b11 hI
  have e_L := stL_le hI
  have e_M : (stL σ).length = (catN (stF σ) (σ 11 0)).length := rfl
  refine lv_iload_n hx hb dX1_stray_7 rfl (lv_at hl 2 rfl) ?_
  refine lv_aload_n hx hb dX1_stray_8 rfl (lv_at hl 0 rfl) ?_
  refine va_get (D := D) (ci := 0) (v := .int (nI (σ 11 0))) (C := RX1) (T := TX1) (N := 15) hx hb hts hin hown hK hP 0 rfl rfl 11 (by decide) (hts (.fieldLink RX1 42 "HandCases" "items" "I") (by decide +kernel)) (fun _ h9 => h9) rfl dX1_stray_9 ?_
  have b_1 := b11 hI
  refine lv_icmp_ge (tgt := 45) hx hb dX1_stray_12 (by decide) (fun c_2 => ?_) (fun c_2 => ?_)
  · skip
    have c_2 := (cq_le (nI_toInt (by omega)) (nI_toInt (by omega))).mp c_2
    have e9 : catN (stF σ) i = stL σ := congrArg (catN (stF σ)) (by omega)
    rw [e9] at h2
    refine lv_aload_n hx hb dX1_stray_45 rfl (lv_at hl 0 rfl) ?_
    refine lv_iload_n hx hb dX1_stray_46 rfl (lv_at hl 1 rfl) ?_
    refine call_i (As := [.int p0]) (rest := []) WAd_c ⟨hx, hb, hml, hown, hts⟩ (c_X1_inRow l cI cZ D ad pl tb _ σ γ1 p0 (stL σ) h2 e_L) (cwV 1 hts gX1_stray_X1_inRow rfl rfl rfl (by decide +kernel) ⟨Nat.le_of_ble_eq_true rfl, Nat.le_of_ble_eq_true rfl⟩) (va_recv hK hP (ci := 0) (q0 := 0) rfl rfl) hK hP hD hS hA hZ rfl rfl (Nat.le_of_ble_eq_true rfl) hl.1 dX1_stray_47 ⟨Nat.zero_le _, Nat.zero_le _⟩ (fun r u H locs hq hP hD hS => ?_)
    obtain ⟨rfl, rfl⟩ := hq
    exact ret_i (σ, γ1) hx hb hr rfl hK hlocks hP hD hS ⟨γ1, rfl, rfl⟩ dX1_stray_50
  · skip
    have c_2 := mt (cq_le (nI_toInt (by omega)) (nI_toInt (by omega))).mpr c_2
    refine lv_aload_n hx hb dX1_stray_15 rfl (lv_at hl 0 rfl) ?_
    refine lv_iload_n hx hb dX1_stray_16 rfl (lv_at hl 2 rfl) ?_
    refine call_i (As := [.int (nI i)]) (rest := []) WAd_c ⟨hx, hb, hml, hown, hts⟩ (c_X1_leads l cI cZ D ad pl tb _ σ γ1 i hI (by omega)) (cwV 1 hts gX1_stray_X1_leads rfl rfl rfl (by decide +kernel) ⟨Nat.le_of_ble_eq_true rfl, Nat.le_of_ble_eq_true rfl⟩) (va_recv hK hP (ci := 0) (q0 := 0) rfl rfl) hK hP hD hS hA hZ rfl rfl (Nat.le_of_ble_eq_true rfl) hl.1 dX1_stray_17 ⟨Nat.zero_le _, Nat.zero_le _⟩ (fun r u H locs hq hP hD hS => ?_)
    obtain ⟨rfl, rfl⟩ := hq
    refine lv_if_eq (tgt := 39) hx hb dX1_stray_20 (by decide) (fun c_3 => ?_) (fun c_3 => ?_)
    · skip
      have c_3 : ¬ (σ 9 i = 0) := pI_0.mp c_3
      refine lv_iinc (v := nI (i + 1)) (lv' := [(2, .int (nI (i + 1))), (0, .ref (ad 0)), (1, .int p0)]) hx hb dX1_stray_39 hl (k := 2) rfl (nI_add i 1) (by decide) rfl (fun ls hl => ?_)
      refine lv_goto (tgt := 7) hx hb dX1_stray_42 (by decide) ?_
      exact ih (i + 1, γ1) _ _ _ ⟨by (try dsimp only); omega, by (try dsimp only); have e9 : stF σ i = [] := if_neg (by omega); show RowIs _ (catN (stF σ) i ++ stF σ i); rw [e9, List.append_nil]; exact h2, hP, hD, hS, lv_sub hl [1, 2, 0] rfl⟩ (by show σ 11 0 - (i + 1) < σ 11 0 - i; omega)
    · skip
      have c_3 : σ 9 i = 0 := Decidable.not_not.mp (mt pI_0.mpr c_3)
      refine lv_aload_n hx hb dX1_stray_23 rfl (lv_at hl 0 rfl) ?_
      refine lv_iload_n hx hb dX1_stray_24 rfl (lv_at hl 2 rfl) ?_
      refine call_e (As := [.int (nI i)]) (rest := []) WAd_c ⟨hx, hb, hml, hown, hts⟩ (c_X1_placeOf l cI cZ D ad pl tb _ σ γ1 i hI (by omega)) (cwV 1 hts gX1_stray_X1_placeOf rfl rfl rfl (by decide +kernel) ⟨Nat.le_of_ble_eq_true rfl, Nat.le_of_ble_eq_true rfl⟩) (va_recv hK hP (ci := 0) (q0 := 0) rfl rfl) hK hP hD hS hA hZ rfl rfl (Nat.le_of_ble_eq_true rfl) hl.1 dX1_stray_25 ⟨Nat.zero_le _, Nat.zero_le _⟩ (fun r u H locs hq hP hD hS => ?_)
      obtain ⟨rfl, rfl⟩ := hq
      have b_4 := plc_lt σ i
      refine va_gets hx hb hZ.1 hS hown (hts (.fieldLink RX1 163 "HandCases$Place" "STRAY" "LHandCases$Place;") (by decide +kernel)) (fun _ h9 => h9) dX1_stray_28 ?_
      refine lv_acmp_ne (rx := some (pl (plc σ i))) (ry := some (pl 0)) (tgt := 39) hx hb dX1_stray_31 (by decide) (fun c_5 => ?_) (fun c_5 => ?_)
      · skip
        have c_5 : plc σ i ≠ 0 := fun q => c_5 (by rw [q])
        refine lv_iinc (v := nI (i + 1)) (lv' := [(2, .int (nI (i + 1))), (0, .ref (ad 0)), (1, .int p0)]) hx hb dX1_stray_39 hl (k := 2) rfl (nI_add i 1) (by decide) rfl (fun ls hl => ?_)
        refine lv_goto (tgt := 7) hx hb dX1_stray_42 (by decide) ?_
        exact ih (i + 1, γ1) _ _ _ ⟨by (try dsimp only); omega, by (try dsimp only); have e9 : stF σ i = [] := if_neg (by omega); show RowIs _ (catN (stF σ) i ++ stF σ i); rw [e9, List.append_nil]; exact h2, hP, hD, hS, lv_sub hl [1, 2, 0] rfl⟩ (by show σ 11 0 - (i + 1) < σ 11 0 - i; omega)
      · skip
        have c_5 : plc σ i = 0 := hZ.2.2.2.2.2.2.2 _ _ (by omega) (by decide) (Option.some.inj c_5)
        refine lv_aload_n hx hb dX1_stray_34 rfl (lv_at hl 0 rfl) ?_
        refine lv_iload_n hx hb dX1_stray_35 rfl (lv_at hl 2 rfl) ?_
        refine call_v (As := [.int (nI i)]) (rest := []) WAd_c ⟨hx, hb, hml, hown, hts⟩ (c_X1_addBundle l cI cZ D ad pl tb _ σ γ1 i (catN (stF σ) i) hI (by omega) h2 (by have e7 := catN_step (stF σ) (n := σ 11 0) (i := i) (by omega); rw [show stF σ i = _ from if_pos (by omega)] at e7; unfold len; omega)) (cwV 1 hts gX1_stray_X1_addBundle rfl rfl rfl (by decide +kernel) ⟨Nat.le_of_ble_eq_true rfl, Nat.le_of_ble_eq_true rfl⟩) (va_recv hK hP (ci := 0) (q0 := 0) rfl rfl) hK hP hD hS hA hZ rfl rfl (Nat.le_of_ble_eq_true rfl) hl.1 dX1_stray_36 ⟨Nat.zero_le _, Nat.zero_le _⟩ (fun u H locs hq hP hD hS => ?_)
        obtain ⟨γ_6, rfl, hR⟩ := hq
        refine lv_iinc (v := nI (i + 1)) (lv' := [(2, .int (nI (i + 1))), (0, .ref (ad 0)), (1, .int p0)]) hx hb dX1_stray_39 hl (k := 2) rfl (nI_add i 1) (by decide) rfl (fun ls hl => ?_)
        refine lv_goto (tgt := 7) hx hb dX1_stray_42 (by decide) ?_
        exact ih (i + 1, γ_6) _ _ _ ⟨by (try dsimp only); omega, by (try dsimp only); have e9 : stF σ i = _ := if_pos (by omega); show RowIs _ (catN (stF σ) i ++ stF σ i); rw [e9]; exact hR, hP, hD, hS, lv_sub hl [1, 2, 0] rfl⟩ (by show σ 11 0 - (i + 1) < σ 11 0 - i; omega)

set_option maxHeartbeats 4000000 in
set_option maxRecDepth 100000 in
theorem c_X1_teaching (l : Launch) (cI cZ : ClassId) (D : va_G) (ad pl : Nat → Nat) (tb sz : Nat) (σ γ : Sg) (p0 p1 : Int32) (hI : Inv σ) : CtI l yX1_teaching wsX1_teaching ({ frames := 1, cells := 0, slots := 0, locals := 26 }) cI cZ D ad pl tb sz (WC cI cZ ad) (σ, γ) [.ref (ad 0), .int p0, .int p1] (fun r u => r = oTeach σ p0 p1 ∧ u = (σ, γ)) := by
  refine Met.ofW (cc := cX1_teaching) (maxL := 4) (ret := (some .int)) (by decide) rfl ?_
  intro p e s m args below meth c s₁ B hml hv
  obtain ⟨rfl, hsz, hP, hK, hD0, hZ⟩ := hv
  have hx := B.exec
  have hb := B.bytes
  have hr := B.returns
  have hts := atoms_spec (ws := wsX1_teaching) B.pre
  have hown : s.vm.findClass RX1 = some m.cls := findClass_of_methodNamed B.named
  have hlocks := B.notSynchronized
  have hin : ∀ w ∈ wsX10, w ∈ wsX1_teaching := fun w h => List.mem_cons_of_mem _ (List.mem_append_right _ h)
  subst hsz
  have hD : va_D (AC ad s.heap.size) (WC cI cZ ad (σ, γ)) := AC_self WAd_c hD0
  have hA : ∀ q : Nat, s.heap.size ≤ q → AC ad s.heap.size q := fun q h => Or.inr h
  have hS : va_S (AC ad s.heap.size) s.heap s.heap [] := va_S.rf
  have hl := lv_entry ([.ref (ad 0), .int p0, .int p1]) (n := 4) (Nat.le_of_ble_eq_true rfl)
  rw [lg_entry_eq]
  generalize (lg_sl ([.ref (ad 0), .int p0, .int p1]) ++ List.replicate (4 - (lg_sl ([.ref (ad 0), .int p0, .int p1])).length) Slot.unset).toArray = ls at hl ⊢
  have hl : lv_has ls 4 [(0, .ref (ad 0)), (1, .int p0), (2, .int p1)] := hl
  refine lv_aload_n hx hb dX1_teaching_0 rfl (lv_at hl 0 rfl) ?_
  refine lv_iload_n hx hb dX1_teaching_1 rfl (lv_at hl 1 rfl) ?_
  refine call_i (As := [.int p0]) (rest := []) WAd_c ⟨hx, hb, hml, hown, hts⟩ (c_X1_houseByHoles l cI cZ D ad pl tb _ σ γ p0 hI) (cwV 1 hts gX1_teaching_X1_houseByHoles rfl rfl rfl (by decide +kernel) ⟨Nat.le_of_ble_eq_true rfl, Nat.le_of_ble_eq_true rfl⟩) (va_recv hK hP (ci := 0) (q0 := 0) rfl rfl) hK hP hD hS hA hZ rfl rfl (Nat.le_of_ble_eq_true rfl) hl.1 dX1_teaching_2 ⟨Nat.zero_le _, Nat.zero_le _⟩ (fun r u H locs hq hP hD hS => ?_)
  obtain ⟨rfl, rfl⟩ := hq
  by_cases h9 : 0 ≤ p0.toInt ∧ p0.toInt < ((teL σ).length : Int)
  · skip
    obtain ⟨hh, ehh, bhh⟩ : ∃ z, (teL σ).getD p0.toInt.toNat 0 = z ∧ z < 200 := ⟨_, rfl, by obtain ⟨k9, hk9, e9⟩ := teL_mem (getD_mem (L := teL σ) (i := p0.toInt.toNat) (by omega)); rw [e9]; exact b4 hI k9⟩
    refine q_topi (nI hh) (by unfold pickI; rw [if_pos h9, ehh]) ?_
    refine lv_istore_n (lv' := [(3, .int (nI hh)), (0, .ref (ad 0)), (1, .int p0), (2, .int p1)]) hx hb dX1_teaching_5 rfl hl (by decide) rfl (fun ls hl => ?_)
    refine lv_iload_n hx hb dX1_teaching_6 rfl (lv_at hl 0 rfl) ?_
    refine lv_iconst (v := (-1)) hx hb dX1_teaching_7 (by decide) ?_
    refine lv_icmp_ne (tgt := 13) hx hb dX1_teaching_8 (by decide) (fun c_1 => ?_) (fun c_1 => ?_)
    · skip
      have c_1 := mt (cq_eq (nI_toInt (by omega)) (show (-1 : Int32).toInt = (-1 : Int) from by decide)).mpr c_1
      refine lv_iload_n hx hb dX1_teaching_13 rfl (lv_at hl 3 rfl) ?_
      by_cases w_2 : p1 = 0
      · skip
        refine lv_tableIn (off := 26) (tgt := 40) hx hb dX1_teaching_14 (by rw [w_2]; decide) (by rw [w_2]; decide) (by rw [w_2]; rfl) (by decide) ?_
        have w_2 : p1.toInt = 0 := by rw [w_2]; decide
        refine lv_iload_n hx hb dX1_teaching_40 rfl (lv_at hl 0 rfl) ?_
        exact ret_i (σ, γ) hx hb hr rfl hK hlocks hP hD hS ⟨by unfold oTeach; rw [if_pos h9, ehh]; unfold teV; repeat (first | rw [if_pos (by omega)] | rw [if_neg (by omega)]), rfl⟩ dX1_teaching_41
      have w_2 : ¬ p1.toInt = 0 := mt (cq_eq rfl (by decide : (0 : Int32).toInt = 0)).mpr w_2
      by_cases w_3 : p1 = 1
      · skip
        refine lv_tableIn (off := 28) (tgt := 42) hx hb dX1_teaching_14 (by rw [w_3]; decide) (by rw [w_3]; decide) (by rw [w_3]; rfl) (by decide) ?_
        have w_3 : p1.toInt = 1 := by rw [w_3]; decide
        refine lv_aload_n hx hb dX1_teaching_42 rfl (lv_at hl 1 rfl) ?_
        refine va_get (D := D) (ci := 0) (v := .ref (ad 2)) (C := RX1) (T := TX1) (N := 15) hx hb hts hin hown hK hP 0 rfl rfl 2 (by decide) (hts (.fieldLink RX1 13 "HandCases" "holeOf" "[I") (by decide +kernel)) (fun _ h9 => h9) rfl dX1_teaching_43 ?_
        refine lv_iload_n hx hb dX1_teaching_46 rfl (lv_at hl 0 rfl) ?_
        have b_4 := b2 hI hh
        refine q_iald (v := mI (σ 2 hh)) hx hb hK hP 2 0 rfl rfl hh (nI_toInt (by omega)) (by omega) rfl dX1_teaching_47 ?_
        exact ret_i (σ, γ) hx hb hr rfl hK hlocks hP hD hS ⟨by unfold oTeach; rw [if_pos h9, ehh]; unfold teV; repeat (first | rw [if_pos (by omega)] | rw [if_neg (by omega)]), rfl⟩ dX1_teaching_48
      have w_3 : ¬ p1.toInt = 1 := mt (cq_eq rfl (by decide : (1 : Int32).toInt = 1)).mpr w_3
      by_cases w_5 : p1 = 2
      · skip
        refine lv_tableIn (off := 35) (tgt := 49) hx hb dX1_teaching_14 (by rw [w_5]; decide) (by rw [w_5]; decide) (by rw [w_5]; rfl) (by decide) ?_
        have w_5 : p1.toInt = 2 := by rw [w_5]; decide
        refine lv_aload_n hx hb dX1_teaching_49 rfl (lv_at hl 1 rfl) ?_
        refine va_get (D := D) (ci := 0) (v := .ref (ad 1)) (C := RX1) (T := TX1) (N := 15) hx hb hts hin hown hK hP 0 rfl rfl 1 (by decide) (hts (.fieldLink RX1 9 "HandCases" "carrierOf" "[I") (by decide +kernel)) (fun _ h9 => h9) rfl dX1_teaching_50 ?_
        refine lv_iload_n hx hb dX1_teaching_53 rfl (lv_at hl 0 rfl) ?_
        have b_6 := b1 hI hh
        refine q_iald (v := mI (σ 1 hh)) hx hb hK hP 1 0 rfl rfl hh (nI_toInt (by omega)) (by omega) rfl dX1_teaching_54 ?_
        exact ret_i (σ, γ) hx hb hr rfl hK hlocks hP hD hS ⟨by unfold oTeach; rw [if_pos h9, ehh]; unfold teV; repeat (first | rw [if_pos (by omega)] | rw [if_neg (by omega)]), rfl⟩ dX1_teaching_55
      have w_5 : ¬ p1.toInt = 2 := mt (cq_eq rfl (by decide : (2 : Int32).toInt = 2)).mpr w_5
      refine lv_tableOut (tgt := 56) hx hb dX1_teaching_14 (by rw [show (p1 : Int32).toInt = _ from rfl]; omega) (by decide) ?_
      refine lv_bipush (v := (-2)) hx hb dX1_teaching_56 (by decide) ?_
      exact ret_i (σ, γ) hx hb hr rfl hK hlocks hP hD hS ⟨by unfold oTeach; rw [if_pos h9, ehh]; unfold teV; repeat (first | rw [if_pos (by omega)] | rw [if_neg (by omega)]), rfl⟩ dX1_teaching_58
    · skip
      have c_1 := (cq_eq (nI_toInt (by omega)) (show (-1 : Int32).toInt = (-1 : Int) from by decide)).mp c_1
      exfalso; omega
  · skip
    refine q_topi (-1) (by unfold pickI; rw [if_neg h9]) ?_
    refine lv_istore_n (lv' := [(3, .int (-1)), (0, .ref (ad 0)), (1, .int p0), (2, .int p1)]) hx hb dX1_teaching_5 rfl hl (by decide) rfl (fun ls hl => ?_)
    refine lv_iload_n hx hb dX1_teaching_6 rfl (lv_at hl 0 rfl) ?_
    refine lv_iconst (v := (-1)) hx hb dX1_teaching_7 (by decide) ?_
    refine lv_icmp_ne (tgt := 13) hx hb dX1_teaching_8 (by decide) (fun c_7 => ?_) (fun c_7 => ?_)
    · skip
      have c_7 := mt (cq_eq (show (-1 : Int32).toInt = (-1 : Int) from by decide) (show (-1 : Int32).toInt = (-1 : Int) from by decide)).mpr c_7
      exfalso; omega
    · skip
      have c_7 := (cq_eq (show (-1 : Int32).toInt = (-1 : Int) from by decide) (show (-1 : Int32).toInt = (-1 : Int) from by decide)).mp c_7
      refine lv_iconst (v := (-1)) hx hb dX1_teaching_11 (by decide) ?_
      exact ret_i (σ, γ) hx hb hr rfl hK hlocks hP hD hS ⟨by unfold oTeach; rw [if_neg h9], rfl⟩ dX1_teaching_12

