set_option maxHeartbeats 4000000 in
set_option maxRecDepth 100000 in
theorem c_X2_in (l : Launch) (cI cZ : ClassId) (D : va_G) (ad pl : Nat → Nat) (tb sz : Nat) (σ δ : Sg) (w0 : Int32) (p0 p1 p2 : Int32)  : CtI l yX2_in wsX2_in ({ frames := 0, cells := 0, slots := 0, locals := 0 }) cI cZ D ad pl tb sz (WM cI cZ ad) (σ, δ, w0) [.int p0, .int p1, .int p2] (fun r u => r = pI (p1.toInt ≤ p0.toInt ∧ p0.toInt ≤ p2.toInt) ∧ u = (σ, δ, w0)) := by
  refine Met.ofW (cc := cX2_in) (maxL := 3) (ret := (some .boolean)) (by decide) rfl ?_
  intro p e s m args below meth c s₁ B hml hv
  obtain ⟨rfl, hsz, hP, hK, hD0, hZ⟩ := hv
  have hx := B.exec
  have hb := B.bytes
  have hr := B.returns
  have hts := atoms_spec (ws := wsX2_in) B.pre
  have hown : s.vm.findClass RX2 = some m.cls := findClass_of_methodNamed B.named
  have hlocks := B.notSynchronized
  subst hsz
  have hD : va_D (AC ad s.heap.size) (WM cI cZ ad (σ, δ, w0)) := AC_self WAd_m hD0
  have hA : ∀ q : Nat, s.heap.size ≤ q → AC ad s.heap.size q := fun q h => Or.inr h
  have hS : va_S (AC ad s.heap.size) s.heap s.heap [] := va_S.rf
  have hl := lv_entry ([.int p0, .int p1, .int p2]) (n := 3) (Nat.le_of_ble_eq_true rfl)
  rw [lg_entry_eq]
  generalize (lg_sl ([.int p0, .int p1, .int p2]) ++ List.replicate (3 - (lg_sl ([.int p0, .int p1, .int p2])).length) Slot.unset).toArray = ls at hl ⊢
  have hl : lv_has ls 3 [(0, .int p0), (1, .int p1), (2, .int p2)] := hl
  refine lv_iload_n hx hb dX2_in_0 rfl (lv_at hl 0 rfl) ?_
  refine lv_iload_n hx hb dX2_in_1 rfl (lv_at hl 1 rfl) ?_
  refine lv_icmp_lt (tgt := 14) hx hb dX2_in_2 (by decide) (fun c_1 => ?_) (fun c_1 => ?_)
  · skip
    have c_1 := (cq_lt rfl rfl).mp c_1
    refine lv_iconst (v := 0) hx hb dX2_in_14 (by decide) ?_
    exact ret_i (σ, δ, w0) hx hb hr rfl hK hlocks hP hD hS ⟨pI_f (by omega), rfl⟩ dX2_in_15
  · skip
    have c_1 := mt (cq_lt rfl rfl).mpr c_1
    refine lv_iload_n hx hb dX2_in_5 rfl (lv_at hl 0 rfl) ?_
    refine lv_iload_n hx hb dX2_in_6 rfl (lv_at hl 2 rfl) ?_
    refine lv_icmp_gt (tgt := 14) hx hb dX2_in_7 (by decide) (fun c_2 => ?_) (fun c_2 => ?_)
    · skip
      have c_2 := (cq_lt rfl rfl).mp c_2
      refine lv_iconst (v := 0) hx hb dX2_in_14 (by decide) ?_
      exact ret_i (σ, δ, w0) hx hb hr rfl hK hlocks hP hD hS ⟨pI_f (by omega), rfl⟩ dX2_in_15
    · skip
      have c_2 := mt (cq_lt rfl rfl).mpr c_2
      refine lv_iconst (v := 1) hx hb dX2_in_10 (by decide) ?_
      refine lv_goto (tgt := 15) hx hb dX2_in_11 (by decide) ?_
      exact ret_i (σ, δ, w0) hx hb hr rfl hK hlocks hP hD hS ⟨pI_t (by omega), rfl⟩ dX2_in_15

set_option maxHeartbeats 4000000 in
set_option maxRecDepth 100000 in
theorem c_X2_isHouse (l : Launch) (cI cZ : ClassId) (D : va_G) (ad pl : Nat → Nat) (tb sz : Nat) (σ δ : Sg) (w0 : Int32) (p0 : Int32) (hI : Inv σ) : CtI l yX2_isHouse wsX2_isHouse ({ frames := 1, cells := 0, slots := 0, locals := 22 }) cI cZ D ad pl tb sz (WM cI cZ ad) (σ, δ, w0) [.ref (ad 0), .int p0] (fun r u => r = pI (isH σ p0) ∧ u = (σ, δ, w0)) := by
  refine Met.ofW (cc := cX2_isHouse) (maxL := 2) (ret := (some .boolean)) (by decide) rfl ?_
  intro p e s m args below meth c s₁ B hml hv
  obtain ⟨rfl, hsz, hP, hK, hD0, hZ⟩ := hv
  have hx := B.exec
  have hb := B.bytes
  have hr := B.returns
  have hts := atoms_spec (ws := wsX2_isHouse) B.pre
  have hown : s.vm.findClass RX2 = some m.cls := findClass_of_methodNamed B.named
  have hlocks := B.notSynchronized
  have hin : ∀ w ∈ wsX20, w ∈ wsX2_isHouse := fun w h => List.mem_cons_of_mem _ (List.mem_append_right _ h)
  subst hsz
  have hD : va_D (AC ad s.heap.size) (WM cI cZ ad (σ, δ, w0)) := AC_self WAd_m hD0
  have hA : ∀ q : Nat, s.heap.size ≤ q → AC ad s.heap.size q := fun q h => Or.inr h
  have hS : va_S (AC ad s.heap.size) s.heap s.heap [] := va_S.rf
  have hl := lv_entry ([.ref (ad 0), .int p0]) (n := 2) (Nat.le_of_ble_eq_true rfl)
  rw [lg_entry_eq]
  generalize (lg_sl ([.ref (ad 0), .int p0]) ++ List.replicate (2 - (lg_sl ([.ref (ad 0), .int p0])).length) Slot.unset).toArray = ls at hl ⊢
  have hl : lv_has ls 2 [(0, .ref (ad 0)), (1, .int p0)] := hl
  refine lv_iload_n hx hb dX2_isHouse_0 rfl (lv_at hl 1 rfl) ?_
  refine lv_iconst (v := 0) hx hb dX2_isHouse_1 (by decide) ?_
  refine lv_sipush (v := 199) hx hb dX2_isHouse_2 (by decide) ?_
  refine call_si (As := [.int p0, .int 0, .int 199]) (rest := []) WAd_m ⟨hx, hb, hml, hown, hts⟩ (c_X2_in l cI cZ D ad pl tb _ σ δ w0 p0 0 199) (va_cwS 3 hts gX2_isHouse_X2_in rfl rfl rfl (by decide +kernel) ⟨Nat.le_of_ble_eq_true rfl, Nat.le_of_ble_eq_true rfl⟩) hK hP hD hS hA hZ rfl rfl (Nat.le_of_ble_eq_true rfl) hl.1 dX2_isHouse_5 ⟨Nat.zero_le _, Nat.zero_le _⟩ (fun r u H locs hq hP hD hS => ?_)
  obtain ⟨rfl, rfl⟩ := hq
  refine lv_if_eq (tgt := 24) hx hb dX2_isHouse_8 (by decide) (fun c_1 => ?_) (fun c_1 => ?_)
  · skip
    have c_1 : ¬ ((0 : Int32).toInt ≤ (p0 : Int32).toInt ∧ (p0 : Int32).toInt ≤ (199 : Int32).toInt) := pI_0.mp c_1
    have c_1 : ¬ ((0 : Int) ≤ p0.toInt ∧ p0.toInt ≤ (199 : Int)) := mt (in_c rfl (show (0 : Int32).toInt = (0 : Int) from by decide) (show (199 : Int32).toInt = (199 : Int) from by decide)).mpr c_1
    refine lv_iconst (v := 0) hx hb dX2_isHouse_24 (by decide) ?_
    exact ret_i (σ, δ, w0) hx hb hr rfl hK hlocks hP hD hS ⟨pI_f (by omega), rfl⟩ dX2_isHouse_25
  · skip
    have c_1 : (0 : Int32).toInt ≤ (p0 : Int32).toInt ∧ (p0 : Int32).toInt ≤ (199 : Int32).toInt := Decidable.not_not.mp (mt pI_0.mpr c_1)
    have c_1 : (0 : Int) ≤ p0.toInt ∧ p0.toInt ≤ (199 : Int) := (in_c rfl (show (0 : Int32).toInt = (0 : Int) from by decide) (show (199 : Int32).toInt = (199 : Int) from by decide)).mp c_1
    refine lv_aload_n hx hb dX2_isHouse_11 rfl (lv_at hl 0 rfl) ?_
    refine va_get (D := D) (ci := 1) (v := .ref (ad 1)) (C := RX2) (T := TX2) (N := 19) hx hb hts hin hown hK hP 0 rfl rfl 3 (by decide) (hts (.fieldLink RX2 7 "HandCasesModel" "carrierOf" "[I") (by decide +kernel)) (fun _ h9 => h9) rfl dX2_isHouse_12 ?_
    refine lv_iload_n hx hb dX2_isHouse_15 rfl (lv_at hl 1 rfl) ?_
    have b_2 := b1 hI p0.toInt.toNat
    refine q_iald (v := mI (σ 1 p0.toInt.toNat)) hx hb hK hP 1 0 rfl rfl p0.toInt.toNat (by omega) (by omega) rfl dX2_isHouse_16 ?_
    refine lv_if_lt (tgt := 24) hx hb dX2_isHouse_17 (by decide) (fun c_3 => ?_) (fun c_3 => ?_)
    · skip
      have c_3 := (cq_lt (mI_toInt (by omega)) (show (0 : Int32).toInt = (0 : Int) from by decide)).mp c_3
      refine lv_iconst (v := 0) hx hb dX2_isHouse_24 (by decide) ?_
      exact ret_i (σ, δ, w0) hx hb hr rfl hK hlocks hP hD hS ⟨pI_f (by omega), rfl⟩ dX2_isHouse_25
    · skip
      have c_3 := mt (cq_lt (mI_toInt (by omega)) (show (0 : Int32).toInt = (0 : Int) from by decide)).mpr c_3
      refine lv_iconst (v := 1) hx hb dX2_isHouse_20 (by decide) ?_
      refine lv_goto (tgt := 25) hx hb dX2_isHouse_21 (by decide) ?_
      exact ret_i (σ, δ, w0) hx hb hr rfl hK hlocks hP hD hS ⟨pI_t (by omega), rfl⟩ dX2_isHouse_25

set_option maxHeartbeats 4000000 in
set_option maxRecDepth 100000 in
theorem c_X2_isItem (l : Launch) (cI cZ : ClassId) (D : va_G) (ad pl : Nat → Nat) (tb sz : Nat) (σ δ : Sg) (w0 : Int32) (p0 : Int32) (hI : Inv σ) : CtI l yX2_isItem wsX2_isItem ({ frames := 1, cells := 0, slots := 0, locals := 22 }) cI cZ D ad pl tb sz (WM cI cZ ad) (σ, δ, w0) [.ref (ad 0), .int p0] (fun r u => r = pI (0 ≤ p0.toInt ∧ p0.toInt < (σ 11 0 : Nat)) ∧ u = (σ, δ, w0)) := by
  refine Met.ofW (cc := cX2_isItem) (maxL := 2) (ret := (some .boolean)) (by decide) rfl ?_
  intro p e s m args below meth c s₁ B hml hv
  obtain ⟨rfl, hsz, hP, hK, hD0, hZ⟩ := hv
  have hx := B.exec
  have hb := B.bytes
  have hr := B.returns
  have hts := atoms_spec (ws := wsX2_isItem) B.pre
  have hown : s.vm.findClass RX2 = some m.cls := findClass_of_methodNamed B.named
  have hlocks := B.notSynchronized
  have hin : ∀ w ∈ wsX20, w ∈ wsX2_isItem := fun w h => List.mem_cons_of_mem _ (List.mem_append_right _ h)
  subst hsz
  have hD : va_D (AC ad s.heap.size) (WM cI cZ ad (σ, δ, w0)) := AC_self WAd_m hD0
  have hA : ∀ q : Nat, s.heap.size ≤ q → AC ad s.heap.size q := fun q h => Or.inr h
  have hS : va_S (AC ad s.heap.size) s.heap s.heap [] := va_S.rf
  have hl := lv_entry ([.ref (ad 0), .int p0]) (n := 2) (Nat.le_of_ble_eq_true rfl)
  rw [lg_entry_eq]
  generalize (lg_sl ([.ref (ad 0), .int p0]) ++ List.replicate (2 - (lg_sl ([.ref (ad 0), .int p0])).length) Slot.unset).toArray = ls at hl ⊢
  have hl : lv_has ls 2 [(0, .ref (ad 0)), (1, .int p0)] := hl
  have b_i := b11 hI
  refine lv_iload_n hx hb dX2_isItem_0 rfl (lv_at hl 1 rfl) ?_
  refine lv_iconst (v := 0) hx hb dX2_isItem_1 (by decide) ?_
  refine lv_aload_n hx hb dX2_isItem_2 rfl (lv_at hl 0 rfl) ?_
  refine va_get (D := D) (ci := 1) (v := .int (nI (σ 11 0))) (C := RX2) (T := TX2) (N := 19) hx hb hts hin hown hK hP 0 rfl rfl 8 (by decide) (hts (.fieldLink RX2 55 "HandCasesModel" "items" "I") (by decide +kernel)) (fun _ h9 => h9) rfl dX2_isItem_3 ?_
  have b_1 := b11 hI
  refine lv_iconst (v := 1) hx hb dX2_isItem_6 (by decide) ?_
  refine lv_isub hx hb dX2_isItem_7 ?_
  refine q_topi (mI (σ 11 0)) rfl ?_
  refine call_si (As := [.int p0, .int 0, .int (mI (σ 11 0))]) (rest := []) WAd_m ⟨hx, hb, hml, hown, hts⟩ (c_X2_in l cI cZ D ad pl tb _ σ δ w0 p0 0 (mI (σ 11 0))) (va_cwS 3 hts gX2_isItem_X2_in rfl rfl rfl (by decide +kernel) ⟨Nat.le_of_ble_eq_true rfl, Nat.le_of_ble_eq_true rfl⟩) hK hP hD hS hA hZ rfl rfl (Nat.le_of_ble_eq_true rfl) hl.1 dX2_isItem_8 ⟨Nat.zero_le _, Nat.zero_le _⟩ (fun r u H locs hq hP hD hS => ?_)
  obtain ⟨rfl, rfl⟩ := hq
  exact ret_i (σ, δ, w0) hx hb hr pI_nar hK hlocks hP hD hS ⟨pI_congr ((in_c rfl (show (0 : Int32).toInt = (0 : Int) from by decide) (mI_toInt (by omega))).trans (by omega)), rfl⟩ dX2_isItem_11

set_option maxHeartbeats 4000000 in
set_option maxRecDepth 100000 in
theorem c_X2_house (l : Launch) (cI cZ : ClassId) (D : va_G) (ad pl : Nat → Nat) (tb sz : Nat) (σ δ : Sg) (w0 : Int32) (p0 p1 : Int32) (hI : Inv σ) : CtI l yX2_house wsX2_house ({ frames := 1, cells := 0, slots := 0, locals := 22 }) cI cZ D ad pl tb sz (WM cI cZ ad) (σ, δ, w0) [.ref (ad 0), .int p0, .int p1] (fun r u => ∃ δ1 w1, u = ((oHouse σ p0 p1).2, δ1, w1) ∧ r = (oHouse σ p0 p1).1) := by
  refine Met.ofW (cc := cX2_house) (maxL := 3) (ret := (some .int)) (by decide) rfl ?_
  intro p e s m args below meth c s₁ B hml hv
  obtain ⟨rfl, hsz, hP, hK, hD0, hZ⟩ := hv
  have hx := B.exec
  have hb := B.bytes
  have hr := B.returns
  have hts := atoms_spec (ws := wsX2_house) B.pre
  have hown : s.vm.findClass RX2 = some m.cls := findClass_of_methodNamed B.named
  have hlocks := B.notSynchronized
  have hin : ∀ w ∈ wsX20, w ∈ wsX2_house := fun w h => List.mem_cons_of_mem _ (List.mem_append_right _ h)
  subst hsz
  have hD : va_D (AC ad s.heap.size) (WM cI cZ ad (σ, δ, w0)) := AC_self WAd_m hD0
  have hA : ∀ q : Nat, s.heap.size ≤ q → AC ad s.heap.size q := fun q h => Or.inr h
  have hS : va_S (AC ad s.heap.size) s.heap s.heap [] := va_S.rf
  have hl := lv_entry ([.ref (ad 0), .int p0, .int p1]) (n := 3) (Nat.le_of_ble_eq_true rfl)
  rw [lg_entry_eq]
  generalize (lg_sl ([.ref (ad 0), .int p0, .int p1]) ++ List.replicate (3 - (lg_sl ([.ref (ad 0), .int p0, .int p1])).length) Slot.unset).toArray = ls at hl ⊢
  have hl : lv_has ls 3 [(0, .ref (ad 0)), (1, .int p0), (2, .int p1)] := hl
  refine lv_aload_n hx hb dX2_house_0 rfl (lv_at hl 0 rfl) ?_
  refine lv_iconst (v := 0) hx hb dX2_house_1 (by decide) ?_
  refine va_put (D := D) (ci := 1) (v := .int 0) (ty := .int) (C := RX2) (T := TX2) (N := 19) hx hb hts hin tyX2 tyX2_ok nmX2 hown hK hP hD hS 0 rfl rfl 1 (by decide) (hts (.fieldLink RX2 48 "HandCasesModel" "fault" "I") (by decide +kernel)) (fun _ h9 => h9) rfl (by decide +kernel) rfl rfl (Nat.le_of_ble_eq_true rfl) dX2_house_2 (fun H locs hP hD hS => ?_)
  have hP : va_P D vwCl (WM cI cZ ad (σ, setA δ 0 0 0, w0)) H := hP
  have hD : va_D (AC ad s.heap.size) (WM cI cZ ad (σ, setA δ 0 0 0, w0)) := hD
  refine lv_iload_n hx hb dX2_house_5 rfl (lv_at hl 1 rfl) ?_
  refine lv_iconst (v := 0) hx hb dX2_house_6 (by decide) ?_
  refine lv_iconst (v := 3) hx hb dX2_house_7 (by decide) ?_
  refine call_si (As := [.int p0, .int 0, .int 3]) (rest := []) WAd_m ⟨hx, hb, hml, hown, hts⟩ (c_X2_in l cI cZ D ad pl tb _ σ (setA δ 0 0 0) w0 p0 0 3) (va_cwS 3 hts gX2_house_X2_in rfl rfl rfl (by decide +kernel) ⟨Nat.le_of_ble_eq_true rfl, Nat.le_of_ble_eq_true rfl⟩) hK hP hD hS hA hZ rfl rfl (Nat.le_of_ble_eq_true rfl) hl.1 dX2_house_8 ⟨Nat.zero_le _, Nat.zero_le _⟩ (fun r u H locs hq hP hD hS => ?_)
  obtain ⟨rfl, rfl⟩ := hq
  refine lv_if_ne (tgt := 16) hx hb dX2_house_11 (by decide) (fun c_1 => ?_) (fun c_1 => ?_)
  · skip
    have c_1 : (0 : Int32).toInt ≤ (p0 : Int32).toInt ∧ (p0 : Int32).toInt ≤ (3 : Int32).toInt := Decidable.not_not.mp (mt pI_0.mpr c_1)
    have c_1 : (0 : Int) ≤ p0.toInt ∧ p0.toInt ≤ (3 : Int) := (in_c rfl (show (0 : Int32).toInt = (0 : Int) from by decide) (show (3 : Int32).toInt = (3 : Int) from by decide)).mp c_1
    refine lv_iload_n hx hb dX2_house_16 rfl (lv_at hl 2 rfl) ?_
    refine lv_iconst (v := 0) hx hb dX2_house_17 (by decide) ?_
    refine lv_sipush (v := 199) hx hb dX2_house_18 (by decide) ?_
    refine call_si (As := [.int p1, .int 0, .int 199]) (rest := []) WAd_m ⟨hx, hb, hml, hown, hts⟩ (c_X2_in l cI cZ D ad pl tb _ σ (setA δ 0 0 0) w0 p1 0 199) (va_cwS 3 hts gX2_house_X2_in rfl rfl rfl (by decide +kernel) ⟨Nat.le_of_ble_eq_true rfl, Nat.le_of_ble_eq_true rfl⟩) hK hP hD hS hA hZ rfl rfl (Nat.le_of_ble_eq_true rfl) hl.1 dX2_house_21 ⟨Nat.zero_le _, Nat.zero_le _⟩ (fun r u H locs hq hP hD hS => ?_)
    obtain ⟨rfl, rfl⟩ := hq
    refine lv_if_ne (tgt := 30) hx hb dX2_house_24 (by decide) (fun c_2 => ?_) (fun c_2 => ?_)
    · skip
      have c_2 : (0 : Int32).toInt ≤ (p1 : Int32).toInt ∧ (p1 : Int32).toInt ≤ (199 : Int32).toInt := Decidable.not_not.mp (mt pI_0.mpr c_2)
      have c_2 : (0 : Int) ≤ p1.toInt ∧ p1.toInt ≤ (199 : Int) := (in_c rfl (show (0 : Int32).toInt = (0 : Int) from by decide) (show (199 : Int32).toInt = (199 : Int) from by decide)).mp c_2
      obtain ⟨c0, e_c0, -, rfl⟩ := i_nat (p := p0) (by omega)
      obtain ⟨h0, e_h0, -, rfl⟩ := i_nat (p := p1) (by omega)
      have b_5 := b5 hI
      have b_s := I_rs hI (c := c0) (by omega)
      refine lv_aload_n hx hb dX2_house_30 rfl (lv_at hl 0 rfl) ?_
      refine va_get (D := D) (ci := 1) (v := .ref (ad 1)) (C := RX2) (T := TX2) (N := 19) hx hb hts hin hown hK hP 0 rfl rfl 3 (by decide) (hts (.fieldLink RX2 7 "HandCasesModel" "carrierOf" "[I") (by decide +kernel)) (fun _ h9 => h9) rfl dX2_house_31 ?_
      refine lv_iload_n hx hb dX2_house_34 rfl (lv_at hl 2 rfl) ?_
      have b_3 := b1 hI h0
      refine q_iald (v := mI (σ 1 h0)) hx hb hK hP 1 0 rfl rfl h0 (nI_toInt (by omega)) (by omega) rfl dX2_house_35 ?_
      refine lv_if_lt (tgt := 42) hx hb dX2_house_36 (by decide) (fun c_4 => ?_) (fun c_4 => ?_)
      · skip
        have c_4 := (cq_lt (mI_toInt (by omega)) (show (0 : Int32).toInt = (0 : Int) from by decide)).mp c_4
        refine lv_aload_n hx hb dX2_house_42 rfl (lv_at hl 0 rfl) ?_
        refine va_get (D := D) (ci := 1) (v := .int (nI (σ 5 0))) (C := RX2) (T := TX2) (N := 19) hx hb hts hin hown hK hP 0 rfl rfl 2 (by decide) (hts (.fieldLink RX2 58 "HandCasesModel" "houses" "I") (by decide +kernel)) (fun _ h9 => h9) rfl dX2_house_43 ?_
        have b_5 := b5 hI
        refine lv_bipush (v := 60) hx hb dX2_house_46 (by decide) ?_
        refine lv_icmp_ne (tgt := 54) hx hb dX2_house_48 (by decide) (fun c_6 => ?_) (fun c_6 => ?_)
        · skip
          have c_6 := mt (cq_eq (nI_toInt (by omega)) (show (60 : Int32).toInt = (60 : Int) from by decide)).mpr c_6
          refine lv_aload_n hx hb dX2_house_54 rfl (lv_at hl 0 rfl) ?_
          refine lv_dup hx hb dX2_house_55 rfl ?_
          refine va_get (D := D) (ci := 1) (v := .int (nI (σ 5 0))) (C := RX2) (T := TX2) (N := 19) hx hb hts hin hown hK hP 0 rfl rfl 2 (by decide) (hts (.fieldLink RX2 58 "HandCasesModel" "houses" "I") (by decide +kernel)) (fun _ h9 => h9) rfl dX2_house_56 ?_
          have b_7 := b5 hI
          refine lv_iconst (v := 1) hx hb dX2_house_59 (by decide) ?_
          refine lv_iadd hx hb dX2_house_60 ?_
          refine q_topi (nI ((σ 5 0) + 1)) (nI_add (σ 5 0) 1) ?_
          refine va_put (D := D) (ci := 1) (v := .int (nI ((σ 5 0) + 1))) (ty := .int) (C := RX2) (T := TX2) (N := 19) hx hb hts hin tyX2 tyX2_ok nmX2 hown hK hP hD hS 0 rfl rfl 2 (by decide) (hts (.fieldLink RX2 58 "HandCasesModel" "houses" "I") (by decide +kernel)) (fun _ h9 => h9) rfl (by decide +kernel) rfl rfl (Nat.le_of_ble_eq_true rfl) dX2_house_61 (fun H locs hP hD hS => ?_)
          have hP : va_P D vwCl (WM cI cZ ad (setA σ 5 0 ((σ 5 0) + 1), setA δ 0 0 0, w0)) H := hP
          have hD : va_D (AC ad s.heap.size) (WM cI cZ ad (setA σ 5 0 ((σ 5 0) + 1), setA δ 0 0 0, w0)) := hD
          refine lv_aload_n hx hb dX2_house_64 rfl (lv_at hl 0 rfl) ?_
          refine va_get (D := D) (ci := 1) (v := .ref (ad 1)) (C := RX2) (T := TX2) (N := 19) hx hb hts hin hown hK hP 0 rfl rfl 3 (by decide) (hts (.fieldLink RX2 7 "HandCasesModel" "carrierOf" "[I") (by decide +kernel)) (fun _ h9 => h9) rfl dX2_house_65 ?_
          refine lv_iload_n hx hb dX2_house_68 rfl (lv_at hl 2 rfl) ?_
          refine lv_iload_n hx hb dX2_house_69 rfl (lv_at hl 1 rfl) ?_
          refine q_iast (ws2 := WM cI cZ ad (setA (setA σ 5 0 ((σ 5 0) + 1)) 1 h0 (c0 + 1), setA δ 0 0 0, w0)) hx hb hK hP hD hS 1 0 rfl rfl h0 (nI_toInt (by omega)) (by omega) (by rw [← mI_s]; exact updM) rfl dX2_house_70 (fun H locs hP hD hS => ?_)
          refine lv_aload_n hx hb dX2_house_71 rfl (lv_at hl 0 rfl) ?_
          refine va_get (D := D) (ci := 1) (v := .ref (ad 4)) (C := RX2) (T := TX2) (N := 19) hx hb hts hin hown hK hP 0 rfl rfl 6 (by decide) (hts (.fieldLink RX2 20 "HandCasesModel" "round" "[I") (by decide +kernel)) (fun _ h9 => h9) rfl dX2_house_72 ?_
          refine lv_bipush (v := 60) hx hb dX2_house_75 (by decide) ?_
          refine lv_iload_n hx hb dX2_house_77 rfl (lv_at hl 1 rfl) ?_
          refine lv_imul hx hb dX2_house_78 ?_
          refine q_topi (nI (60 * c0)) (pk_mul 60 c0) ?_
          refine lv_aload_n hx hb dX2_house_79 rfl (lv_at hl 0 rfl) ?_
          refine va_get (D := D) (ci := 1) (v := .ref (ad 5)) (C := RX2) (T := TX2) (N := 19) hx hb hts hin hown hK hP 0 rfl rfl 7 (by decide) (hts (.fieldLink RX2 23 "HandCasesModel" "roundSize" "[I") (by decide +kernel)) (fun _ h9 => h9) rfl dX2_house_80 ?_
          refine lv_iload_n hx hb dX2_house_83 rfl (lv_at hl 1 rfl) ?_
          have b_8 := b13 hI c0
          refine q_iald (v := nI (σ 13 c0)) hx hb hK hP 5 0 rfl rfl c0 (nI_toInt (by omega)) (by omega) rfl dX2_house_84 ?_
          refine lv_iadd hx hb dX2_house_85 ?_
          refine q_topi (nI ((60 * c0) + (σ 13 c0))) (nI_add (60 * c0) (σ 13 c0)) ?_
          refine lv_iload_n hx hb dX2_house_86 rfl (lv_at hl 2 rfl) ?_
          refine q_iast (ws2 := WM cI cZ ad (setA (setA (setA σ 5 0 ((σ 5 0) + 1)) 1 h0 (c0 + 1)) 12 ((60 * c0) + (σ 13 c0)) h0, setA δ 0 0 0, w0)) hx hb hK hP hD hS 4 0 rfl rfl ((60 * c0) + (σ 13 c0)) (nI_toInt (by omega)) (by omega) updN rfl dX2_house_87 (fun H locs hP hD hS => ?_)
          refine lv_aload_n hx hb dX2_house_88 rfl (lv_at hl 0 rfl) ?_
          refine va_get (D := D) (ci := 1) (v := .ref (ad 5)) (C := RX2) (T := TX2) (N := 19) hx hb hts hin hown hK hP 0 rfl rfl 7 (by decide) (hts (.fieldLink RX2 23 "HandCasesModel" "roundSize" "[I") (by decide +kernel)) (fun _ h9 => h9) rfl dX2_house_89 ?_
          refine lv_iload_n hx hb dX2_house_92 rfl (lv_at hl 1 rfl) ?_
          refine lv_dup2_11 hx hb dX2_house_93 rfl rfl ?_
          have b_9 := b13 hI c0
          refine q_iald (v := nI (σ 13 c0)) hx hb hK hP 5 0 rfl rfl c0 (nI_toInt (by omega)) (by omega) rfl dX2_house_94 ?_
          refine lv_iconst (v := 1) hx hb dX2_house_95 (by decide) ?_
          refine lv_iadd hx hb dX2_house_96 ?_
          refine q_topi (nI ((σ 13 c0) + 1)) (nI_add (σ 13 c0) 1) ?_
          refine q_iast (ws2 := WM cI cZ ad (setA (setA (setA (setA σ 5 0 ((σ 5 0) + 1)) 1 h0 (c0 + 1)) 12 ((60 * c0) + (σ 13 c0)) h0) 13 c0 ((σ 13 c0) + 1), setA δ 0 0 0, w0)) hx hb hK hP hD hS 5 0 rfl rfl c0 (nI_toInt (by omega)) (by omega) updN rfl dX2_house_97 (fun H locs hP hD hS => ?_)
          have hI2 : Inv (uHouse σ c0 h0) := I_house hI (by omega) (by omega) (by omega) (by omega)
          have hP : va_P D vwCl (WM cI cZ ad (uHouse σ c0 h0, setA δ 0 0 0, w0)) H := hP
          have hD : va_D (AC ad s.heap.size) (WM cI cZ ad (uHouse σ c0 h0, setA δ 0 0 0, w0)) := hD
          refine lv_aload_n hx hb dX2_house_98 rfl (lv_at hl 0 rfl) ?_
          refine va_get (D := D) (ci := 1) (v := .ref (ad 5)) (C := RX2) (T := TX2) (N := 19) hx hb hts hin hown hK hP 0 rfl rfl 7 (by decide) (hts (.fieldLink RX2 23 "HandCasesModel" "roundSize" "[I") (by decide +kernel)) (fun _ h9 => h9) rfl dX2_house_99 ?_
          refine lv_iload_n hx hb dX2_house_102 rfl (lv_at hl 1 rfl) ?_
          have b_10 := b13 hI2 c0
          refine q_iald (v := nI ((uHouse σ c0 h0) 13 c0)) hx hb hK hP 5 0 rfl rfl c0 (nI_toInt (by omega)) (by omega) rfl dX2_house_103 ?_
          have eo : oHouse σ (nI c0) (nI h0) = (nI (sumN (cF (uHouse σ c0 h0) c0) ((uHouse σ c0 h0) 5 0)), uHouse σ c0 h0) := by unfold oHouse; simp only [e_c0, e_h0, Int.toNat_natCast]; repeat (first | rw [if_pos (by omega)] | rw [if_neg (by omega)])
          exact ret_i (uHouse σ c0 h0, setA δ 0 0 0, w0) hx hb hr rfl hK hlocks hP hD hS ⟨setA δ 0 0 0, w0, by rw [eo], by rw [eo]; exact congrArg nI (hI2.2.2.1 c0 (by omega)).1⟩ dX2_house_104
        · skip
          have c_6 := (cq_eq (nI_toInt (by omega)) (show (60 : Int32).toInt = (60 : Int) from by decide)).mp c_6
          refine lv_bipush (v := (-4)) hx hb dX2_house_51 (by decide) ?_
          have eo : oHouse σ (nI c0) (nI h0) = ((-4), σ) := by unfold oHouse; simp only [e_c0, e_h0, Int.toNat_natCast]; repeat (first | rw [if_pos (by omega)] | rw [if_neg (by omega)])
          exact ret_i (σ, setA δ 0 0 0, w0) hx hb hr rfl hK hlocks hP hD hS ⟨setA δ 0 0 0, w0, by rw [eo], by rw [eo]⟩ dX2_house_53
      · skip
        have c_4 := mt (cq_lt (mI_toInt (by omega)) (show (0 : Int32).toInt = (0 : Int) from by decide)).mpr c_4
        refine lv_bipush (v := (-3)) hx hb dX2_house_39 (by decide) ?_
        have eo : oHouse σ (nI c0) (nI h0) = ((-3), σ) := by unfold oHouse; simp only [e_c0, e_h0, Int.toNat_natCast]; repeat (first | rw [if_pos (by omega)] | rw [if_neg (by omega)])
        exact ret_i (σ, setA δ 0 0 0, w0) hx hb hr rfl hK hlocks hP hD hS ⟨setA δ 0 0 0, w0, by rw [eo], by rw [eo]⟩ dX2_house_41
    · skip
      have c_2 : ¬ ((0 : Int32).toInt ≤ (p1 : Int32).toInt ∧ (p1 : Int32).toInt ≤ (199 : Int32).toInt) := pI_0.mp c_2
      have c_2 : ¬ ((0 : Int) ≤ p1.toInt ∧ p1.toInt ≤ (199 : Int)) := mt (in_c rfl (show (0 : Int32).toInt = (0 : Int) from by decide) (show (199 : Int32).toInt = (199 : Int) from by decide)).mpr c_2
      refine lv_bipush (v := (-2)) hx hb dX2_house_27 (by decide) ?_
      have eo : oHouse σ p0 p1 = ((-2), σ) := by unfold oHouse; repeat (first | rw [if_pos (by omega)] | rw [if_neg (by omega)])
      exact ret_i (σ, setA δ 0 0 0, w0) hx hb hr rfl hK hlocks hP hD hS ⟨setA δ 0 0 0, w0, by rw [eo], by rw [eo]⟩ dX2_house_29
  · skip
    have c_1 : ¬ ((0 : Int32).toInt ≤ (p0 : Int32).toInt ∧ (p0 : Int32).toInt ≤ (3 : Int32).toInt) := pI_0.mp c_1
    have c_1 : ¬ ((0 : Int) ≤ p0.toInt ∧ p0.toInt ≤ (3 : Int)) := mt (in_c rfl (show (0 : Int32).toInt = (0 : Int) from by decide) (show (3 : Int32).toInt = (3 : Int) from by decide)).mpr c_1
    refine lv_iconst (v := (-1)) hx hb dX2_house_14 (by decide) ?_
    have eo : oHouse σ p0 p1 = ((-1), σ) := by unfold oHouse; repeat (first | rw [if_pos (by omega)] | rw [if_neg (by omega)])
    exact ret_i (σ, setA δ 0 0 0, w0) hx hb hr rfl hK hlocks hP hD hS ⟨setA δ 0 0 0, w0, by rw [eo], by rw [eo]⟩ dX2_house_15

set_option maxHeartbeats 4000000 in
set_option maxRecDepth 100000 in
theorem c_X2_point (l : Launch) (cI cZ : ClassId) (D : va_G) (ad pl : Nat → Nat) (tb sz : Nat) (σ δ : Sg) (w0 : Int32) (p0 p1 : Int32) (hI : Inv σ) : CtI l yX2_point wsX2_point ({ frames := 2, cells := 0, slots := 0, locals := 43 }) cI cZ D ad pl tb sz (WM cI cZ ad) (σ, δ, w0) [.ref (ad 0), .int p0, .int p1] (fun r u => ∃ δ1 w1, u = ((oPoint σ p0 p1).2, δ1, w1) ∧ r = (oPoint σ p0 p1).1) := by
  refine Met.ofW (cc := cX2_point) (maxL := 5) (ret := (some .int)) (by decide) rfl ?_
  intro p e s m args below meth c s₁ B hml hv
  obtain ⟨rfl, hsz, hP, hK, hD0, hZ⟩ := hv
  have hx := B.exec
  have hb := B.bytes
  have hr := B.returns
  have hts := atoms_spec (ws := wsX2_point) B.pre
  have hown : s.vm.findClass RX2 = some m.cls := findClass_of_methodNamed B.named
  have hlocks := B.notSynchronized
  have hin : ∀ w ∈ wsX20, w ∈ wsX2_point := fun w h => List.mem_cons_of_mem _ (List.mem_append_right _ h)
  subst hsz
  have hD : va_D (AC ad s.heap.size) (WM cI cZ ad (σ, δ, w0)) := AC_self WAd_m hD0
  have hA : ∀ q : Nat, s.heap.size ≤ q → AC ad s.heap.size q := fun q h => Or.inr h
  have hS : va_S (AC ad s.heap.size) s.heap s.heap [] := va_S.rf
  have hl := lv_entry ([.ref (ad 0), .int p0, .int p1]) (n := 5) (Nat.le_of_ble_eq_true rfl)
  rw [lg_entry_eq]
  generalize (lg_sl ([.ref (ad 0), .int p0, .int p1]) ++ List.replicate (5 - (lg_sl ([.ref (ad 0), .int p0, .int p1])).length) Slot.unset).toArray = ls at hl ⊢
  have hl : lv_has ls 5 [(0, .ref (ad 0)), (1, .int p0), (2, .int p1)] := hl
  refine lv_aload_n hx hb dX2_point_0 rfl (lv_at hl 0 rfl) ?_
  refine lv_iconst (v := 0) hx hb dX2_point_1 (by decide) ?_
  refine va_put (D := D) (ci := 1) (v := .int 0) (ty := .int) (C := RX2) (T := TX2) (N := 19) hx hb hts hin tyX2 tyX2_ok nmX2 hown hK hP hD hS 0 rfl rfl 1 (by decide) (hts (.fieldLink RX2 48 "HandCasesModel" "fault" "I") (by decide +kernel)) (fun _ h9 => h9) rfl (by decide +kernel) rfl rfl (Nat.le_of_ble_eq_true rfl) dX2_point_2 (fun H locs hP hD hS => ?_)
  have hP : va_P D vwCl (WM cI cZ ad (σ, setA δ 0 0 0, w0)) H := hP
  have hD : va_D (AC ad s.heap.size) (WM cI cZ ad (σ, setA δ 0 0 0, w0)) := hD
  refine lv_aload_n hx hb dX2_point_5 rfl (lv_at hl 0 rfl) ?_
  refine lv_iload_n hx hb dX2_point_6 rfl (lv_at hl 1 rfl) ?_
  refine call_i (As := [.int p0]) (rest := []) WAd_m ⟨hx, hb, hml, hown, hts⟩ (c_X2_isHouse l cI cZ D ad pl tb _ σ (setA δ 0 0 0) w0 p0 hI) (cwV 1 hts gX2_point_X2_isHouse rfl rfl rfl (by decide +kernel) ⟨Nat.le_of_ble_eq_true rfl, Nat.le_of_ble_eq_true rfl⟩) (va_recv hK hP (ci := 1) (q0 := 0) rfl rfl) hK hP hD hS hA hZ rfl rfl (Nat.le_of_ble_eq_true rfl) hl.1 dX2_point_7 ⟨Nat.zero_le _, Nat.zero_le _⟩ (fun r u H locs hq hP hD hS => ?_)
  obtain ⟨rfl, rfl⟩ := hq
  refine lv_if_ne (tgt := 15) hx hb dX2_point_10 (by decide) (fun c_1 => ?_) (fun c_1 => ?_)
  · skip
    have c_1 : 0 ≤ p0.toInt ∧ p0.toInt < 200 ∧ σ 1 p0.toInt.toNat ≠ 0 := Decidable.not_not.mp (mt pI_0.mpr c_1)
    have b_0 := b0 hI
    refine lv_iload_n hx hb dX2_point_15 rfl (lv_at hl 2 rfl) ?_
    refine lv_iconst (v := 0) hx hb dX2_point_16 (by decide) ?_
    refine lv_aload_n hx hb dX2_point_17 rfl (lv_at hl 0 rfl) ?_
    refine va_get (D := D) (ci := 1) (v := .int (nI (σ 0 0))) (C := RX2) (T := TX2) (N := 19) hx hb hts hin hown hK hP 0 rfl rfl 0 (by decide) (hts (.fieldLink RX2 44 "HandCasesModel" "holes" "I") (by decide +kernel)) (fun _ h9 => h9) rfl dX2_point_18 ?_
    have b_2 := b0 hI
    refine lv_iconst (v := 1) hx hb dX2_point_21 (by decide) ?_
    refine lv_isub hx hb dX2_point_22 ?_
    refine q_topi (mI (σ 0 0)) rfl ?_
    refine call_si (As := [.int p1, .int 0, .int (mI (σ 0 0))]) (rest := []) WAd_m ⟨hx, hb, hml, hown, hts⟩ (c_X2_in l cI cZ D ad pl tb _ σ (setA δ 0 0 0) w0 p1 0 (mI (σ 0 0))) (va_cwS 3 hts gX2_point_X2_in rfl rfl rfl (by decide +kernel) ⟨Nat.le_of_ble_eq_true rfl, Nat.le_of_ble_eq_true rfl⟩) hK hP hD hS hA hZ rfl rfl (Nat.le_of_ble_eq_true rfl) hl.1 dX2_point_23 ⟨Nat.zero_le _, Nat.zero_le _⟩ (fun r u H locs hq hP hD hS => ?_)
    obtain ⟨rfl, rfl⟩ := hq
    refine lv_if_ne (tgt := 32) hx hb dX2_point_26 (by decide) (fun c_3 => ?_) (fun c_3 => ?_)
    · skip
      have c_3 : (0 : Int32).toInt ≤ (p1 : Int32).toInt ∧ (p1 : Int32).toInt ≤ (mI (σ 0 0) : Int32).toInt := Decidable.not_not.mp (mt pI_0.mpr c_3)
      have c_3 : (0 : Int) ≤ p1.toInt ∧ p1.toInt ≤ (((σ 0 0) : Nat) : Int) - 1 := (in_c rfl (show (0 : Int32).toInt = (0 : Int) from by decide) (mI_toInt (by omega))).mp c_3
      obtain ⟨h0, e_h0, -, rfl⟩ := i_nat (p := p0) (by omega)
      obtain ⟨g0, e_g0, -, rfl⟩ := i_nat (p := p1) (by omega)
      simp only [e_h0, e_g0, Int.toNat_natCast] at c_1
      refine lv_aload_n hx hb dX2_point_32 rfl (lv_at hl 0 rfl) ?_
      refine va_get (D := D) (ci := 1) (v := .ref (ad 2)) (C := RX2) (T := TX2) (N := 19) hx hb hts hin hown hK hP 0 rfl rfl 4 (by decide) (hts (.fieldLink RX2 13 "HandCasesModel" "holeOf" "[I") (by decide +kernel)) (fun _ h9 => h9) rfl dX2_point_33 ?_
      refine lv_iload_n hx hb dX2_point_36 rfl (lv_at hl 1 rfl) ?_
      refine lv_iload_n hx hb dX2_point_37 rfl (lv_at hl 2 rfl) ?_
      refine q_iast (ws2 := WM cI cZ ad (setA σ 2 h0 (g0 + 1), setA δ 0 0 0, w0)) hx hb hK hP hD hS 2 0 rfl rfl h0 (nI_toInt (by omega)) (by omega) (by rw [← mI_s]; exact updM) rfl dX2_point_38 (fun H locs hP hD hS => ?_)
      have hI2 : Inv (uPoint σ h0 g0) := I_point hI (by omega) (by omega) (by omega)
      have hP : va_P D vwCl (WM cI cZ ad (uPoint σ h0 g0, setA δ 0 0 0, w0)) H := hP
      have hD : va_D (AC ad s.heap.size) (WM cI cZ ad (uPoint σ h0 g0, setA δ 0 0 0, w0)) := hD
      refine lv_iconst (v := 0) hx hb dX2_point_39 (by decide) ?_
      refine lv_istore_n (lv' := [(3, .int 0), (0, .ref (ad 0)), (1, .int (nI h0)), (2, .int (nI g0))]) hx hb dX2_point_40 rfl hl (by decide) rfl (fun ls hl => ?_)
      refine lv_iconst (v := 0) hx hb dX2_point_41 (by decide) ?_
      refine lv_istore (lv' := [(4, .int 0), (3, .int 0), (0, .ref (ad 0)), (1, .int (nI h0)), (2, .int (nI g0))]) hx hb dX2_point_42 hl (by decide) rfl (fun ls hl => ?_)
      refine W_loop (ι := Nat) 44 (fun (i : Nat) H locs ls => (i ≤ 200) ∧ va_P D vwCl (WM cI cZ ad (uPoint σ h0 g0, setA δ 0 0 0, w0)) H ∧ va_D (AC ad s.heap.size) (WM cI cZ ad (uPoint σ h0 g0, setA δ 0 0 0, w0)) ∧ va_S (AC ad s.heap.size) s.heap H locs ∧ lv_has ls 5 [(0, .ref (ad 0)), (1, .int (nI h0)), (2, .int (nI g0)), (3, .int (nI (sumN (h2F (uPoint σ h0 g0) g0) i))), (4, .int (nI i))]) (fun (i : Nat) => 200 - i) ?_ 0 _ _ _ ⟨by omega, hP, hD, hS, lv_as (lv_sub hl [2, 3, 4, 1, 0] rfl) (lv_c rfl (lv_c rfl (lv_c rfl (lv_c (congrArg Value.int (by rfl)) (lv_c (congrArg Value.int (by rfl)) rfl)))))⟩
      intro i H locs ls ⟨h1, hP, hD, hS, hl⟩ ih
      refine lv_iload hx hb dX2_point_44 (lv_at hl 4 rfl) ?_
      refine lv_sipush (v := 200) hx hb dX2_point_46 (by decide) ?_
      refine lv_icmp_ge (tgt := 77) hx hb dX2_point_49 (by decide) (fun c_4 => ?_) (fun c_4 => ?_)
      · skip
        have c_4 := (cq_le (show (200 : Int32).toInt = (200 : Int) from by decide) (nI_toInt (by omega))).mp c_4
        refine lv_iload_n hx hb dX2_point_77 rfl (lv_at hl 3 rfl) ?_
        have eo : oPoint σ (nI h0) (nI g0) = (nI (sumN (hF (uPoint σ h0 g0) g0) ((uPoint σ h0 g0) 5 0)), uPoint σ h0 g0) := by unfold oPoint; simp only [e_h0, e_g0, Int.toNat_natCast]; repeat (first | rw [if_pos (by omega)] | rw [if_neg (by omega)])
        exact ret_i (uPoint σ h0 g0, setA δ 0 0 0, w0) hx hb hr rfl hK hlocks hP hD hS ⟨setA δ 0 0 0, w0, by rw [eo], by rw [eo]; exact (by rw [show i = 200 from by omega]; exact congrArg nI (P_point hI2 g0))⟩ dX2_point_78
      · skip
        have c_4 := mt (cq_le (show (200 : Int32).toInt = (200 : Int) from by decide) (nI_toInt (by omega))).mpr c_4
        refine lv_aload_n hx hb dX2_point_52 rfl (lv_at hl 0 rfl) ?_
        refine va_get (D := D) (ci := 1) (v := .ref (ad 2)) (C := RX2) (T := TX2) (N := 19) hx hb hts hin hown hK hP 0 rfl rfl 4 (by decide) (hts (.fieldLink RX2 13 "HandCasesModel" "holeOf" "[I") (by decide +kernel)) (fun _ h9 => h9) rfl dX2_point_53 ?_
        refine lv_iload hx hb dX2_point_56 (lv_at hl 4 rfl) ?_
        have b_5 := b2 hI2 i
        refine q_iald (v := mI ((uPoint σ h0 g0) 2 i)) hx hb hK hP 2 0 rfl rfl i (nI_toInt (by omega)) (by omega) rfl dX2_point_58 ?_
        refine lv_iload_n hx hb dX2_point_59 rfl (lv_at hl 2 rfl) ?_
        refine lv_icmp_ne (tgt := 69) hx hb dX2_point_60 (by decide) (fun c_6 => ?_) (fun c_6 => ?_)
        · skip
          have c_6 := mt (cq_eq (mI_toInt (by omega)) (nI_toInt (by omega))).mpr c_6
          refine lv_iload_n hx hb dX2_point_69 rfl (lv_at hl 3 rfl) ?_
          refine lv_istore_n (lv' := [(3, .int (nI (sumN (h2F (uPoint σ h0 g0) g0) i))), (0, .ref (ad 0)), (1, .int (nI h0)), (2, .int (nI g0)), (4, .int (nI i))]) hx hb dX2_point_70 rfl hl (by decide) rfl (fun ls hl => ?_)
          refine lv_iinc (v := nI (i + 1)) (lv' := [(4, .int (nI (i + 1))), (3, .int (nI (sumN (h2F (uPoint σ h0 g0) g0) i))), (0, .ref (ad 0)), (1, .int (nI h0)), (2, .int (nI g0))]) hx hb dX2_point_71 hl (k := 4) rfl (nI_add i 1) (by decide) rfl (fun ls hl => ?_)
          refine lv_goto (tgt := 44) hx hb dX2_point_74 (by decide) ?_
          exact ih (i + 1) _ _ _ ⟨by omega, hP, hD, hS, lv_as (lv_sub hl [2, 3, 4, 1, 0] rfl) (lv_c rfl (lv_c rfl (lv_c rfl (lv_c (congrArg Value.int (congrArg nI (by have e9 : h2F (uPoint σ h0 g0) g0 i = 0 := if_neg (by omega); show _ = sumN (h2F (uPoint σ h0 g0) g0) i + h2F (uPoint σ h0 g0) g0 i; omega))) (lv_c rfl rfl)))))⟩ (by omega)
        · skip
          have c_6 := (cq_eq (mI_toInt (by omega)) (nI_toInt (by omega))).mp c_6
          refine lv_iload_n hx hb dX2_point_63 rfl (lv_at hl 3 rfl) ?_
          refine lv_iconst (v := 1) hx hb dX2_point_64 (by decide) ?_
          refine lv_iadd hx hb dX2_point_65 ?_
          refine q_topi (nI ((sumN (h2F (uPoint σ h0 g0) g0) i) + 1)) (nI_add (sumN (h2F (uPoint σ h0 g0) g0) i) 1) ?_
          refine lv_goto (tgt := 70) hx hb dX2_point_66 (by decide) ?_
          refine lv_istore_n (lv' := [(3, .int (nI ((sumN (h2F (uPoint σ h0 g0) g0) i) + 1))), (0, .ref (ad 0)), (1, .int (nI h0)), (2, .int (nI g0)), (4, .int (nI i))]) hx hb dX2_point_70 rfl hl (by decide) rfl (fun ls hl => ?_)
          refine lv_iinc (v := nI (i + 1)) (lv' := [(4, .int (nI (i + 1))), (3, .int (nI ((sumN (h2F (uPoint σ h0 g0) g0) i) + 1))), (0, .ref (ad 0)), (1, .int (nI h0)), (2, .int (nI g0))]) hx hb dX2_point_71 hl (k := 4) rfl (nI_add i 1) (by decide) rfl (fun ls hl => ?_)
          refine lv_goto (tgt := 44) hx hb dX2_point_74 (by decide) ?_
          exact ih (i + 1) _ _ _ ⟨by omega, hP, hD, hS, lv_as (lv_sub hl [2, 3, 4, 1, 0] rfl) (lv_c rfl (lv_c rfl (lv_c rfl (lv_c (congrArg Value.int (congrArg nI (by have e9 : h2F (uPoint σ h0 g0) g0 i = 1 := if_pos (by omega); show _ = sumN (h2F (uPoint σ h0 g0) g0) i + h2F (uPoint σ h0 g0) g0 i; omega))) (lv_c rfl rfl)))))⟩ (by omega)
    · skip
      have c_3 : ¬ ((0 : Int32).toInt ≤ (p1 : Int32).toInt ∧ (p1 : Int32).toInt ≤ (mI (σ 0 0) : Int32).toInt) := pI_0.mp c_3
      have c_3 : ¬ ((0 : Int) ≤ p1.toInt ∧ p1.toInt ≤ (((σ 0 0) : Nat) : Int) - 1) := mt (in_c rfl (show (0 : Int32).toInt = (0 : Int) from by decide) (mI_toInt (by omega))).mpr c_3
      refine lv_bipush (v := (-2)) hx hb dX2_point_29 (by decide) ?_
      have eo : oPoint σ p0 p1 = ((-2), σ) := by unfold oPoint; repeat (first | rw [if_pos (by omega)] | rw [if_neg (by omega)])
      exact ret_i (σ, setA δ 0 0 0, w0) hx hb hr rfl hK hlocks hP hD hS ⟨setA δ 0 0 0, w0, by rw [eo], by rw [eo]⟩ dX2_point_31
  · skip
    have c_1 : ¬ (0 ≤ p0.toInt ∧ p0.toInt < 200 ∧ σ 1 p0.toInt.toNat ≠ 0) := pI_0.mp c_1
    refine lv_iconst (v := (-1)) hx hb dX2_point_13 (by decide) ?_
    have eo : oPoint σ p0 p1 = ((-1), σ) := by unfold oPoint; repeat (first | rw [if_pos (by omega)] | rw [if_neg (by omega)])
    exact ret_i (σ, setA δ 0 0 0, w0) hx hb hr rfl hK hlocks hP hD hS ⟨setA δ 0 0 0, w0, by rw [eo], by rw [eo]⟩ dX2_point_14

set_option maxHeartbeats 4000000 in
set_option maxRecDepth 100000 in
theorem c_X2_item (l : Launch) (cI cZ : ClassId) (D : va_G) (ad pl : Nat → Nat) (tb sz : Nat) (σ δ : Sg) (w0 : Int32) (p0 p1 : Int32) (hI : Inv σ) : CtI l yX2_item wsX2_item ({ frames := 1, cells := 0, slots := 0, locals := 22 }) cI cZ D ad pl tb sz (WM cI cZ ad) (σ, δ, w0) [.ref (ad 0), .int p0, .int p1] (fun r u => ∃ δ1 w1, u = ((oItem σ p0 p1).2, δ1, w1) ∧ r = (oItem σ p0 p1).1) := by
  refine Met.ofW (cc := cX2_item) (maxL := 3) (ret := (some .int)) (by decide) rfl ?_
  intro p e s m args below meth c s₁ B hml hv
  obtain ⟨rfl, hsz, hP, hK, hD0, hZ⟩ := hv
  have hx := B.exec
  have hb := B.bytes
  have hr := B.returns
  have hts := atoms_spec (ws := wsX2_item) B.pre
  have hown : s.vm.findClass RX2 = some m.cls := findClass_of_methodNamed B.named
  have hlocks := B.notSynchronized
  have hin : ∀ w ∈ wsX20, w ∈ wsX2_item := fun w h => List.mem_cons_of_mem _ (List.mem_append_right _ h)
  subst hsz
  have hD : va_D (AC ad s.heap.size) (WM cI cZ ad (σ, δ, w0)) := AC_self WAd_m hD0
  have hA : ∀ q : Nat, s.heap.size ≤ q → AC ad s.heap.size q := fun q h => Or.inr h
  have hS : va_S (AC ad s.heap.size) s.heap s.heap [] := va_S.rf
  have hl := lv_entry ([.ref (ad 0), .int p0, .int p1]) (n := 3) (Nat.le_of_ble_eq_true rfl)
  rw [lg_entry_eq]
  generalize (lg_sl ([.ref (ad 0), .int p0, .int p1]) ++ List.replicate (3 - (lg_sl ([.ref (ad 0), .int p0, .int p1])).length) Slot.unset).toArray = ls at hl ⊢
  have hl : lv_has ls 3 [(0, .ref (ad 0)), (1, .int p0), (2, .int p1)] := hl
  refine lv_aload_n hx hb dX2_item_0 rfl (lv_at hl 0 rfl) ?_
  refine lv_iconst (v := 0) hx hb dX2_item_1 (by decide) ?_
  refine va_put (D := D) (ci := 1) (v := .int 0) (ty := .int) (C := RX2) (T := TX2) (N := 19) hx hb hts hin tyX2 tyX2_ok nmX2 hown hK hP hD hS 0 rfl rfl 1 (by decide) (hts (.fieldLink RX2 48 "HandCasesModel" "fault" "I") (by decide +kernel)) (fun _ h9 => h9) rfl (by decide +kernel) rfl rfl (Nat.le_of_ble_eq_true rfl) dX2_item_2 (fun H locs hP hD hS => ?_)
  have hP : va_P D vwCl (WM cI cZ ad (σ, setA δ 0 0 0, w0)) H := hP
  have hD : va_D (AC ad s.heap.size) (WM cI cZ ad (σ, setA δ 0 0 0, w0)) := hD
  refine lv_iload_n hx hb dX2_item_5 rfl (lv_at hl 1 rfl) ?_
  refine lv_iconst (v := 0) hx hb dX2_item_6 (by decide) ?_
  refine lv_sipush (v := 199) hx hb dX2_item_7 (by decide) ?_
  refine call_si (As := [.int p0, .int 0, .int 199]) (rest := []) WAd_m ⟨hx, hb, hml, hown, hts⟩ (c_X2_in l cI cZ D ad pl tb _ σ (setA δ 0 0 0) w0 p0 0 199) (va_cwS 3 hts gX2_item_X2_in rfl rfl rfl (by decide +kernel) ⟨Nat.le_of_ble_eq_true rfl, Nat.le_of_ble_eq_true rfl⟩) hK hP hD hS hA hZ rfl rfl (Nat.le_of_ble_eq_true rfl) hl.1 dX2_item_10 ⟨Nat.zero_le _, Nat.zero_le _⟩ (fun r u H locs hq hP hD hS => ?_)
  obtain ⟨rfl, rfl⟩ := hq
  refine lv_if_eq (tgt := 25) hx hb dX2_item_13 (by decide) (fun c_1 => ?_) (fun c_1 => ?_)
  · skip
    have c_1 : ¬ ((0 : Int32).toInt ≤ (p0 : Int32).toInt ∧ (p0 : Int32).toInt ≤ (199 : Int32).toInt) := pI_0.mp c_1
    have c_1 : ¬ ((0 : Int) ≤ p0.toInt ∧ p0.toInt ≤ (199 : Int)) := mt (in_c rfl (show (0 : Int32).toInt = (0 : Int) from by decide) (show (199 : Int32).toInt = (199 : Int) from by decide)).mpr c_1
    refine lv_bipush (v := (-2)) hx hb dX2_item_25 (by decide) ?_
    have eo : oItem σ p0 p1 = ((-2), σ) := by unfold oItem; repeat (first | rw [if_pos (by omega)] | rw [if_neg (by omega)])
    exact ret_i (σ, setA δ 0 0 0, w0) hx hb hr rfl hK hlocks hP hD hS ⟨setA δ 0 0 0, w0, by rw [eo], by rw [eo]⟩ dX2_item_27
  · skip
    have c_1 : (0 : Int32).toInt ≤ (p0 : Int32).toInt ∧ (p0 : Int32).toInt ≤ (199 : Int32).toInt := Decidable.not_not.mp (mt pI_0.mpr c_1)
    have c_1 : (0 : Int) ≤ p0.toInt ∧ p0.toInt ≤ (199 : Int) := (in_c rfl (show (0 : Int32).toInt = (0 : Int) from by decide) (show (199 : Int32).toInt = (199 : Int) from by decide)).mp c_1
    refine lv_iload_n hx hb dX2_item_16 rfl (lv_at hl 2 rfl) ?_
    refine lv_iconst (v := 0) hx hb dX2_item_17 (by decide) ?_
    refine lv_iconst (v := 2) hx hb dX2_item_18 (by decide) ?_
    refine call_si (As := [.int p1, .int 0, .int 2]) (rest := []) WAd_m ⟨hx, hb, hml, hown, hts⟩ (c_X2_in l cI cZ D ad pl tb _ σ (setA δ 0 0 0) w0 p1 0 2) (va_cwS 3 hts gX2_item_X2_in rfl rfl rfl (by decide +kernel) ⟨Nat.le_of_ble_eq_true rfl, Nat.le_of_ble_eq_true rfl⟩) hK hP hD hS hA hZ rfl rfl (Nat.le_of_ble_eq_true rfl) hl.1 dX2_item_19 ⟨Nat.zero_le _, Nat.zero_le _⟩ (fun r u H locs hq hP hD hS => ?_)
    obtain ⟨rfl, rfl⟩ := hq
    refine lv_if_ne (tgt := 28) hx hb dX2_item_22 (by decide) (fun c_2 => ?_) (fun c_2 => ?_)
    · skip
      have c_2 : (0 : Int32).toInt ≤ (p1 : Int32).toInt ∧ (p1 : Int32).toInt ≤ (2 : Int32).toInt := Decidable.not_not.mp (mt pI_0.mpr c_2)
      have c_2 : (0 : Int) ≤ p1.toInt ∧ p1.toInt ≤ (2 : Int) := (in_c rfl (show (0 : Int32).toInt = (0 : Int) from by decide) (show (2 : Int32).toInt = (2 : Int) from by decide)).mp c_2
      have b_i := b11 hI
      refine lv_aload_n hx hb dX2_item_28 rfl (lv_at hl 0 rfl) ?_
      refine va_get (D := D) (ci := 1) (v := .int (nI (σ 11 0))) (C := RX2) (T := TX2) (N := 19) hx hb hts hin hown hK hP 0 rfl rfl 8 (by decide) (hts (.fieldLink RX2 55 "HandCasesModel" "items" "I") (by decide +kernel)) (fun _ h9 => h9) rfl dX2_item_29 ?_
      have b_3 := b11 hI
      refine lv_sipush (v := 250) hx hb dX2_item_32 (by decide) ?_
      refine lv_icmp_ne (tgt := 41) hx hb dX2_item_35 (by decide) (fun c_4 => ?_) (fun c_4 => ?_)
      · skip
        have c_4 := mt (cq_eq (nI_toInt (by omega)) (show (250 : Int32).toInt = (250 : Int) from by decide)).mpr c_4
        obtain ⟨n0, e_n0, -, rfl⟩ := i_nat (p := p0) (by omega)
        obtain ⟨k0, e_k0, -, rfl⟩ := i_nat (p := p1) (by omega)
        refine lv_aload_n hx hb dX2_item_41 rfl (lv_at hl 0 rfl) ?_
        refine va_get (D := D) (ci := 1) (v := .ref (ad 6)) (C := RX2) (T := TX2) (N := 19) hx hb hts hin hown hK hP 0 rfl rfl 9 (by decide) (hts (.fieldLink RX2 26 "HandCasesModel" "number" "[I") (by decide +kernel)) (fun _ h9 => h9) rfl dX2_item_42 ?_
        refine lv_aload_n hx hb dX2_item_45 rfl (lv_at hl 0 rfl) ?_
        refine va_get (D := D) (ci := 1) (v := .int (nI (σ 11 0))) (C := RX2) (T := TX2) (N := 19) hx hb hts hin hown hK hP 0 rfl rfl 8 (by decide) (hts (.fieldLink RX2 55 "HandCasesModel" "items" "I") (by decide +kernel)) (fun _ h9 => h9) rfl dX2_item_46 ?_
        have b_5 := b11 hI
        refine lv_iload_n hx hb dX2_item_49 rfl (lv_at hl 1 rfl) ?_
        refine q_iast (ws2 := WM cI cZ ad (setA σ 6 (σ 11 0) n0, setA δ 0 0 0, w0)) hx hb hK hP hD hS 6 0 rfl rfl (σ 11 0) (nI_toInt (by omega)) (by omega) updN rfl dX2_item_50 (fun H locs hP hD hS => ?_)
        refine lv_aload_n hx hb dX2_item_51 rfl (lv_at hl 0 rfl) ?_
        refine va_get (D := D) (ci := 1) (v := .ref (ad 7)) (C := RX2) (T := TX2) (N := 19) hx hb hts hin hown hK hP 0 rfl rfl 10 (by decide) (hts (.fieldLink RX2 29 "HandCasesModel" "kind" "[I") (by decide +kernel)) (fun _ h9 => h9) rfl dX2_item_52 ?_
        refine lv_aload_n hx hb dX2_item_55 rfl (lv_at hl 0 rfl) ?_
        refine va_get (D := D) (ci := 1) (v := .int (nI (σ 11 0))) (C := RX2) (T := TX2) (N := 19) hx hb hts hin hown hK hP 0 rfl rfl 8 (by decide) (hts (.fieldLink RX2 55 "HandCasesModel" "items" "I") (by decide +kernel)) (fun _ h9 => h9) rfl dX2_item_56 ?_
        have b_6 := b11 hI
        refine lv_iload_n hx hb dX2_item_59 rfl (lv_at hl 2 rfl) ?_
        refine q_iast (ws2 := WM cI cZ ad (setA (setA σ 6 (σ 11 0) n0) 7 (σ 11 0) k0, setA δ 0 0 0, w0)) hx hb hK hP hD hS 7 0 rfl rfl (σ 11 0) (nI_toInt (by omega)) (by omega) updN rfl dX2_item_60 (fun H locs hP hD hS => ?_)
        refine lv_aload_n hx hb dX2_item_61 rfl (lv_at hl 0 rfl) ?_
        refine va_get (D := D) (ci := 1) (v := .ref (ad 8)) (C := RX2) (T := TX2) (N := 19) hx hb hts hin hown hK hP 0 rfl rfl 11 (by decide) (hts (.fieldLink RX2 32 "HandCasesModel" "told" "[I") (by decide +kernel)) (fun _ h9 => h9) rfl dX2_item_62 ?_
        refine lv_aload_n hx hb dX2_item_65 rfl (lv_at hl 0 rfl) ?_
        refine va_get (D := D) (ci := 1) (v := .int (nI (σ 11 0))) (C := RX2) (T := TX2) (N := 19) hx hb hts hin hown hK hP 0 rfl rfl 8 (by decide) (hts (.fieldLink RX2 55 "HandCasesModel" "items" "I") (by decide +kernel)) (fun _ h9 => h9) rfl dX2_item_66 ?_
        have b_7 := b11 hI
        refine lv_iconst (v := (-1)) hx hb dX2_item_69 (by decide) ?_
        refine q_iast (ws2 := WM cI cZ ad (setA (setA (setA σ 6 (σ 11 0) n0) 7 (σ 11 0) k0) 8 (σ 11 0) 0, setA δ 0 0 0, w0)) hx hb hK hP hD hS 8 0 rfl rfl (σ 11 0) (nI_toInt (by omega)) (by omega) (by rw [show ((-1) : Int32) = mI 0 from by decide]; exact updM) rfl dX2_item_70 (fun H locs hP hD hS => ?_)
        refine lv_aload_n hx hb dX2_item_71 rfl (lv_at hl 0 rfl) ?_
        refine va_get (D := D) (ci := 1) (v := .ref (ad 9)) (C := RX2) (T := TX2) (N := 19) hx hb hts hin hown hK hP 0 rfl rfl 12 (by decide) (hts (.fieldLink RX2 35 "HandCasesModel" "next" "[I") (by decide +kernel)) (fun _ h9 => h9) rfl dX2_item_72 ?_
        refine lv_aload_n hx hb dX2_item_75 rfl (lv_at hl 0 rfl) ?_
        refine va_get (D := D) (ci := 1) (v := .int (nI (σ 11 0))) (C := RX2) (T := TX2) (N := 19) hx hb hts hin hown hK hP 0 rfl rfl 8 (by decide) (hts (.fieldLink RX2 55 "HandCasesModel" "items" "I") (by decide +kernel)) (fun _ h9 => h9) rfl dX2_item_76 ?_
        have b_8 := b11 hI
        refine lv_iconst (v := (-1)) hx hb dX2_item_79 (by decide) ?_
        refine q_iast (ws2 := WM cI cZ ad (setA (setA (setA (setA σ 6 (σ 11 0) n0) 7 (σ 11 0) k0) 8 (σ 11 0) 0) 10 (σ 11 0) 0, setA δ 0 0 0, w0)) hx hb hK hP hD hS 9 0 rfl rfl (σ 11 0) (nI_toInt (by omega)) (by omega) (by rw [show ((-1) : Int32) = mI 0 from by decide]; exact updM) rfl dX2_item_80 (fun H locs hP hD hS => ?_)
        refine lv_aload_n hx hb dX2_item_81 rfl (lv_at hl 0 rfl) ?_
        refine va_get (D := D) (ci := 1) (v := .ref (ad 10)) (C := RX2) (T := TX2) (N := 19) hx hb hts hin hown hK hP 0 rfl rfl 13 (by decide) (hts (.fieldLink RX2 38 "HandCasesModel" "before" "[I") (by decide +kernel)) (fun _ h9 => h9) rfl dX2_item_82 ?_
        refine lv_aload_n hx hb dX2_item_85 rfl (lv_at hl 0 rfl) ?_
        refine va_get (D := D) (ci := 1) (v := .int (nI (σ 11 0))) (C := RX2) (T := TX2) (N := 19) hx hb hts hin hown hK hP 0 rfl rfl 8 (by decide) (hts (.fieldLink RX2 55 "HandCasesModel" "items" "I") (by decide +kernel)) (fun _ h9 => h9) rfl dX2_item_86 ?_
        have b_9 := b11 hI
        refine lv_iconst (v := (-1)) hx hb dX2_item_89 (by decide) ?_
        refine q_iast (ws2 := WM cI cZ ad (setA (setA (setA (setA (setA σ 6 (σ 11 0) n0) 7 (σ 11 0) k0) 8 (σ 11 0) 0) 10 (σ 11 0) 0) 9 (σ 11 0) 0, setA δ 0 0 0, w0)) hx hb hK hP hD hS 10 0 rfl rfl (σ 11 0) (nI_toInt (by omega)) (by omega) (by rw [show ((-1) : Int32) = mI 0 from by decide]; exact updM) rfl dX2_item_90 (fun H locs hP hD hS => ?_)
        refine lv_aload_n hx hb dX2_item_91 rfl (lv_at hl 0 rfl) ?_
        refine lv_dup hx hb dX2_item_92 rfl ?_
        refine va_get (D := D) (ci := 1) (v := .int (nI (σ 11 0))) (C := RX2) (T := TX2) (N := 19) hx hb hts hin hown hK hP 0 rfl rfl 8 (by decide) (hts (.fieldLink RX2 55 "HandCasesModel" "items" "I") (by decide +kernel)) (fun _ h9 => h9) rfl dX2_item_93 ?_
        have b_10 := b11 hI
        refine lv_iconst (v := 1) hx hb dX2_item_96 (by decide) ?_
        refine lv_iadd hx hb dX2_item_97 ?_
        refine q_topi (nI ((σ 11 0) + 1)) (nI_add (σ 11 0) 1) ?_
        refine va_put (D := D) (ci := 1) (v := .int (nI ((σ 11 0) + 1))) (ty := .int) (C := RX2) (T := TX2) (N := 19) hx hb hts hin tyX2 tyX2_ok nmX2 hown hK hP hD hS 0 rfl rfl 8 (by decide) (hts (.fieldLink RX2 55 "HandCasesModel" "items" "I") (by decide +kernel)) (fun _ h9 => h9) rfl (by decide +kernel) rfl rfl (Nat.le_of_ble_eq_true rfl) dX2_item_98 (fun H locs hP hD hS => ?_)
        have hP : va_P D vwCl (WM cI cZ ad (setA (setA (setA (setA (setA (setA σ 6 (σ 11 0) n0) 7 (σ 11 0) k0) 8 (σ 11 0) 0) 10 (σ 11 0) 0) 9 (σ 11 0) 0) 11 0 ((σ 11 0) + 1), setA δ 0 0 0, w0)) H := hP
        have hD : va_D (AC ad s.heap.size) (WM cI cZ ad (setA (setA (setA (setA (setA (setA σ 6 (σ 11 0) n0) 7 (σ 11 0) k0) 8 (σ 11 0) 0) 10 (σ 11 0) 0) 9 (σ 11 0) 0) 11 0 ((σ 11 0) + 1), setA δ 0 0 0, w0)) := hD
        have hP : va_P D vwCl (WM cI cZ ad (uItem σ n0 k0, setA δ 0 0 0, w0)) H := hP
        have hD : va_D (AC ad s.heap.size) (WM cI cZ ad (uItem σ n0 k0, setA δ 0 0 0, w0)) := hD
        refine lv_aload_n hx hb dX2_item_101 rfl (lv_at hl 0 rfl) ?_
        refine va_get (D := D) (ci := 1) (v := .int (nI (σ 11 0 + 1))) (C := RX2) (T := TX2) (N := 19) hx hb hts hin hown hK hP 0 rfl rfl 8 (by decide) (hts (.fieldLink RX2 55 "HandCasesModel" "items" "I") (by decide +kernel)) (fun _ h9 => h9) rfl dX2_item_102 ?_
        refine lv_iconst (v := 1) hx hb dX2_item_105 (by decide) ?_
        refine lv_isub hx hb dX2_item_106 ?_
        refine q_topi (nI (σ 11 0)) (nI_pred (σ 11 0)) ?_
        have eo : oItem σ (nI n0) (nI k0) = (nI (σ 11 0), uItem σ n0 k0) := by unfold oItem; simp only [e_n0, e_k0, Int.toNat_natCast]; repeat (first | rw [if_pos (by omega)] | rw [if_neg (by omega)])
        exact ret_i (uItem σ n0 k0, setA δ 0 0 0, w0) hx hb hr rfl hK hlocks hP hD hS ⟨setA δ 0 0 0, w0, by rw [eo], by rw [eo]⟩ dX2_item_107
      · skip
        have c_4 := (cq_eq (nI_toInt (by omega)) (show (250 : Int32).toInt = (250 : Int) from by decide)).mp c_4
        refine lv_bipush (v := (-4)) hx hb dX2_item_38 (by decide) ?_
        have eo : oItem σ p0 p1 = ((-4), σ) := by unfold oItem; repeat (first | rw [if_pos (by omega)] | rw [if_neg (by omega)])
        exact ret_i (σ, setA δ 0 0 0, w0) hx hb hr rfl hK hlocks hP hD hS ⟨setA δ 0 0 0, w0, by rw [eo], by rw [eo]⟩ dX2_item_40
    · skip
      have c_2 : ¬ ((0 : Int32).toInt ≤ (p1 : Int32).toInt ∧ (p1 : Int32).toInt ≤ (2 : Int32).toInt) := pI_0.mp c_2
      have c_2 : ¬ ((0 : Int) ≤ p1.toInt ∧ p1.toInt ≤ (2 : Int)) := mt (in_c rfl (show (0 : Int32).toInt = (0 : Int) from by decide) (show (2 : Int32).toInt = (2 : Int) from by decide)).mpr c_2
      refine lv_bipush (v := (-2)) hx hb dX2_item_25 (by decide) ?_
      have eo : oItem σ p0 p1 = ((-2), σ) := by unfold oItem; repeat (first | rw [if_pos (by omega)] | rw [if_neg (by omega)])
      exact ret_i (σ, setA δ 0 0 0, w0) hx hb hr rfl hK hlocks hP hD hS ⟨setA δ 0 0 0, w0, by rw [eo], by rw [eo]⟩ dX2_item_27

set_option maxHeartbeats 4000000 in
set_option maxRecDepth 100000 in
theorem c_X2_leader (l : Launch) (cI cZ : ClassId) (D : va_G) (ad pl : Nat → Nat) (tb sz : Nat) (σ δ : Sg) (w0 : Int32) (ii : Nat) (hI : Inv σ) (hi : ii < σ 11 0) : CtI l yX2_leader wsX2_leader ({ frames := 0, cells := 0, slots := 0, locals := 0 }) cI cZ D ad pl tb sz (WM cI cZ ad) (σ, δ, w0) [.ref (ad 0), .int (nI ii)] (fun r u => r = nI (leadN σ 250 ii) ∧ u = (σ, δ, w0)) := by
  refine Met.ofW (cc := cX2_leader) (maxL := 3) (ret := (some .int)) (by decide) rfl ?_
  intro p e s m args below meth c s₁ B hml hv
  obtain ⟨rfl, hsz, hP, hK, hD0, hZ⟩ := hv
  have hx := B.exec
  have hb := B.bytes
  have hr := B.returns
  have hts := atoms_spec (ws := wsX2_leader) B.pre
  have hown : s.vm.findClass RX2 = some m.cls := findClass_of_methodNamed B.named
  have hlocks := B.notSynchronized
  have hin : ∀ w ∈ wsX20, w ∈ wsX2_leader := fun w h => List.mem_cons_of_mem _ (List.mem_append_right _ h)
  subst hsz
  have hD : va_D (AC ad s.heap.size) (WM cI cZ ad (σ, δ, w0)) := AC_self WAd_m hD0
  have hA : ∀ q : Nat, s.heap.size ≤ q → AC ad s.heap.size q := fun q h => Or.inr h
  have hS : va_S (AC ad s.heap.size) s.heap s.heap [] := va_S.rf
  have hl := lv_entry ([.ref (ad 0), .int (nI ii)]) (n := 3) (Nat.le_of_ble_eq_true rfl)
  rw [lg_entry_eq]
  generalize (lg_sl ([.ref (ad 0), .int (nI ii)]) ++ List.replicate (3 - (lg_sl ([.ref (ad 0), .int (nI ii)])).length) Slot.unset).toArray = ls at hl ⊢
  have hl : lv_has ls 3 [(0, .ref (ad 0)), (1, .int (nI ii))] := hl
  obtain ⟨-, -, -, dp, rk, ld, hX⟩ := id hI
  refine lv_iload_n hx hb dX2_leader_0 rfl (lv_at hl 1 rfl) ?_
  refine lv_istore_n (lv' := [(2, .int (nI ii)), (0, .ref (ad 0)), (1, .int (nI ii))]) hx hb dX2_leader_1 rfl hl (by decide) rfl (fun ls hl => ?_)
  refine W_loop (ι := Nat) 2 (fun (x : Nat) H locs ls => (x < σ 11 0) ∧ (leadN σ 250 x = leadN σ 250 ii) ∧ va_P D vwCl (WM cI cZ ad (σ, δ, w0)) H ∧ va_D (AC ad s.heap.size) (WM cI cZ ad (σ, δ, w0)) ∧ va_S (AC ad s.heap.size) s.heap H locs ∧ lv_has ls 3 [(0, .ref (ad 0)), (1, .int (nI ii)), (2, .int (nI x))]) (fun (x : Nat) => dp x) ?_ ii _ _ _ ⟨hi, rfl, hP, hD, hS, lv_sub hl [1, 2, 0] rfl⟩
  intro x H locs ls ⟨h2, h3, hP, hD, hS, hl⟩ ih
  have b_x := I_be hI h2
  have b_i := b11 hI
  refine lv_aload_n hx hb dX2_leader_2 rfl (lv_at hl 0 rfl) ?_
  refine va_get (D := D) (ci := 1) (v := .ref (ad 10)) (C := RX2) (T := TX2) (N := 19) hx hb hts hin hown hK hP 0 rfl rfl 13 (by decide) (hts (.fieldLink RX2 38 "HandCasesModel" "before" "[I") (by decide +kernel)) (fun _ h9 => h9) rfl dX2_leader_3 ?_
  refine lv_iload_n hx hb dX2_leader_6 rfl (lv_at hl 2 rfl) ?_
  have b_1 := b9 hI x
  refine q_iald (v := mI (σ 9 x)) hx hb hK hP 10 0 rfl rfl x (nI_toInt (by omega)) (by omega) rfl dX2_leader_7 ?_
  refine lv_if_lt (tgt := 21) hx hb dX2_leader_8 (by decide) (fun c_2 => ?_) (fun c_2 => ?_)
  · skip
    have c_2 := (cq_lt (mI_toInt (by omega)) (show (0 : Int32).toInt = (0 : Int) from by decide)).mp c_2
    refine lv_iload_n hx hb dX2_leader_21 rfl (lv_at hl 2 rfl) ?_
    exact ret_i (σ, δ, w0) hx hb hr rfl hK hlocks hP hD hS ⟨congrArg nI (by rw [← h3]; exact (leadN_en (by omega)).symm), rfl⟩ dX2_leader_22
  · skip
    have c_2 := mt (cq_lt (mI_toInt (by omega)) (show (0 : Int32).toInt = (0 : Int) from by decide)).mpr c_2
    refine lv_aload_n hx hb dX2_leader_11 rfl (lv_at hl 0 rfl) ?_
    refine va_get (D := D) (ci := 1) (v := .ref (ad 10)) (C := RX2) (T := TX2) (N := 19) hx hb hts hin hown hK hP 0 rfl rfl 13 (by decide) (hts (.fieldLink RX2 38 "HandCasesModel" "before" "[I") (by decide +kernel)) (fun _ h9 => h9) rfl dX2_leader_12 ?_
    refine lv_iload_n hx hb dX2_leader_15 rfl (lv_at hl 2 rfl) ?_
    have b_3 := b9 hI x
    refine q_iald (v := mI (σ 9 x)) hx hb hK hP 10 0 rfl rfl x (nI_toInt (by omega)) (by omega) rfl dX2_leader_16 ?_
    refine lv_istore_n (lv' := [(2, .int (mI (σ 9 x))), (0, .ref (ad 0)), (1, .int (nI ii))]) hx hb dX2_leader_17 rfl hl (by decide) rfl (fun ls hl => ?_)
    refine lv_goto (tgt := 2) hx hb dX2_leader_18 (by decide) ?_
    exact ih (σ 9 x - 1) _ _ _ ⟨by omega, by rw [I_lead_step hI h2 (by omega)]; exact h3, hP, hD, hS, lv_as (lv_sub hl [1, 2, 0] rfl) (lv_c rfl (lv_c rfl (lv_c (congrArg Value.int (mI_pos (by omega))) rfl)))⟩ (by have := (hX.2.1 x h2 (by omega)).2.2.1; omega)

set_option maxHeartbeats 4000000 in
set_option maxRecDepth 100000 in
theorem c_X2_bundle (l : Launch) (cI cZ : ClassId) (D : va_G) (ad pl : Nat → Nat) (tb sz : Nat) (σ δ : Sg) (w0 : Int32) (p0 p1 : Int32) (hI : Inv σ) : CtI l yX2_bundle wsX2_bundle ({ frames := 2, cells := 0, slots := 0, locals := 43 }) cI cZ D ad pl tb sz (WM cI cZ ad) (σ, δ, w0) [.ref (ad 0), .int p0, .int p1] (fun r u => ∃ δ1 w1, u = ((oBundle σ p0 p1).2, δ1, w1) ∧ r = (oBundle σ p0 p1).1) := by
  refine Met.ofW (cc := cX2_bundle) (maxL := 5) (ret := (some .int)) (by decide) rfl ?_
  intro p e s m args below meth c s₁ B hml hv
  obtain ⟨rfl, hsz, hP, hK, hD0, hZ⟩ := hv
  have hx := B.exec
  have hb := B.bytes
  have hr := B.returns
  have hts := atoms_spec (ws := wsX2_bundle) B.pre
  have hown : s.vm.findClass RX2 = some m.cls := findClass_of_methodNamed B.named
  have hlocks := B.notSynchronized
  have hin : ∀ w ∈ wsX20, w ∈ wsX2_bundle := fun w h => List.mem_cons_of_mem _ (List.mem_append_right _ h)
  subst hsz
  have hD : va_D (AC ad s.heap.size) (WM cI cZ ad (σ, δ, w0)) := AC_self WAd_m hD0
  have hA : ∀ q : Nat, s.heap.size ≤ q → AC ad s.heap.size q := fun q h => Or.inr h
  have hS : va_S (AC ad s.heap.size) s.heap s.heap [] := va_S.rf
  have hl := lv_entry ([.ref (ad 0), .int p0, .int p1]) (n := 5) (Nat.le_of_ble_eq_true rfl)
  rw [lg_entry_eq]
  generalize (lg_sl ([.ref (ad 0), .int p0, .int p1]) ++ List.replicate (5 - (lg_sl ([.ref (ad 0), .int p0, .int p1])).length) Slot.unset).toArray = ls at hl ⊢
  have hl : lv_has ls 5 [(0, .ref (ad 0)), (1, .int p0), (2, .int p1)] := hl
  refine lv_aload_n hx hb dX2_bundle_0 rfl (lv_at hl 0 rfl) ?_
  refine lv_iconst (v := 0) hx hb dX2_bundle_1 (by decide) ?_
  refine va_put (D := D) (ci := 1) (v := .int 0) (ty := .int) (C := RX2) (T := TX2) (N := 19) hx hb hts hin tyX2 tyX2_ok nmX2 hown hK hP hD hS 0 rfl rfl 1 (by decide) (hts (.fieldLink RX2 48 "HandCasesModel" "fault" "I") (by decide +kernel)) (fun _ h9 => h9) rfl (by decide +kernel) rfl rfl (Nat.le_of_ble_eq_true rfl) dX2_bundle_2 (fun H locs hP hD hS => ?_)
  have hP : va_P D vwCl (WM cI cZ ad (σ, setA δ 0 0 0, w0)) H := hP
  have hD : va_D (AC ad s.heap.size) (WM cI cZ ad (σ, setA δ 0 0 0, w0)) := hD
  refine lv_aload_n hx hb dX2_bundle_5 rfl (lv_at hl 0 rfl) ?_
  refine lv_iload_n hx hb dX2_bundle_6 rfl (lv_at hl 1 rfl) ?_
  refine call_i (As := [.int p0]) (rest := []) WAd_m ⟨hx, hb, hml, hown, hts⟩ (c_X2_isItem l cI cZ D ad pl tb _ σ (setA δ 0 0 0) w0 p0 hI) (cwV 1 hts gX2_bundle_X2_isItem rfl rfl rfl (by decide +kernel) ⟨Nat.le_of_ble_eq_true rfl, Nat.le_of_ble_eq_true rfl⟩) (va_recv hK hP (ci := 1) (q0 := 0) rfl rfl) hK hP hD hS hA hZ rfl rfl (Nat.le_of_ble_eq_true rfl) hl.1 dX2_bundle_7 ⟨Nat.zero_le _, Nat.zero_le _⟩ (fun r u H locs hq hP hD hS => ?_)
  obtain ⟨rfl, rfl⟩ := hq
  refine lv_if_eq (tgt := 21) hx hb dX2_bundle_10 (by decide) (fun c_1 => ?_) (fun c_1 => ?_)
  · skip
    have c_1 : ¬ (0 ≤ p0.toInt ∧ p0.toInt < (σ 11 0 : Nat)) := pI_0.mp c_1
    refine lv_iconst (v := (-1)) hx hb dX2_bundle_21 (by decide) ?_
    have eo : oBundle σ p0 p1 = ((-1), σ) := by unfold oBundle; repeat (first | rw [if_pos (by omega)] | rw [if_neg (by omega)])
    exact ret_i (σ, setA δ 0 0 0, w0) hx hb hr rfl hK hlocks hP hD hS ⟨setA δ 0 0 0, w0, by rw [eo], by rw [eo]⟩ dX2_bundle_22
  · skip
    have c_1 : 0 ≤ p0.toInt ∧ p0.toInt < (σ 11 0 : Nat) := Decidable.not_not.mp (mt pI_0.mpr c_1)
    refine lv_aload_n hx hb dX2_bundle_13 rfl (lv_at hl 0 rfl) ?_
    refine lv_iload_n hx hb dX2_bundle_14 rfl (lv_at hl 2 rfl) ?_
    refine call_i (As := [.int p1]) (rest := []) WAd_m ⟨hx, hb, hml, hown, hts⟩ (c_X2_isItem l cI cZ D ad pl tb _ σ (setA δ 0 0 0) w0 p1 hI) (cwV 1 hts gX2_bundle_X2_isItem rfl rfl rfl (by decide +kernel) ⟨Nat.le_of_ble_eq_true rfl, Nat.le_of_ble_eq_true rfl⟩) (va_recv hK hP (ci := 1) (q0 := 0) rfl rfl) hK hP hD hS hA hZ rfl rfl (Nat.le_of_ble_eq_true rfl) hl.1 dX2_bundle_15 ⟨Nat.zero_le _, Nat.zero_le _⟩ (fun r u H locs hq hP hD hS => ?_)
    obtain ⟨rfl, rfl⟩ := hq
    refine lv_if_ne (tgt := 23) hx hb dX2_bundle_18 (by decide) (fun c_2 => ?_) (fun c_2 => ?_)
    · skip
      have c_2 : 0 ≤ p1.toInt ∧ p1.toInt < (σ 11 0 : Nat) := Decidable.not_not.mp (mt pI_0.mpr c_2)
      obtain ⟨a0, e_a0, -, rfl⟩ := i_nat (p := p0) (by omega)
      obtain ⟨b0, e_b0, -, rfl⟩ := i_nat (p := p1) (by omega)
      have b_i := b11 hI
      refine lv_aload_n hx hb dX2_bundle_23 rfl (lv_at hl 0 rfl) ?_
      refine va_get (D := D) (ci := 1) (v := .ref (ad 7)) (C := RX2) (T := TX2) (N := 19) hx hb hts hin hown hK hP 0 rfl rfl 10 (by decide) (hts (.fieldLink RX2 29 "HandCasesModel" "kind" "[I") (by decide +kernel)) (fun _ h9 => h9) rfl dX2_bundle_24 ?_
      refine lv_iload_n hx hb dX2_bundle_27 rfl (lv_at hl 1 rfl) ?_
      have b_3 := b7 hI a0
      refine q_iald (v := nI (σ 7 a0)) hx hb hK hP 7 0 rfl rfl a0 (nI_toInt (by omega)) (by omega) rfl dX2_bundle_28 ?_
      refine lv_iconst (v := 2) hx hb dX2_bundle_29 (by decide) ?_
      refine lv_icmp_eq (tgt := 74) hx hb dX2_bundle_30 (by decide) (fun c_4 => ?_) (fun c_4 => ?_)
      · skip
        have c_4 := (cq_eq (nI_toInt (by omega)) (show (2 : Int32).toInt = (2 : Int) from by decide)).mp c_4
        refine lv_bipush (v := (-3)) hx hb dX2_bundle_74 (by decide) ?_
        have eo : oBundle σ (nI a0) (nI b0) = ((-3), σ) := by unfold oBundle; simp only [e_a0, e_b0, Int.toNat_natCast]; repeat (first | rw [if_pos (by omega)] | rw [if_neg (by omega)])
        exact ret_i (σ, setA δ 0 0 0, w0) hx hb hr rfl hK hlocks hP hD hS ⟨setA δ 0 0 0, w0, by rw [eo], by rw [eo]⟩ dX2_bundle_76
      · skip
        have c_4 := mt (cq_eq (nI_toInt (by omega)) (show (2 : Int32).toInt = (2 : Int) from by decide)).mpr c_4
        refine lv_aload_n hx hb dX2_bundle_33 rfl (lv_at hl 0 rfl) ?_
        refine va_get (D := D) (ci := 1) (v := .ref (ad 7)) (C := RX2) (T := TX2) (N := 19) hx hb hts hin hown hK hP 0 rfl rfl 10 (by decide) (hts (.fieldLink RX2 29 "HandCasesModel" "kind" "[I") (by decide +kernel)) (fun _ h9 => h9) rfl dX2_bundle_34 ?_
        refine lv_iload_n hx hb dX2_bundle_37 rfl (lv_at hl 2 rfl) ?_
        have b_5 := b7 hI b0
        refine q_iald (v := nI (σ 7 b0)) hx hb hK hP 7 0 rfl rfl b0 (nI_toInt (by omega)) (by omega) rfl dX2_bundle_38 ?_
        refine lv_iconst (v := 2) hx hb dX2_bundle_39 (by decide) ?_
        refine lv_icmp_eq (tgt := 74) hx hb dX2_bundle_40 (by decide) (fun c_6 => ?_) (fun c_6 => ?_)
        · skip
          have c_6 := (cq_eq (nI_toInt (by omega)) (show (2 : Int32).toInt = (2 : Int) from by decide)).mp c_6
          refine lv_bipush (v := (-3)) hx hb dX2_bundle_74 (by decide) ?_
          have eo : oBundle σ (nI a0) (nI b0) = ((-3), σ) := by unfold oBundle; simp only [e_a0, e_b0, Int.toNat_natCast]; repeat (first | rw [if_pos (by omega)] | rw [if_neg (by omega)])
          exact ret_i (σ, setA δ 0 0 0, w0) hx hb hr rfl hK hlocks hP hD hS ⟨setA δ 0 0 0, w0, by rw [eo], by rw [eo]⟩ dX2_bundle_76
        · skip
          have c_6 := mt (cq_eq (nI_toInt (by omega)) (show (2 : Int32).toInt = (2 : Int) from by decide)).mpr c_6
          refine lv_aload_n hx hb dX2_bundle_43 rfl (lv_at hl 0 rfl) ?_
          refine va_get (D := D) (ci := 1) (v := .ref (ad 10)) (C := RX2) (T := TX2) (N := 19) hx hb hts hin hown hK hP 0 rfl rfl 13 (by decide) (hts (.fieldLink RX2 38 "HandCasesModel" "before" "[I") (by decide +kernel)) (fun _ h9 => h9) rfl dX2_bundle_44 ?_
          refine lv_iload_n hx hb dX2_bundle_47 rfl (lv_at hl 2 rfl) ?_
          have b_7 := b9 hI b0
          refine q_iald (v := mI (σ 9 b0)) hx hb hK hP 10 0 rfl rfl b0 (nI_toInt (by omega)) (by omega) rfl dX2_bundle_48 ?_
          refine lv_if_ge (tgt := 74) hx hb dX2_bundle_49 (by decide) (fun c_8 => ?_) (fun c_8 => ?_)
          · skip
            have c_8 := (cq_le (show (0 : Int32).toInt = (0 : Int) from by decide) (mI_toInt (by omega))).mp c_8
            refine lv_bipush (v := (-3)) hx hb dX2_bundle_74 (by decide) ?_
            have eo : oBundle σ (nI a0) (nI b0) = ((-3), σ) := by unfold oBundle; simp only [e_a0, e_b0, Int.toNat_natCast]; repeat (first | rw [if_pos (by omega)] | rw [if_neg (by omega)])
            exact ret_i (σ, setA δ 0 0 0, w0) hx hb hr rfl hK hlocks hP hD hS ⟨setA δ 0 0 0, w0, by rw [eo], by rw [eo]⟩ dX2_bundle_76
          · skip
            have c_8 := mt (cq_le (show (0 : Int32).toInt = (0 : Int) from by decide) (mI_toInt (by omega))).mpr c_8
            refine lv_aload_n hx hb dX2_bundle_52 rfl (lv_at hl 0 rfl) ?_
            refine va_get (D := D) (ci := 1) (v := .ref (ad 9)) (C := RX2) (T := TX2) (N := 19) hx hb hts hin hown hK hP 0 rfl rfl 12 (by decide) (hts (.fieldLink RX2 35 "HandCasesModel" "next" "[I") (by decide +kernel)) (fun _ h9 => h9) rfl dX2_bundle_53 ?_
            refine lv_iload_n hx hb dX2_bundle_56 rfl (lv_at hl 1 rfl) ?_
            have b_9 := b10 hI a0
            refine q_iald (v := mI (σ 10 a0)) hx hb hK hP 9 0 rfl rfl a0 (nI_toInt (by omega)) (by omega) rfl dX2_bundle_57 ?_
            refine lv_if_ge (tgt := 74) hx hb dX2_bundle_58 (by decide) (fun c_10 => ?_) (fun c_10 => ?_)
            · skip
              have c_10 := (cq_le (show (0 : Int32).toInt = (0 : Int) from by decide) (mI_toInt (by omega))).mp c_10
              refine lv_bipush (v := (-3)) hx hb dX2_bundle_74 (by decide) ?_
              have eo : oBundle σ (nI a0) (nI b0) = ((-3), σ) := by unfold oBundle; simp only [e_a0, e_b0, Int.toNat_natCast]; repeat (first | rw [if_pos (by omega)] | rw [if_neg (by omega)])
              exact ret_i (σ, setA δ 0 0 0, w0) hx hb hr rfl hK hlocks hP hD hS ⟨setA δ 0 0 0, w0, by rw [eo], by rw [eo]⟩ dX2_bundle_76
            · skip
              have c_10 := mt (cq_le (show (0 : Int32).toInt = (0 : Int) from by decide) (mI_toInt (by omega))).mpr c_10
              refine lv_aload_n hx hb dX2_bundle_61 rfl (lv_at hl 0 rfl) ?_
              refine lv_iload_n hx hb dX2_bundle_62 rfl (lv_at hl 1 rfl) ?_
              refine call_i (As := [.int (nI a0)]) (rest := []) WAd_m ⟨hx, hb, hml, hown, hts⟩ (c_X2_leader l cI cZ D ad pl tb _ σ (setA δ 0 0 0) w0 a0 hI (by omega)) (cwV 1 hts gX2_bundle_X2_leader rfl rfl rfl (by decide +kernel) ⟨Nat.le_of_ble_eq_true rfl, Nat.le_of_ble_eq_true rfl⟩) (va_recv hK hP (ci := 1) (q0 := 0) rfl rfl) hK hP hD hS hA hZ rfl rfl (Nat.le_of_ble_eq_true rfl) hl.1 dX2_bundle_63 ⟨Nat.zero_le _, Nat.zero_le _⟩ (fun r u H locs hq hP hD hS => ?_)
              obtain ⟨rfl, rfl⟩ := hq
              have b_11 := (I_lead hI (i := a0) (by omega)).1
              have b_12 := b11 hI
              refine lv_aload_n hx hb dX2_bundle_66 rfl (lv_at hl 0 rfl) ?_
              refine lv_iload_n hx hb dX2_bundle_67 rfl (lv_at hl 2 rfl) ?_
              refine call_i (As := [.int (nI b0)]) (rest := [.int (nI (leadN σ 250 a0))]) WAd_m ⟨hx, hb, hml, hown, hts⟩ (c_X2_leader l cI cZ D ad pl tb _ σ (setA δ 0 0 0) w0 b0 hI (by omega)) (cwV 1 hts gX2_bundle_X2_leader rfl rfl rfl (by decide +kernel) ⟨Nat.le_of_ble_eq_true rfl, Nat.le_of_ble_eq_true rfl⟩) (va_recv hK hP (ci := 1) (q0 := 0) rfl rfl) hK hP hD hS hA hZ rfl rfl (Nat.le_of_ble_eq_true rfl) hl.1 dX2_bundle_68 ⟨Nat.zero_le _, Nat.zero_le _⟩ (fun r u H locs hq hP hD hS => ?_)
              obtain ⟨rfl, rfl⟩ := hq
              have b_13 := (I_lead hI (i := b0) (by omega)).1
              have b_14 := b11 hI
              have e_ld : leadN σ 250 b0 = b0 := leadN_en (by omega)
              refine lv_icmp_ne (tgt := 77) hx hb dX2_bundle_71 (by decide) (fun c_15 => ?_) (fun c_15 => ?_)
              · skip
                have c_15 := mt (cq_eq (nI_toInt (by omega)) (nI_toInt (by omega))).mpr c_15
                refine lv_aload_n hx hb dX2_bundle_77 rfl (lv_at hl 0 rfl) ?_
                refine va_get (D := D) (ci := 1) (v := .ref (ad 9)) (C := RX2) (T := TX2) (N := 19) hx hb hts hin hown hK hP 0 rfl rfl 12 (by decide) (hts (.fieldLink RX2 35 "HandCasesModel" "next" "[I") (by decide +kernel)) (fun _ h9 => h9) rfl dX2_bundle_78 ?_
                refine lv_iload_n hx hb dX2_bundle_81 rfl (lv_at hl 1 rfl) ?_
                refine lv_iload_n hx hb dX2_bundle_82 rfl (lv_at hl 2 rfl) ?_
                refine q_iast (ws2 := WM cI cZ ad (setA σ 10 a0 (b0 + 1), setA δ 0 0 0, w0)) hx hb hK hP hD hS 9 0 rfl rfl a0 (nI_toInt (by omega)) (by omega) (by rw [← mI_s]; exact updM) rfl dX2_bundle_83 (fun H locs hP hD hS => ?_)
                refine lv_aload_n hx hb dX2_bundle_84 rfl (lv_at hl 0 rfl) ?_
                refine va_get (D := D) (ci := 1) (v := .ref (ad 10)) (C := RX2) (T := TX2) (N := 19) hx hb hts hin hown hK hP 0 rfl rfl 13 (by decide) (hts (.fieldLink RX2 38 "HandCasesModel" "before" "[I") (by decide +kernel)) (fun _ h9 => h9) rfl dX2_bundle_85 ?_
                refine lv_iload_n hx hb dX2_bundle_88 rfl (lv_at hl 2 rfl) ?_
                refine lv_iload_n hx hb dX2_bundle_89 rfl (lv_at hl 1 rfl) ?_
                refine q_iast (ws2 := WM cI cZ ad (setA (setA σ 10 a0 (b0 + 1)) 9 b0 (a0 + 1), setA δ 0 0 0, w0)) hx hb hK hP hD hS 10 0 rfl rfl b0 (nI_toInt (by omega)) (by omega) (by rw [← mI_s]; exact updM) rfl dX2_bundle_90 (fun H locs hP hD hS => ?_)
                refine lv_aload_n hx hb dX2_bundle_91 rfl (lv_at hl 0 rfl) ?_
                refine va_get (D := D) (ci := 1) (v := .ref (ad 8)) (C := RX2) (T := TX2) (N := 19) hx hb hts hin hown hK hP 0 rfl rfl 11 (by decide) (hts (.fieldLink RX2 32 "HandCasesModel" "told" "[I") (by decide +kernel)) (fun _ h9 => h9) rfl dX2_bundle_92 ?_
                refine lv_iload_n hx hb dX2_bundle_95 rfl (lv_at hl 2 rfl) ?_
                refine lv_iconst (v := (-1)) hx hb dX2_bundle_96 (by decide) ?_
                refine q_iast (ws2 := WM cI cZ ad (setA (setA (setA σ 10 a0 (b0 + 1)) 9 b0 (a0 + 1)) 8 b0 0, setA δ 0 0 0, w0)) hx hb hK hP hD hS 8 0 rfl rfl b0 (nI_toInt (by omega)) (by omega) (by rw [show ((-1) : Int32) = mI 0 from by decide]; exact updM) rfl dX2_bundle_97 (fun H locs hP hD hS => ?_)
                have hI2 : Inv (uBundle σ a0 b0) := I_bundle hI (by omega) (by omega) (by omega) (by omega) (by omega)
                have hP : va_P D vwCl (WM cI cZ ad (uBundle σ a0 b0, setA δ 0 0 0, w0)) H := hP
                have hD : va_D (AC ad s.heap.size) (WM cI cZ ad (uBundle σ a0 b0, setA δ 0 0 0, w0)) := hD
                have e_u : (uBundle σ a0 b0) 11 0 = σ 11 0 := rfl
                obtain ⟨-, -, -, dp, rk, ld, hX⟩ := id hI2
                refine lv_iconst (v := 0) hx hb dX2_bundle_98 (by decide) ?_
                refine lv_istore_n (lv' := [(3, .int 0), (0, .ref (ad 0)), (1, .int (nI a0)), (2, .int (nI b0))]) hx hb dX2_bundle_99 rfl hl (by decide) rfl (fun ls hl => ?_)
                refine lv_aload_n hx hb dX2_bundle_100 rfl (lv_at hl 1 rfl) ?_
                refine lv_iload_n hx hb dX2_bundle_101 rfl (lv_at hl 2 rfl) ?_
                refine call_i (As := [.int (nI a0)]) (rest := []) WAd_m ⟨hx, hb, hml, hown, hts⟩ (c_X2_leader l cI cZ D ad pl tb _ (uBundle σ a0 b0) (setA δ 0 0 0) w0 a0 hI2 (by omega)) (cwV 1 hts gX2_bundle_X2_leader rfl rfl rfl (by decide +kernel) ⟨Nat.le_of_ble_eq_true rfl, Nat.le_of_ble_eq_true rfl⟩) (va_recv hK hP (ci := 1) (q0 := 0) rfl rfl) hK hP hD hS hA hZ rfl rfl (Nat.le_of_ble_eq_true rfl) hl.1 dX2_bundle_102 ⟨Nat.zero_le _, Nat.zero_le _⟩ (fun r u H locs hq hP hD hS => ?_)
                obtain ⟨rfl, rfl⟩ := hq
                have b_16 := (I_lead hI2 (i := a0) (by omega)).1
                have b_17 := b11 hI2
                refine lv_istore (lv' := [(4, .int (nI (leadN (uBundle σ a0 b0) 250 a0))), (3, .int 0), (0, .ref (ad 0)), (1, .int (nI a0)), (2, .int (nI b0))]) hx hb dX2_bundle_105 hl (by decide) rfl (fun ls hl => ?_)
                refine W_loop (ι := Nat × Nat) 107 (fun (x : Nat × Nat) H locs ls => (x.1 ≤ 250) ∧ (x.2 ≤ σ 11 0) ∧ (x.1 + (chain (uBundle σ a0 b0) (250 - x.1) x.2).length = len (uBundle σ a0 b0) (leadN (uBundle σ a0 b0) 250 a0)) ∧ (x.2 = 0 ∨ rk (x.2 - 1) ≤ 250 - x.1) ∧ va_P D vwCl (WM cI cZ ad (uBundle σ a0 b0, setA δ 0 0 0, w0)) H ∧ va_D (AC ad s.heap.size) (WM cI cZ ad (uBundle σ a0 b0, setA δ 0 0 0, w0)) ∧ va_S (AC ad s.heap.size) s.heap H locs ∧ lv_has ls 5 [(0, .ref (ad 0)), (1, .int (nI a0)), (2, .int (nI b0)), (3, .int (nI x.1)), (4, .int (mI x.2))]) (fun (x : Nat × Nat) => 250 - x.1) ?_ (0, (leadN (uBundle σ a0 b0) 250 a0 + 1)) _ _ _ ⟨by (try dsimp only); omega, by (try dsimp only); omega, by (try dsimp only); show 0 + (chain (uBundle σ a0 b0) 250 (leadN (uBundle σ a0 b0) 250 a0 + 1)).length = _; rw [Nat.zero_add]; rfl, by (try dsimp only); have e6 := X_rk hX (i := leadN (uBundle σ a0 b0) 250 a0) (by omega); right; rw [Nat.add_sub_cancel]; omega, hP, hD, hS, lv_as (lv_sub hl [2, 3, 4, 1, 0] rfl) (lv_c rfl (lv_c rfl (lv_c rfl (lv_c (congrArg Value.int (by rfl)) (lv_c (congrArg Value.int (mI_s _).symm) rfl)))))⟩
                intro ⟨n, e1⟩ H locs ls ⟨h1, h2, h3, h4, hP, hD, hS, hl⟩ ih
                dsimp only at h1 h2 h3 h4 hP hD hl ih
                have e_k : e1 = 0 ∨ 1 ≤ rk (e1 - 1) := if e9 : e1 = 0 then Or.inl e9 else Or.inr (X_rk hX (i := e1 - 1) (by omega)).1
                refine lv_iload hx hb dX2_bundle_107 (lv_at hl 4 rfl) ?_
                refine lv_if_lt (tgt := 127) hx hb dX2_bundle_109 (by decide) (fun c_18 => ?_) (fun c_18 => ?_)
                · skip
                  have c_18 := (cq_lt (mI_toInt (by omega)) (show (0 : Int32).toInt = (0 : Int) from by decide)).mp c_18
                  refine lv_iload_n hx hb dX2_bundle_127 rfl (lv_at hl 3 rfl) ?_
                  have eo : oBundle σ (nI a0) (nI b0) = (nI (len (uBundle σ a0 b0) (leadN (uBundle σ a0 b0) 250 a0)), uBundle σ a0 b0) := by unfold oBundle; simp only [e_a0, e_b0, Int.toNat_natCast]; repeat (first | rw [if_pos (by omega)] | rw [if_neg (by omega)])
                  exact ret_i (uBundle σ a0 b0, setA δ 0 0 0, w0) hx hb hr rfl hK hlocks hP hD hS ⟨setA δ 0 0 0, w0, by rw [eo], by rw [eo]; exact (by rw [← h3]; exact congrArg nI (by rw [show e1 = 0 from by omega, chain_0]; rfl))⟩ dX2_bundle_128
                · skip
                  have c_18 := mt (cq_lt (mI_toInt (by omega)) (show (0 : Int32).toInt = (0 : Int) from by decide)).mpr c_18
                  refine lv_iinc (v := nI (n + 1)) (lv' := [(3, .int (nI (n + 1))), (0, .ref (ad 0)), (1, .int (nI a0)), (2, .int (nI b0)), (4, .int (mI e1))]) hx hb dX2_bundle_112 hl (k := 3) rfl (nI_add n 1) (by decide) rfl (fun ls hl => ?_)
                  refine lv_aload_n hx hb dX2_bundle_115 rfl (lv_at hl 1 rfl) ?_
                  refine va_get (D := D) (ci := 1) (v := .ref (ad 9)) (C := RX2) (T := TX2) (N := 19) hx hb hts hin hown hK hP 0 rfl rfl 12 (by decide) (hts (.fieldLink RX2 35 "HandCasesModel" "next" "[I") (by decide +kernel)) (fun _ h9 => h9) rfl dX2_bundle_116 ?_
                  refine lv_iload hx hb dX2_bundle_119 (lv_at hl 4 rfl) ?_
                  have b_19 := b10 hI2 (e1 - 1)
                  refine q_iald (v := mI ((uBundle σ a0 b0) 10 (e1 - 1))) hx hb hK hP 9 0 rfl rfl (e1 - 1) (by rw [mI_toInt (by omega)]; omega) (by omega) rfl dX2_bundle_121 ?_
                  refine lv_istore (lv' := [(4, .int (mI ((uBundle σ a0 b0) 10 (e1 - 1)))), (3, .int (nI (n + 1))), (0, .ref (ad 0)), (1, .int (nI a0)), (2, .int (nI b0))]) hx hb dX2_bundle_122 hl (by decide) rfl (fun ls hl => ?_)
                  refine lv_goto (tgt := 107) hx hb dX2_bundle_124 (by decide) ?_
                  exact ih (n + 1, (uBundle σ a0 b0) 10 (e1 - 1)) _ _ _ ⟨by (try dsimp only); omega, I_bh hI2 (by omega), by (try dsimp only); rw [chain_st (by omega) (by omega), List.length_cons] at h3; omega, if e6 : (uBundle σ a0 b0) 10 (e1 - 1) = 0 then Or.inl e6 else Or.inr (by (try dsimp only); have e7 := (X_nx hX (i := e1 - 1) (by omega) e6).2; omega), hP, hD, hS, lv_sub hl [2, 3, 4, 1, 0] rfl⟩ (by show 250 - (n + 1) < 250 - n; have e8 := X_rk hX (i := e1 - 1) (by omega); omega)
              · skip
                have c_15 := (cq_eq (nI_toInt (by omega)) (nI_toInt (by omega))).mp c_15
                refine lv_bipush (v := (-3)) hx hb dX2_bundle_74 (by decide) ?_
                have eo : oBundle σ (nI a0) (nI b0) = ((-3), σ) := by unfold oBundle; simp only [e_a0, e_b0, Int.toNat_natCast]; repeat (first | rw [if_pos (by omega)] | rw [if_neg (by omega)])
                exact ret_i (σ, setA δ 0 0 0, w0) hx hb hr rfl hK hlocks hP hD hS ⟨setA δ 0 0 0, w0, by rw [eo], by rw [eo]⟩ dX2_bundle_76
    · skip
      have c_2 : ¬ (0 ≤ p1.toInt ∧ p1.toInt < (σ 11 0 : Nat)) := pI_0.mp c_2
      refine lv_iconst (v := (-1)) hx hb dX2_bundle_21 (by decide) ?_
      have eo : oBundle σ p0 p1 = ((-1), σ) := by unfold oBundle; repeat (first | rw [if_pos (by omega)] | rw [if_neg (by omega)])
      exact ret_i (σ, setA δ 0 0 0, w0) hx hb hr rfl hK hlocks hP hD hS ⟨setA δ 0 0 0, w0, by rw [eo], by rw [eo]⟩ dX2_bundle_22

set_option maxHeartbeats 4000000 in
set_option maxRecDepth 100000 in
theorem c_X2_holeOfLeader (l : Launch) (cI cZ : ClassId) (D : va_G) (ad pl : Nat → Nat) (tb sz : Nat) (σ δ : Sg) (w0 : Int32) (ii : Nat) (hI : Inv σ) (hi : ii < 250) : CtI l yX2_holeOfLeader wsX2_holeOfLeader ({ frames := 2, cells := 0, slots := 0, locals := 43 }) cI cZ D ad pl tb sz (WM cI cZ ad) (σ, δ, w0) [.ref (ad 0), .int (nI ii)] (fun r u => r = mI (hol σ ii) ∧ u = (σ, δ, w0)) := by
  refine Met.ofW (cc := cX2_holeOfLeader) (maxL := 2) (ret := (some .int)) (by decide) rfl ?_
  intro p e s m args below meth c s₁ B hml hv
  obtain ⟨rfl, hsz, hP, hK, hD0, hZ⟩ := hv
  have hx := B.exec
  have hb := B.bytes
  have hr := B.returns
  have hts := atoms_spec (ws := wsX2_holeOfLeader) B.pre
  have hown : s.vm.findClass RX2 = some m.cls := findClass_of_methodNamed B.named
  have hlocks := B.notSynchronized
  have hin : ∀ w ∈ wsX20, w ∈ wsX2_holeOfLeader := fun w h => List.mem_cons_of_mem _ (List.mem_append_right _ h)
  subst hsz
  have hD : va_D (AC ad s.heap.size) (WM cI cZ ad (σ, δ, w0)) := AC_self WAd_m hD0
  have hA : ∀ q : Nat, s.heap.size ≤ q → AC ad s.heap.size q := fun q h => Or.inr h
  have hS : va_S (AC ad s.heap.size) s.heap s.heap [] := va_S.rf
  have hl := lv_entry ([.ref (ad 0), .int (nI ii)]) (n := 2) (Nat.le_of_ble_eq_true rfl)
  rw [lg_entry_eq]
  generalize (lg_sl ([.ref (ad 0), .int (nI ii)]) ++ List.replicate (2 - (lg_sl ([.ref (ad 0), .int (nI ii)])).length) Slot.unset).toArray = ls at hl ⊢
  have hl : lv_has ls 2 [(0, .ref (ad 0)), (1, .int (nI ii))] := hl
  have f_h := I_nh hI (h := σ 6 ii) (b6 hI ii)
  refine lv_aload_n hx hb dX2_holeOfLeader_0 rfl (lv_at hl 0 rfl) ?_
  refine va_get (D := D) (ci := 1) (v := .ref (ad 7)) (C := RX2) (T := TX2) (N := 19) hx hb hts hin hown hK hP 0 rfl rfl 10 (by decide) (hts (.fieldLink RX2 29 "HandCasesModel" "kind" "[I") (by decide +kernel)) (fun _ h9 => h9) rfl dX2_holeOfLeader_1 ?_
  refine lv_iload_n hx hb dX2_holeOfLeader_4 rfl (lv_at hl 1 rfl) ?_
  have b_1 := b7 hI ii
  refine q_iald (v := nI (σ 7 ii)) hx hb hK hP 7 0 rfl rfl ii (nI_toInt (by omega)) (by omega) rfl dX2_holeOfLeader_5 ?_
  refine lv_iconst (v := 2) hx hb dX2_holeOfLeader_6 (by decide) ?_
  refine lv_icmp_ne (tgt := 12) hx hb dX2_holeOfLeader_7 (by decide) (fun c_2 => ?_) (fun c_2 => ?_)
  · skip
    have c_2 := mt (cq_eq (nI_toInt (by omega)) (show (2 : Int32).toInt = (2 : Int) from by decide)).mpr c_2
    refine lv_aload_n hx hb dX2_holeOfLeader_12 rfl (lv_at hl 0 rfl) ?_
    refine va_get (D := D) (ci := 1) (v := .ref (ad 8)) (C := RX2) (T := TX2) (N := 19) hx hb hts hin hown hK hP 0 rfl rfl 11 (by decide) (hts (.fieldLink RX2 32 "HandCasesModel" "told" "[I") (by decide +kernel)) (fun _ h9 => h9) rfl dX2_holeOfLeader_13 ?_
    refine lv_iload_n hx hb dX2_holeOfLeader_16 rfl (lv_at hl 1 rfl) ?_
    have b_3 := b8 hI ii
    refine q_iald (v := mI (σ 8 ii)) hx hb hK hP 8 0 rfl rfl ii (nI_toInt (by omega)) (by omega) rfl dX2_holeOfLeader_17 ?_
    refine lv_if_lt (tgt := 30) hx hb dX2_holeOfLeader_18 (by decide) (fun c_4 => ?_) (fun c_4 => ?_)
    · skip
      have c_4 := (cq_lt (mI_toInt (by omega)) (show (0 : Int32).toInt = (0 : Int) from by decide)).mp c_4
      refine lv_aload_n hx hb dX2_holeOfLeader_30 rfl (lv_at hl 0 rfl) ?_
      refine lv_aload_n hx hb dX2_holeOfLeader_31 rfl (lv_at hl 0 rfl) ?_
      refine va_get (D := D) (ci := 1) (v := .ref (ad 6)) (C := RX2) (T := TX2) (N := 19) hx hb hts hin hown hK hP 0 rfl rfl 9 (by decide) (hts (.fieldLink RX2 26 "HandCasesModel" "number" "[I") (by decide +kernel)) (fun _ h9 => h9) rfl dX2_holeOfLeader_32 ?_
      refine lv_iload_n hx hb dX2_holeOfLeader_35 rfl (lv_at hl 1 rfl) ?_
      have b_5 := b6 hI ii
      refine q_iald (v := nI (σ 6 ii)) hx hb hK hP 6 0 rfl rfl ii (nI_toInt (by omega)) (by omega) rfl dX2_holeOfLeader_36 ?_
      refine call_i (As := [.int (nI (σ 6 ii))]) (rest := []) WAd_m ⟨hx, hb, hml, hown, hts⟩ (c_X2_isHouse l cI cZ D ad pl tb _ σ δ w0 (nI (σ 6 ii)) hI) (cwV 1 hts gX2_holeOfLeader_X2_isHouse rfl rfl rfl (by decide +kernel) ⟨Nat.le_of_ble_eq_true rfl, Nat.le_of_ble_eq_true rfl⟩) (va_recv hK hP (ci := 1) (q0 := 0) rfl rfl) hK hP hD hS hA hZ rfl rfl (Nat.le_of_ble_eq_true rfl) hl.1 dX2_holeOfLeader_37 ⟨Nat.zero_le _, Nat.zero_le _⟩ (fun r u H locs hq hP hD hS => ?_)
      obtain ⟨rfl, rfl⟩ := hq
      refine lv_if_eq (tgt := 57) hx hb dX2_holeOfLeader_40 (by decide) (fun c_6 => ?_) (fun c_6 => ?_)
      · skip
        have c_6 : ¬ (0 ≤ (nI (σ 6 ii)).toInt ∧ (nI (σ 6 ii)).toInt < 200 ∧ σ 1 (nI (σ 6 ii)).toInt.toNat ≠ 0) := pI_0.mp c_6
        have c_6 : ¬ (σ 1 (σ 6 ii) ≠ 0) := mt (isH_n (by omega)).mpr c_6
        refine lv_iconst (v := (-1)) hx hb dX2_holeOfLeader_57 (by decide) ?_
        exact ret_i (σ, δ, w0) hx hb hr rfl hK hlocks hP hD hS ⟨by first | (rw [show hol σ ii = 0 from if_pos (by omega)]; exact mI_0.symm) | (rw [show hol σ ii = 0 from by (unfold hol; rw [if_neg (by omega), if_pos (by omega)]; omega)]; exact mI_0.symm), rfl⟩ dX2_holeOfLeader_58
      · skip
        have c_6 : 0 ≤ (nI (σ 6 ii)).toInt ∧ (nI (σ 6 ii)).toInt < 200 ∧ σ 1 (nI (σ 6 ii)).toInt.toNat ≠ 0 := Decidable.not_not.mp (mt pI_0.mpr c_6)
        have c_6 : σ 1 (σ 6 ii) ≠ 0 := (isH_n (by omega)).mp c_6
        refine lv_aload_n hx hb dX2_holeOfLeader_43 rfl (lv_at hl 0 rfl) ?_
        refine va_get (D := D) (ci := 1) (v := .ref (ad 2)) (C := RX2) (T := TX2) (N := 19) hx hb hts hin hown hK hP 0 rfl rfl 4 (by decide) (hts (.fieldLink RX2 13 "HandCasesModel" "holeOf" "[I") (by decide +kernel)) (fun _ h9 => h9) rfl dX2_holeOfLeader_44 ?_
        refine lv_aload_n hx hb dX2_holeOfLeader_47 rfl (lv_at hl 0 rfl) ?_
        refine va_get (D := D) (ci := 1) (v := .ref (ad 6)) (C := RX2) (T := TX2) (N := 19) hx hb hts hin hown hK hP 0 rfl rfl 9 (by decide) (hts (.fieldLink RX2 26 "HandCasesModel" "number" "[I") (by decide +kernel)) (fun _ h9 => h9) rfl dX2_holeOfLeader_48 ?_
        refine lv_iload_n hx hb dX2_holeOfLeader_51 rfl (lv_at hl 1 rfl) ?_
        have b_7 := b6 hI ii
        refine q_iald (v := nI (σ 6 ii)) hx hb hK hP 6 0 rfl rfl ii (nI_toInt (by omega)) (by omega) rfl dX2_holeOfLeader_52 ?_
        have b_8 := b2 hI (σ 6 ii)
        refine q_iald (v := mI (σ 2 (σ 6 ii))) hx hb hK hP 2 0 rfl rfl (σ 6 ii) (nI_toInt (by omega)) (by omega) rfl dX2_holeOfLeader_53 ?_
        refine lv_goto (tgt := 58) hx hb dX2_holeOfLeader_54 (by decide) ?_
        exact ret_i (σ, δ, w0) hx hb hr rfl hK hlocks hP hD hS ⟨congrArg mI (by unfold hol; rw [if_neg (by omega), if_pos (by omega)]), rfl⟩ dX2_holeOfLeader_58
    · skip
      have c_4 := mt (cq_lt (mI_toInt (by omega)) (show (0 : Int32).toInt = (0 : Int) from by decide)).mpr c_4
      refine lv_aload_n hx hb dX2_holeOfLeader_21 rfl (lv_at hl 0 rfl) ?_
      refine va_get (D := D) (ci := 1) (v := .ref (ad 8)) (C := RX2) (T := TX2) (N := 19) hx hb hts hin hown hK hP 0 rfl rfl 11 (by decide) (hts (.fieldLink RX2 32 "HandCasesModel" "told" "[I") (by decide +kernel)) (fun _ h9 => h9) rfl dX2_holeOfLeader_22 ?_
      refine lv_iload_n hx hb dX2_holeOfLeader_25 rfl (lv_at hl 1 rfl) ?_
      have b_9 := b8 hI ii
      refine q_iald (v := mI (σ 8 ii)) hx hb hK hP 8 0 rfl rfl ii (nI_toInt (by omega)) (by omega) rfl dX2_holeOfLeader_26 ?_
      refine lv_goto (tgt := 58) hx hb dX2_holeOfLeader_27 (by decide) ?_
      exact ret_i (σ, δ, w0) hx hb hr rfl hK hlocks hP hD hS ⟨congrArg mI (by unfold hol; rw [if_neg (by omega), if_neg (by omega)]), rfl⟩ dX2_holeOfLeader_58
  · skip
    have c_2 := (cq_eq (nI_toInt (by omega)) (show (2 : Int32).toInt = (2 : Int) from by decide)).mp c_2
    refine lv_iconst (v := (-1)) hx hb dX2_holeOfLeader_10 (by decide) ?_
    exact ret_i (σ, δ, w0) hx hb hr rfl hK hlocks hP hD hS ⟨by first | (rw [show hol σ ii = 0 from if_pos (by omega)]; exact mI_0.symm) | (rw [show hol σ ii = 0 from by (unfold hol; rw [if_neg (by omega), if_pos (by omega)]; omega)]; exact mI_0.symm), rfl⟩ dX2_holeOfLeader_11

set_option maxHeartbeats 4000000 in
set_option maxRecDepth 100000 in
theorem c_X2_isWrong (l : Launch) (cI cZ : ClassId) (D : va_G) (ad pl : Nat → Nat) (tb sz : Nat) (σ δ : Sg) (w0 : Int32) (ii : Nat) (hI : Inv σ) (hi : ii < 250) : CtI l yX2_isWrong wsX2_isWrong ({ frames := 3, cells := 0, slots := 0, locals := 64 }) cI cZ D ad pl tb sz (WM cI cZ ad) (σ, δ, w0) [.ref (ad 0), .int (nI ii)] (fun r u => r = pI (wr σ ii) ∧ u = (σ, δ, w0)) := by
  refine Met.ofW (cc := cX2_isWrong) (maxL := 3) (ret := (some .boolean)) (by decide) rfl ?_
  intro p e s m args below meth c s₁ B hml hv
  obtain ⟨rfl, hsz, hP, hK, hD0, hZ⟩ := hv
  have hx := B.exec
  have hb := B.bytes
  have hr := B.returns
  have hts := atoms_spec (ws := wsX2_isWrong) B.pre
  have hown : s.vm.findClass RX2 = some m.cls := findClass_of_methodNamed B.named
  have hlocks := B.notSynchronized
  have hin : ∀ w ∈ wsX20, w ∈ wsX2_isWrong := fun w h => List.mem_cons_of_mem _ (List.mem_append_right _ h)
  subst hsz
  have hD : va_D (AC ad s.heap.size) (WM cI cZ ad (σ, δ, w0)) := AC_self WAd_m hD0
  have hA : ∀ q : Nat, s.heap.size ≤ q → AC ad s.heap.size q := fun q h => Or.inr h
  have hS : va_S (AC ad s.heap.size) s.heap s.heap [] := va_S.rf
  have hl := lv_entry ([.ref (ad 0), .int (nI ii)]) (n := 3) (Nat.le_of_ble_eq_true rfl)
  rw [lg_entry_eq]
  generalize (lg_sl ([.ref (ad 0), .int (nI ii)]) ++ List.replicate (3 - (lg_sl ([.ref (ad 0), .int (nI ii)])).length) Slot.unset).toArray = ls at hl ⊢
  have hl : lv_has ls 3 [(0, .ref (ad 0)), (1, .int (nI ii))] := hl
  have f_h := I_nh hI (h := σ 6 ii) (b6 hI ii)
  refine lv_aload_n hx hb dX2_isWrong_0 rfl (lv_at hl 0 rfl) ?_
  refine lv_iload_n hx hb dX2_isWrong_1 rfl (lv_at hl 1 rfl) ?_
  refine call_i (As := [.int (nI ii)]) (rest := []) WAd_m ⟨hx, hb, hml, hown, hts⟩ (c_X2_holeOfLeader l cI cZ D ad pl tb _ σ δ w0 ii hI (by omega)) (cwV 1 hts gX2_isWrong_X2_holeOfLeader rfl rfl rfl (by decide +kernel) ⟨Nat.le_of_ble_eq_true rfl, Nat.le_of_ble_eq_true rfl⟩) (va_recv hK hP (ci := 1) (q0 := 0) rfl rfl) hK hP hD hS hA hZ rfl rfl (Nat.le_of_ble_eq_true rfl) hl.1 dX2_isWrong_2 ⟨Nat.zero_le _, Nat.zero_le _⟩ (fun r u H locs hq hP hD hS => ?_)
  obtain ⟨rfl, rfl⟩ := hq
  have b_1 := hol_le hI ii
  refine lv_istore_n (lv' := [(2, .int (mI (hol σ ii))), (0, .ref (ad 0)), (1, .int (nI ii))]) hx hb dX2_isWrong_5 rfl hl (by decide) rfl (fun ls hl => ?_)
  refine lv_iload_n hx hb dX2_isWrong_6 rfl (lv_at hl 0 rfl) ?_
  refine lv_if_lt (tgt := 42) hx hb dX2_isWrong_7 (by decide) (fun c_2 => ?_) (fun c_2 => ?_)
  · skip
    have c_2 := (cq_lt (mI_toInt (by omega)) (show (0 : Int32).toInt = (0 : Int) from by decide)).mp c_2
    refine lv_iconst (v := 0) hx hb dX2_isWrong_42 (by decide) ?_
    exact ret_i (σ, δ, w0) hx hb hr rfl hK hlocks hP hD hS ⟨pI_f (show ¬ (hol σ ii ≠ 0 ∧ hol σ ii ≠ σ 2 (σ 6 ii)) from by omega), rfl⟩ dX2_isWrong_43
  · skip
    have c_2 := mt (cq_lt (mI_toInt (by omega)) (show (0 : Int32).toInt = (0 : Int) from by decide)).mpr c_2
    refine lv_aload_n hx hb dX2_isWrong_10 rfl (lv_at hl 1 rfl) ?_
    refine lv_aload_n hx hb dX2_isWrong_11 rfl (lv_at hl 1 rfl) ?_
    refine va_get (D := D) (ci := 1) (v := .ref (ad 6)) (C := RX2) (T := TX2) (N := 19) hx hb hts hin hown hK hP 0 rfl rfl 9 (by decide) (hts (.fieldLink RX2 26 "HandCasesModel" "number" "[I") (by decide +kernel)) (fun _ h9 => h9) rfl dX2_isWrong_12 ?_
    refine lv_iload_n hx hb dX2_isWrong_15 rfl (lv_at hl 2 rfl) ?_
    have b_3 := b6 hI ii
    refine q_iald (v := nI (σ 6 ii)) hx hb hK hP 6 0 rfl rfl ii (nI_toInt (by omega)) (by omega) rfl dX2_isWrong_16 ?_
    refine call_i (As := [.int (nI (σ 6 ii))]) (rest := []) WAd_m ⟨hx, hb, hml, hown, hts⟩ (c_X2_isHouse l cI cZ D ad pl tb _ σ δ w0 (nI (σ 6 ii)) hI) (cwV 1 hts gX2_isWrong_X2_isHouse rfl rfl rfl (by decide +kernel) ⟨Nat.le_of_ble_eq_true rfl, Nat.le_of_ble_eq_true rfl⟩) (va_recv hK hP (ci := 1) (q0 := 0) rfl rfl) hK hP hD hS hA hZ rfl rfl (Nat.le_of_ble_eq_true rfl) hl.1 dX2_isWrong_17 ⟨Nat.zero_le _, Nat.zero_le _⟩ (fun r u H locs hq hP hD hS => ?_)
    obtain ⟨rfl, rfl⟩ := hq
    refine lv_if_eq (tgt := 38) hx hb dX2_isWrong_20 (by decide) (fun c_4 => ?_) (fun c_4 => ?_)
    · skip
      have c_4 : ¬ (0 ≤ (nI (σ 6 ii)).toInt ∧ (nI (σ 6 ii)).toInt < 200 ∧ σ 1 (nI (σ 6 ii)).toInt.toNat ≠ 0) := pI_0.mp c_4
      have c_4 : ¬ (σ 1 (σ 6 ii) ≠ 0) := mt (isH_n (by omega)).mpr c_4
      refine lv_iconst (v := 1) hx hb dX2_isWrong_38 (by decide) ?_
      refine lv_goto (tgt := 43) hx hb dX2_isWrong_39 (by decide) ?_
      exact ret_i (σ, δ, w0) hx hb hr rfl hK hlocks hP hD hS ⟨pI_t (show (hol σ ii ≠ 0 ∧ hol σ ii ≠ σ 2 (σ 6 ii)) from by omega), rfl⟩ dX2_isWrong_43
    · skip
      have c_4 : 0 ≤ (nI (σ 6 ii)).toInt ∧ (nI (σ 6 ii)).toInt < 200 ∧ σ 1 (nI (σ 6 ii)).toInt.toNat ≠ 0 := Decidable.not_not.mp (mt pI_0.mpr c_4)
      have c_4 : σ 1 (σ 6 ii) ≠ 0 := (isH_n (by omega)).mp c_4
      refine lv_aload_n hx hb dX2_isWrong_23 rfl (lv_at hl 1 rfl) ?_
      refine va_get (D := D) (ci := 1) (v := .ref (ad 2)) (C := RX2) (T := TX2) (N := 19) hx hb hts hin hown hK hP 0 rfl rfl 4 (by decide) (hts (.fieldLink RX2 13 "HandCasesModel" "holeOf" "[I") (by decide +kernel)) (fun _ h9 => h9) rfl dX2_isWrong_24 ?_
      refine lv_aload_n hx hb dX2_isWrong_27 rfl (lv_at hl 1 rfl) ?_
      refine va_get (D := D) (ci := 1) (v := .ref (ad 6)) (C := RX2) (T := TX2) (N := 19) hx hb hts hin hown hK hP 0 rfl rfl 9 (by decide) (hts (.fieldLink RX2 26 "HandCasesModel" "number" "[I") (by decide +kernel)) (fun _ h9 => h9) rfl dX2_isWrong_28 ?_
      refine lv_iload_n hx hb dX2_isWrong_31 rfl (lv_at hl 2 rfl) ?_
      have b_5 := b6 hI ii
      refine q_iald (v := nI (σ 6 ii)) hx hb hK hP 6 0 rfl rfl ii (nI_toInt (by omega)) (by omega) rfl dX2_isWrong_32 ?_
      have b_6 := b2 hI (σ 6 ii)
      refine q_iald (v := mI (σ 2 (σ 6 ii))) hx hb hK hP 2 0 rfl rfl (σ 6 ii) (nI_toInt (by omega)) (by omega) rfl dX2_isWrong_33 ?_
      refine lv_iload_n hx hb dX2_isWrong_34 rfl (lv_at hl 0 rfl) ?_
      refine lv_icmp_eq (tgt := 42) hx hb dX2_isWrong_35 (by decide) (fun c_7 => ?_) (fun c_7 => ?_)
      · skip
        have c_7 := (cq_eq (mI_toInt (by omega)) (mI_toInt (by omega))).mp c_7
        refine lv_iconst (v := 0) hx hb dX2_isWrong_42 (by decide) ?_
        exact ret_i (σ, δ, w0) hx hb hr rfl hK hlocks hP hD hS ⟨pI_f (show ¬ (hol σ ii ≠ 0 ∧ hol σ ii ≠ σ 2 (σ 6 ii)) from by omega), rfl⟩ dX2_isWrong_43
      · skip
        have c_7 := mt (cq_eq (mI_toInt (by omega)) (mI_toInt (by omega))).mpr c_7
        refine lv_iconst (v := 1) hx hb dX2_isWrong_38 (by decide) ?_
        refine lv_goto (tgt := 43) hx hb dX2_isWrong_39 (by decide) ?_
        exact ret_i (σ, δ, w0) hx hb hr rfl hK hlocks hP hD hS ⟨pI_t (show (hol σ ii ≠ 0 ∧ hol σ ii ≠ σ 2 (σ 6 ii)) from by omega), rfl⟩ dX2_isWrong_43

set_option maxHeartbeats 4000000 in
set_option maxRecDepth 100000 in
theorem c_X2_put (l : Launch) (cI cZ : ClassId) (D : va_G) (ad pl : Nat → Nat) (tb sz : Nat) (σ δ : Sg) (w0 : Int32) (p0 p1 : Int32) (hI : Inv σ) : CtI l yX2_put wsX2_put ({ frames := 4, cells := 0, slots := 0, locals := 86 }) cI cZ D ad pl tb sz (WM cI cZ ad) (σ, δ, w0) [.ref (ad 0), .int p0, .int p1] (fun r u => ∃ δ1 w1, u = ((oPut σ p0 p1).2, δ1, w1) ∧ r = (oPut σ p0 p1).1) := by
  refine Met.ofW (cc := cX2_put) (maxL := 3) (ret := (some .int)) (by decide) rfl ?_
  intro p e s m args below meth c s₁ B hml hv
  obtain ⟨rfl, hsz, hP, hK, hD0, hZ⟩ := hv
  have hx := B.exec
  have hb := B.bytes
  have hr := B.returns
  have hts := atoms_spec (ws := wsX2_put) B.pre
  have hown : s.vm.findClass RX2 = some m.cls := findClass_of_methodNamed B.named
  have hlocks := B.notSynchronized
  have hin : ∀ w ∈ wsX20, w ∈ wsX2_put := fun w h => List.mem_cons_of_mem _ (List.mem_append_right _ h)
  subst hsz
  have hD : va_D (AC ad s.heap.size) (WM cI cZ ad (σ, δ, w0)) := AC_self WAd_m hD0
  have hA : ∀ q : Nat, s.heap.size ≤ q → AC ad s.heap.size q := fun q h => Or.inr h
  have hS : va_S (AC ad s.heap.size) s.heap s.heap [] := va_S.rf
  have hl := lv_entry ([.ref (ad 0), .int p0, .int p1]) (n := 3) (Nat.le_of_ble_eq_true rfl)
  rw [lg_entry_eq]
  generalize (lg_sl ([.ref (ad 0), .int p0, .int p1]) ++ List.replicate (3 - (lg_sl ([.ref (ad 0), .int p0, .int p1])).length) Slot.unset).toArray = ls at hl ⊢
  have hl : lv_has ls 3 [(0, .ref (ad 0)), (1, .int p0), (2, .int p1)] := hl
  refine lv_aload_n hx hb dX2_put_0 rfl (lv_at hl 0 rfl) ?_
  refine lv_iconst (v := 0) hx hb dX2_put_1 (by decide) ?_
  refine va_put (D := D) (ci := 1) (v := .int 0) (ty := .int) (C := RX2) (T := TX2) (N := 19) hx hb hts hin tyX2 tyX2_ok nmX2 hown hK hP hD hS 0 rfl rfl 1 (by decide) (hts (.fieldLink RX2 48 "HandCasesModel" "fault" "I") (by decide +kernel)) (fun _ h9 => h9) rfl (by decide +kernel) rfl rfl (Nat.le_of_ble_eq_true rfl) dX2_put_2 (fun H locs hP hD hS => ?_)
  have hP : va_P D vwCl (WM cI cZ ad (σ, setA δ 0 0 0, w0)) H := hP
  have hD : va_D (AC ad s.heap.size) (WM cI cZ ad (σ, setA δ 0 0 0, w0)) := hD
  refine lv_aload_n hx hb dX2_put_5 rfl (lv_at hl 0 rfl) ?_
  refine lv_iload_n hx hb dX2_put_6 rfl (lv_at hl 1 rfl) ?_
  refine call_i (As := [.int p0]) (rest := []) WAd_m ⟨hx, hb, hml, hown, hts⟩ (c_X2_isItem l cI cZ D ad pl tb _ σ (setA δ 0 0 0) w0 p0 hI) (cwV 1 hts gX2_put_X2_isItem rfl rfl rfl (by decide +kernel) ⟨Nat.le_of_ble_eq_true rfl, Nat.le_of_ble_eq_true rfl⟩) (va_recv hK hP (ci := 1) (q0 := 0) rfl rfl) hK hP hD hS hA hZ rfl rfl (Nat.le_of_ble_eq_true rfl) hl.1 dX2_put_7 ⟨Nat.zero_le _, Nat.zero_le _⟩ (fun r u H locs hq hP hD hS => ?_)
  obtain ⟨rfl, rfl⟩ := hq
  refine lv_if_ne (tgt := 15) hx hb dX2_put_10 (by decide) (fun c_1 => ?_) (fun c_1 => ?_)
  · skip
    have c_1 : 0 ≤ p0.toInt ∧ p0.toInt < (σ 11 0 : Nat) := Decidable.not_not.mp (mt pI_0.mpr c_1)
    have b_0 := b0 hI
    refine lv_iload_n hx hb dX2_put_15 rfl (lv_at hl 2 rfl) ?_
    refine lv_iconst (v := 0) hx hb dX2_put_16 (by decide) ?_
    refine lv_aload_n hx hb dX2_put_17 rfl (lv_at hl 0 rfl) ?_
    refine va_get (D := D) (ci := 1) (v := .int (nI (σ 0 0))) (C := RX2) (T := TX2) (N := 19) hx hb hts hin hown hK hP 0 rfl rfl 0 (by decide) (hts (.fieldLink RX2 44 "HandCasesModel" "holes" "I") (by decide +kernel)) (fun _ h9 => h9) rfl dX2_put_18 ?_
    have b_2 := b0 hI
    refine lv_iconst (v := 1) hx hb dX2_put_21 (by decide) ?_
    refine lv_isub hx hb dX2_put_22 ?_
    refine q_topi (mI (σ 0 0)) rfl ?_
    refine call_si (As := [.int p1, .int 0, .int (mI (σ 0 0))]) (rest := []) WAd_m ⟨hx, hb, hml, hown, hts⟩ (c_X2_in l cI cZ D ad pl tb _ σ (setA δ 0 0 0) w0 p1 0 (mI (σ 0 0))) (va_cwS 3 hts gX2_put_X2_in rfl rfl rfl (by decide +kernel) ⟨Nat.le_of_ble_eq_true rfl, Nat.le_of_ble_eq_true rfl⟩) hK hP hD hS hA hZ rfl rfl (Nat.le_of_ble_eq_true rfl) hl.1 dX2_put_23 ⟨Nat.zero_le _, Nat.zero_le _⟩ (fun r u H locs hq hP hD hS => ?_)
    obtain ⟨rfl, rfl⟩ := hq
    refine lv_if_ne (tgt := 32) hx hb dX2_put_26 (by decide) (fun c_3 => ?_) (fun c_3 => ?_)
    · skip
      have c_3 : (0 : Int32).toInt ≤ (p1 : Int32).toInt ∧ (p1 : Int32).toInt ≤ (mI (σ 0 0) : Int32).toInt := Decidable.not_not.mp (mt pI_0.mpr c_3)
      have c_3 : (0 : Int) ≤ p1.toInt ∧ p1.toInt ≤ (((σ 0 0) : Nat) : Int) - 1 := (in_c rfl (show (0 : Int32).toInt = (0 : Int) from by decide) (mI_toInt (by omega))).mp c_3
      obtain ⟨i0, e_i0, -, rfl⟩ := i_nat (p := p0) (by omega)
      obtain ⟨g0, e_g0, -, rfl⟩ := i_nat (p := p1) (by omega)
      have b_i := b11 hI
      refine lv_aload_n hx hb dX2_put_32 rfl (lv_at hl 0 rfl) ?_
      refine va_get (D := D) (ci := 1) (v := .ref (ad 7)) (C := RX2) (T := TX2) (N := 19) hx hb hts hin hown hK hP 0 rfl rfl 10 (by decide) (hts (.fieldLink RX2 29 "HandCasesModel" "kind" "[I") (by decide +kernel)) (fun _ h9 => h9) rfl dX2_put_33 ?_
      refine lv_iload_n hx hb dX2_put_36 rfl (lv_at hl 1 rfl) ?_
      have b_4 := b7 hI i0
      refine q_iald (v := nI (σ 7 i0)) hx hb hK hP 7 0 rfl rfl i0 (nI_toInt (by omega)) (by omega) rfl dX2_put_37 ?_
      refine lv_iconst (v := 2) hx hb dX2_put_38 (by decide) ?_
      refine lv_icmp_eq (tgt := 51) hx hb dX2_put_39 (by decide) (fun c_5 => ?_) (fun c_5 => ?_)
      · skip
        have c_5 := (cq_eq (nI_toInt (by omega)) (show (2 : Int32).toInt = (2 : Int) from by decide)).mp c_5
        refine lv_bipush (v := (-3)) hx hb dX2_put_51 (by decide) ?_
        have eo : oPut σ (nI i0) (nI g0) = ((-3), σ) := by unfold oPut; simp only [e_i0, e_g0, Int.toNat_natCast]; repeat (first | rw [if_pos (by omega)] | rw [if_neg (by omega)])
        exact ret_i (σ, setA δ 0 0 0, w0) hx hb hr rfl hK hlocks hP hD hS ⟨setA δ 0 0 0, w0, by rw [eo], by rw [eo]⟩ dX2_put_53
      · skip
        have c_5 := mt (cq_eq (nI_toInt (by omega)) (show (2 : Int32).toInt = (2 : Int) from by decide)).mpr c_5
        refine lv_aload_n hx hb dX2_put_42 rfl (lv_at hl 0 rfl) ?_
        refine va_get (D := D) (ci := 1) (v := .ref (ad 10)) (C := RX2) (T := TX2) (N := 19) hx hb hts hin hown hK hP 0 rfl rfl 13 (by decide) (hts (.fieldLink RX2 38 "HandCasesModel" "before" "[I") (by decide +kernel)) (fun _ h9 => h9) rfl dX2_put_43 ?_
        refine lv_iload_n hx hb dX2_put_46 rfl (lv_at hl 1 rfl) ?_
        have b_6 := b9 hI i0
        refine q_iald (v := mI (σ 9 i0)) hx hb hK hP 10 0 rfl rfl i0 (nI_toInt (by omega)) (by omega) rfl dX2_put_47 ?_
        refine lv_if_lt (tgt := 54) hx hb dX2_put_48 (by decide) (fun c_7 => ?_) (fun c_7 => ?_)
        · skip
          have c_7 := (cq_lt (mI_toInt (by omega)) (show (0 : Int32).toInt = (0 : Int) from by decide)).mp c_7
          refine lv_aload_n hx hb dX2_put_54 rfl (lv_at hl 0 rfl) ?_
          refine va_get (D := D) (ci := 1) (v := .ref (ad 8)) (C := RX2) (T := TX2) (N := 19) hx hb hts hin hown hK hP 0 rfl rfl 11 (by decide) (hts (.fieldLink RX2 32 "HandCasesModel" "told" "[I") (by decide +kernel)) (fun _ h9 => h9) rfl dX2_put_55 ?_
          refine lv_iload_n hx hb dX2_put_58 rfl (lv_at hl 1 rfl) ?_
          refine lv_iload_n hx hb dX2_put_59 rfl (lv_at hl 2 rfl) ?_
          refine q_iast (ws2 := WM cI cZ ad (setA σ 8 i0 (g0 + 1), setA δ 0 0 0, w0)) hx hb hK hP hD hS 8 0 rfl rfl i0 (nI_toInt (by omega)) (by omega) (by rw [← mI_s]; exact updM) rfl dX2_put_60 (fun H locs hP hD hS => ?_)
          have hI2 : Inv (uPut σ i0 g0) := I_put hI (by omega)
          have hP : va_P D vwCl (WM cI cZ ad (uPut σ i0 g0, setA δ 0 0 0, w0)) H := hP
          have hD : va_D (AC ad s.heap.size) (WM cI cZ ad (uPut σ i0 g0, setA δ 0 0 0, w0)) := hD
          refine lv_aload_n hx hb dX2_put_61 rfl (lv_at hl 0 rfl) ?_
          refine lv_iload_n hx hb dX2_put_62 rfl (lv_at hl 1 rfl) ?_
          refine call_i (As := [.int (nI i0)]) (rest := []) WAd_m ⟨hx, hb, hml, hown, hts⟩ (c_X2_isWrong l cI cZ D ad pl tb _ (uPut σ i0 g0) (setA δ 0 0 0) w0 i0 hI2 (by omega)) (cwV 1 hts gX2_put_X2_isWrong rfl rfl rfl (by decide +kernel) ⟨Nat.le_of_ble_eq_true rfl, Nat.le_of_ble_eq_true rfl⟩) (va_recv hK hP (ci := 1) (q0 := 0) rfl rfl) hK hP hD hS hA hZ rfl rfl (Nat.le_of_ble_eq_true rfl) hl.1 dX2_put_63 ⟨Nat.zero_le _, Nat.zero_le _⟩ (fun r u H locs hq hP hD hS => ?_)
          obtain ⟨rfl, rfl⟩ := hq
          refine lv_if_eq (tgt := 73) hx hb dX2_put_66 (by decide) (fun c_8 => ?_) (fun c_8 => ?_)
          · skip
            have c_8 : ¬ (hol (uPut σ i0 g0) i0 ≠ 0 ∧ hol (uPut σ i0 g0) i0 ≠ (uPut σ i0 g0) 2 ((uPut σ i0 g0) 6 i0)) := pI_0.mp c_8
            refine lv_iconst (v := 0) hx hb dX2_put_73 (by decide) ?_
            have eo : oPut σ (nI i0) (nI g0) = (pI (hol (uPut σ i0 g0) i0 ≠ 0 ∧ hol (uPut σ i0 g0) i0 ≠ (uPut σ i0 g0) 2 ((uPut σ i0 g0) 6 i0)), uPut σ i0 g0) := by unfold oPut; simp only [e_i0, e_g0, Int.toNat_natCast]; repeat (first | rw [if_pos (by omega)] | rw [if_neg (by omega)])
            exact ret_i (uPut σ i0 g0, setA δ 0 0 0, w0) hx hb hr rfl hK hlocks hP hD hS ⟨setA δ 0 0 0, w0, by rw [eo], by rw [eo]; exact pI_f (by omega)⟩ dX2_put_74
          · skip
            have c_8 : hol (uPut σ i0 g0) i0 ≠ 0 ∧ hol (uPut σ i0 g0) i0 ≠ (uPut σ i0 g0) 2 ((uPut σ i0 g0) 6 i0) := Decidable.not_not.mp (mt pI_0.mpr c_8)
            refine lv_iconst (v := 1) hx hb dX2_put_69 (by decide) ?_
            refine lv_goto (tgt := 74) hx hb dX2_put_70 (by decide) ?_
            have eo : oPut σ (nI i0) (nI g0) = (pI (hol (uPut σ i0 g0) i0 ≠ 0 ∧ hol (uPut σ i0 g0) i0 ≠ (uPut σ i0 g0) 2 ((uPut σ i0 g0) 6 i0)), uPut σ i0 g0) := by unfold oPut; simp only [e_i0, e_g0, Int.toNat_natCast]; repeat (first | rw [if_pos (by omega)] | rw [if_neg (by omega)])
            exact ret_i (uPut σ i0 g0, setA δ 0 0 0, w0) hx hb hr rfl hK hlocks hP hD hS ⟨setA δ 0 0 0, w0, by rw [eo], by rw [eo]; exact pI_t (by omega)⟩ dX2_put_74
        · skip
          have c_7 := mt (cq_lt (mI_toInt (by omega)) (show (0 : Int32).toInt = (0 : Int) from by decide)).mpr c_7
          refine lv_bipush (v := (-3)) hx hb dX2_put_51 (by decide) ?_
          have eo : oPut σ (nI i0) (nI g0) = ((-3), σ) := by unfold oPut; simp only [e_i0, e_g0, Int.toNat_natCast]; repeat (first | rw [if_pos (by omega)] | rw [if_neg (by omega)])
          exact ret_i (σ, setA δ 0 0 0, w0) hx hb hr rfl hK hlocks hP hD hS ⟨setA δ 0 0 0, w0, by rw [eo], by rw [eo]⟩ dX2_put_53
    · skip
      have c_3 : ¬ ((0 : Int32).toInt ≤ (p1 : Int32).toInt ∧ (p1 : Int32).toInt ≤ (mI (σ 0 0) : Int32).toInt) := pI_0.mp c_3
      have c_3 : ¬ ((0 : Int) ≤ p1.toInt ∧ p1.toInt ≤ (((σ 0 0) : Nat) : Int) - 1) := mt (in_c rfl (show (0 : Int32).toInt = (0 : Int) from by decide) (mI_toInt (by omega))).mpr c_3
      refine lv_bipush (v := (-2)) hx hb dX2_put_29 (by decide) ?_
      have eo : oPut σ p0 p1 = ((-2), σ) := by unfold oPut; repeat (first | rw [if_pos (by omega)] | rw [if_neg (by omega)])
      exact ret_i (σ, setA δ 0 0 0, w0) hx hb hr rfl hK hlocks hP hD hS ⟨setA δ 0 0 0, w0, by rw [eo], by rw [eo]⟩ dX2_put_31
  · skip
    have c_1 : ¬ (0 ≤ p0.toInt ∧ p0.toInt < (σ 11 0 : Nat)) := pI_0.mp c_1
    refine lv_iconst (v := (-1)) hx hb dX2_put_13 (by decide) ?_
    have eo : oPut σ p0 p1 = ((-1), σ) := by unfold oPut; repeat (first | rw [if_pos (by omega)] | rw [if_neg (by omega)])
    exact ret_i (σ, setA δ 0 0 0, w0) hx hb hr rfl hK hlocks hP hD hS ⟨setA δ 0 0 0, w0, by rw [eo], by rw [eo]⟩ dX2_put_14

set_option maxHeartbeats 4000000 in
set_option maxRecDepth 100000 in
theorem c_X2_hold (l : Launch) (cI cZ : ClassId) (D : va_G) (ad pl : Nat → Nat) (tb sz : Nat) (σ δ : Sg) (w0 : Int32) (p0 : Int32) (on : Nat) (hI : Inv σ) (hon : on ≤ 1) : CtI l yX2_hold wsX2_hold ({ frames := 2, cells := 0, slots := 0, locals := 43 }) cI cZ D ad pl tb sz (WM cI cZ ad) (σ, δ, w0) [.ref (ad 0), .int p0, .int (nI on)] (fun r u => ∃ δ1 w1, u = ((oHold σ p0 on).2, δ1, w1) ∧ r = (oHold σ p0 on).1) := by
  refine Met.ofW (cc := cX2_hold) (maxL := 4) (ret := (some .boolean)) (by decide) rfl ?_
  intro p e s m args below meth c s₁ B hml hv
  obtain ⟨rfl, hsz, hP, hK, hD0, hZ⟩ := hv
  have hx := B.exec
  have hb := B.bytes
  have hr := B.returns
  have hts := atoms_spec (ws := wsX2_hold) B.pre
  have hown : s.vm.findClass RX2 = some m.cls := findClass_of_methodNamed B.named
  have hlocks := B.notSynchronized
  have hin : ∀ w ∈ wsX20, w ∈ wsX2_hold := fun w h => List.mem_cons_of_mem _ (List.mem_append_right _ h)
  subst hsz
  have hD : va_D (AC ad s.heap.size) (WM cI cZ ad (σ, δ, w0)) := AC_self WAd_m hD0
  have hA : ∀ q : Nat, s.heap.size ≤ q → AC ad s.heap.size q := fun q h => Or.inr h
  have hS : va_S (AC ad s.heap.size) s.heap s.heap [] := va_S.rf
  have hl := lv_entry ([.ref (ad 0), .int p0, .int (nI on)]) (n := 4) (Nat.le_of_ble_eq_true rfl)
  rw [lg_entry_eq]
  generalize (lg_sl ([.ref (ad 0), .int p0, .int (nI on)]) ++ List.replicate (4 - (lg_sl ([.ref (ad 0), .int p0, .int (nI on)])).length) Slot.unset).toArray = ls at hl ⊢
  have hl : lv_has ls 4 [(0, .ref (ad 0)), (1, .int p0), (2, .int (nI on))] := hl
  refine lv_aload_n hx hb dX2_hold_0 rfl (lv_at hl 0 rfl) ?_
  refine lv_iconst (v := 0) hx hb dX2_hold_1 (by decide) ?_
  refine va_put (D := D) (ci := 1) (v := .int 0) (ty := .int) (C := RX2) (T := TX2) (N := 19) hx hb hts hin tyX2 tyX2_ok nmX2 hown hK hP hD hS 0 rfl rfl 1 (by decide) (hts (.fieldLink RX2 48 "HandCasesModel" "fault" "I") (by decide +kernel)) (fun _ h9 => h9) rfl (by decide +kernel) rfl rfl (Nat.le_of_ble_eq_true rfl) dX2_hold_2 (fun H locs hP hD hS => ?_)
  have hP : va_P D vwCl (WM cI cZ ad (σ, setA δ 0 0 0, w0)) H := hP
  have hD : va_D (AC ad s.heap.size) (WM cI cZ ad (σ, setA δ 0 0 0, w0)) := hD
  refine lv_aload_n hx hb dX2_hold_5 rfl (lv_at hl 0 rfl) ?_
  refine lv_iload_n hx hb dX2_hold_6 rfl (lv_at hl 1 rfl) ?_
  refine call_i (As := [.int p0]) (rest := []) WAd_m ⟨hx, hb, hml, hown, hts⟩ (c_X2_isHouse l cI cZ D ad pl tb _ σ (setA δ 0 0 0) w0 p0 hI) (cwV 1 hts gX2_hold_X2_isHouse rfl rfl rfl (by decide +kernel) ⟨Nat.le_of_ble_eq_true rfl, Nat.le_of_ble_eq_true rfl⟩) (va_recv hK hP (ci := 1) (q0 := 0) rfl rfl) hK hP hD hS hA hZ rfl rfl (Nat.le_of_ble_eq_true rfl) hl.1 dX2_hold_7 ⟨Nat.zero_le _, Nat.zero_le _⟩ (fun r u H locs hq hP hD hS => ?_)
  obtain ⟨rfl, rfl⟩ := hq
  refine lv_if_eq (tgt := 27) hx hb dX2_hold_10 (by decide) (fun c_1 => ?_) (fun c_1 => ?_)
  · skip
    have c_1 : ¬ (0 ≤ p0.toInt ∧ p0.toInt < 200 ∧ σ 1 p0.toInt.toNat ≠ 0) := pI_0.mp c_1
    refine lv_iconst (v := 0) hx hb dX2_hold_27 (by decide) ?_
    refine lv_istore_n (lv' := [(3, .int 0), (0, .ref (ad 0)), (1, .int p0), (2, .int (nI on))]) hx hb dX2_hold_28 rfl hl (by decide) rfl (fun ls hl => ?_)
    refine lv_iload_n hx hb dX2_hold_29 rfl (lv_at hl 0 rfl) ?_
    refine lv_if_eq (tgt := 40) hx hb dX2_hold_30 (by decide) (fun c_2 => ?_) (fun c_2 => ?_)
    · skip
      have c_2 := (cq_eq (show (0 : Int32).toInt = (0 : Int) from by decide) (show (0 : Int32).toInt = (0 : Int) from by decide)).mp c_2
      refine lv_iload_n hx hb dX2_hold_40 rfl (lv_at hl 0 rfl) ?_
      have eo : oHold σ p0 on = (0, σ) := by unfold oHold; repeat (first | rw [if_pos (by omega)] | rw [if_neg (by omega)])
      exact ret_i (σ, setA δ 0 0 0, w0) hx hb hr rfl hK hlocks hP hD hS ⟨setA δ 0 0 0, w0, by rw [eo], by rw [eo]⟩ dX2_hold_41
    · skip
      have c_2 := mt (cq_eq (show (0 : Int32).toInt = (0 : Int) from by decide) (show (0 : Int32).toInt = (0 : Int) from by decide)).mpr c_2
      exfalso; omega
  · skip
    have c_1 : 0 ≤ p0.toInt ∧ p0.toInt < 200 ∧ σ 1 p0.toInt.toNat ≠ 0 := Decidable.not_not.mp (mt pI_0.mpr c_1)
    obtain ⟨h0, e_h0, -, rfl⟩ := i_nat (p := p0) (by omega)
    simp only [e_h0, Int.toNat_natCast] at c_1
    refine lv_aload_n hx hb dX2_hold_13 rfl (lv_at hl 0 rfl) ?_
    refine va_get (D := D) (ci := 1) (v := .ref (ad 3)) (C := RX2) (T := TX2) (N := 19) hx hb hts hin hown hK hP 0 rfl rfl 5 (by decide) (hts (.fieldLink RX2 16 "HandCasesModel" "isHeld" "[Z") (by decide +kernel)) (fun _ h9 => h9) rfl dX2_hold_14 ?_
    refine lv_iload_n hx hb dX2_hold_17 rfl (lv_at hl 1 rfl) ?_
    have b_3 := b3 hI h0
    refine q_zald (v := nI (σ 3 h0)) hx hb hK hP 3 1 rfl rfl h0 (nI_toInt (by omega)) (by omega) rfl dX2_hold_18 ?_
    refine lv_iload_n hx hb dX2_hold_19 rfl (lv_at hl 2 rfl) ?_
    refine lv_icmp_eq (tgt := 27) hx hb dX2_hold_20 (by decide) (fun c_4 => ?_) (fun c_4 => ?_)
    · skip
      have c_4 := (cq_eq (nI_toInt (by omega)) (nI_toInt (by omega))).mp c_4
      refine lv_iconst (v := 0) hx hb dX2_hold_27 (by decide) ?_
      refine lv_istore_n (lv' := [(3, .int 0), (0, .ref (ad 0)), (1, .int (nI h0)), (2, .int (nI on))]) hx hb dX2_hold_28 rfl hl (by decide) rfl (fun ls hl => ?_)
      refine lv_iload_n hx hb dX2_hold_29 rfl (lv_at hl 0 rfl) ?_
      refine lv_if_eq (tgt := 40) hx hb dX2_hold_30 (by decide) (fun c_5 => ?_) (fun c_5 => ?_)
      · skip
        have c_5 := (cq_eq (show (0 : Int32).toInt = (0 : Int) from by decide) (show (0 : Int32).toInt = (0 : Int) from by decide)).mp c_5
        refine lv_iload_n hx hb dX2_hold_40 rfl (lv_at hl 0 rfl) ?_
        have eo : oHold σ (nI h0) on = (0, σ) := by unfold oHold; simp only [e_h0, Int.toNat_natCast]; repeat (first | rw [if_pos (by omega)] | rw [if_neg (by omega)])
        exact ret_i (σ, setA δ 0 0 0, w0) hx hb hr rfl hK hlocks hP hD hS ⟨setA δ 0 0 0, w0, by rw [eo], by rw [eo]⟩ dX2_hold_41
      · skip
        have c_5 := mt (cq_eq (show (0 : Int32).toInt = (0 : Int) from by decide) (show (0 : Int32).toInt = (0 : Int) from by decide)).mpr c_5
        exfalso; omega
    · skip
      have c_4 := mt (cq_eq (nI_toInt (by omega)) (nI_toInt (by omega))).mpr c_4
      refine lv_iconst (v := 1) hx hb dX2_hold_23 (by decide) ?_
      refine lv_goto (tgt := 28) hx hb dX2_hold_24 (by decide) ?_
      refine lv_istore_n (lv' := [(3, .int 1), (0, .ref (ad 0)), (1, .int (nI h0)), (2, .int (nI on))]) hx hb dX2_hold_28 rfl hl (by decide) rfl (fun ls hl => ?_)
      refine lv_iload_n hx hb dX2_hold_29 rfl (lv_at hl 0 rfl) ?_
      refine lv_if_eq (tgt := 40) hx hb dX2_hold_30 (by decide) (fun c_6 => ?_) (fun c_6 => ?_)
      · skip
        have c_6 := (cq_eq (show (1 : Int32).toInt = (1 : Int) from by decide) (show (0 : Int32).toInt = (0 : Int) from by decide)).mp c_6
        exfalso; omega
      · skip
        have c_6 := mt (cq_eq (show (1 : Int32).toInt = (1 : Int) from by decide) (show (0 : Int32).toInt = (0 : Int) from by decide)).mpr c_6
        refine lv_aload_n hx hb dX2_hold_33 rfl (lv_at hl 1 rfl) ?_
        refine va_get (D := D) (ci := 1) (v := .ref (ad 3)) (C := RX2) (T := TX2) (N := 19) hx hb hts hin hown hK hP 0 rfl rfl 5 (by decide) (hts (.fieldLink RX2 16 "HandCasesModel" "isHeld" "[Z") (by decide +kernel)) (fun _ h9 => h9) rfl dX2_hold_34 ?_
        refine lv_iload_n hx hb dX2_hold_37 rfl (lv_at hl 2 rfl) ?_
        refine lv_iload_n hx hb dX2_hold_38 rfl (lv_at hl 3 rfl) ?_
        refine q_zast (ws2 := WM cI cZ ad (setA σ 3 h0 on, setA δ 0 0 0, w0)) hx hb hK hP hD hS 3 1 rfl rfl h0 (nI_toInt (by omega)) (by omega) (by rw [nar_z hon]; exact updN) rfl dX2_hold_39 (fun H locs hP hD hS => ?_)
        have hP : va_P D vwCl (WM cI cZ ad (uHold σ h0 on, setA δ 0 0 0, w0)) H := hP
        have hD : va_D (AC ad s.heap.size) (WM cI cZ ad (uHold σ h0 on, setA δ 0 0 0, w0)) := hD
        refine lv_iload_n hx hb dX2_hold_40 rfl (lv_at hl 0 rfl) ?_
        have eo : oHold σ (nI h0) on = (1, uHold σ h0 on) := by unfold oHold; simp only [e_h0, Int.toNat_natCast]; repeat (first | rw [if_pos (by omega)] | rw [if_neg (by omega)])
        exact ret_i (uHold σ h0 on, setA δ 0 0 0, w0) hx hb hr rfl hK hlocks hP hD hS ⟨setA δ 0 0 0, w0, by rw [eo], by rw [eo]⟩ dX2_hold_41

set_option maxHeartbeats 4000000 in
set_option maxRecDepth 100000 in
theorem c_X2_carrierAt (l : Launch) (cI cZ : ClassId) (D : va_G) (ad pl : Nat → Nat) (tb sz : Nat) (σ δ : Sg) (w0 : Int32) (gg : Nat) (hI : Inv σ) (hg : gg < σ 0 0) : CtI l yX2_carrierAt wsX2_carrierAt ({ frames := 0, cells := 0, slots := 0, locals := 0 }) cI cZ D ad pl tb sz (WM cI cZ ad) (σ, δ, w0) [.ref (ad 0), .int (nI gg)] (fun r u => r = mI (leastN σ gg (σ 5 0)) ∧ u = (σ, δ, w0)) := by
  refine Met.ofW (cc := cX2_carrierAt) (maxL := 4) (ret := (some .int)) (by decide) rfl ?_
  intro p e s m args below meth c s₁ B hml hv
  obtain ⟨rfl, hsz, hP, hK, hD0, hZ⟩ := hv
  have hx := B.exec
  have hb := B.bytes
  have hr := B.returns
  have hts := atoms_spec (ws := wsX2_carrierAt) B.pre
  have hown : s.vm.findClass RX2 = some m.cls := findClass_of_methodNamed B.named
  have hlocks := B.notSynchronized
  have hin : ∀ w ∈ wsX20, w ∈ wsX2_carrierAt := fun w h => List.mem_cons_of_mem _ (List.mem_append_right _ h)
  subst hsz
  have hD : va_D (AC ad s.heap.size) (WM cI cZ ad (σ, δ, w0)) := AC_self WAd_m hD0
  have hA : ∀ q : Nat, s.heap.size ≤ q → AC ad s.heap.size q := fun q h => Or.inr h
  have hS : va_S (AC ad s.heap.size) s.heap s.heap [] := va_S.rf
  have hl := lv_entry ([.ref (ad 0), .int (nI gg)]) (n := 4) (Nat.le_of_ble_eq_true rfl)
  rw [lg_entry_eq]
  generalize (lg_sl ([.ref (ad 0), .int (nI gg)]) ++ List.replicate (4 - (lg_sl ([.ref (ad 0), .int (nI gg)])).length) Slot.unset).toArray = ls at hl ⊢
  have hl : lv_has ls 4 [(0, .ref (ad 0)), (1, .int (nI gg))] := hl
  have b_0 := b0 hI
  refine lv_iconst (v := (-1)) hx hb dX2_carrierAt_0 (by decide) ?_
  refine lv_istore_n (lv' := [(2, .int (-1)), (0, .ref (ad 0)), (1, .int (nI gg))]) hx hb dX2_carrierAt_1 rfl hl (by decide) rfl (fun ls hl => ?_)
  refine lv_iconst (v := 0) hx hb dX2_carrierAt_2 (by decide) ?_
  refine lv_istore_n (lv' := [(3, .int 0), (2, .int (-1)), (0, .ref (ad 0)), (1, .int (nI gg))]) hx hb dX2_carrierAt_3 rfl hl (by decide) rfl (fun ls hl => ?_)
  refine W_loop (ι := Nat) 4 (fun (i : Nat) H locs ls => (i ≤ 200) ∧ va_P D vwCl (WM cI cZ ad (σ, δ, w0)) H ∧ va_D (AC ad s.heap.size) (WM cI cZ ad (σ, δ, w0)) ∧ va_S (AC ad s.heap.size) s.heap H locs ∧ lv_has ls 4 [(0, .ref (ad 0)), (1, .int (nI gg)), (2, .int (mI (leastM σ gg i))), (3, .int (nI i))]) (fun (i : Nat) => 200 - i) ?_ 0 _ _ _ ⟨by omega, hP, hD, hS, lv_as (lv_sub hl [2, 3, 1, 0] rfl) (lv_c rfl (lv_c rfl (lv_c (congrArg Value.int (show (-1 : Int32) = mI (leastM σ gg 0) from mI_0.symm)) (lv_c (congrArg Value.int (by rfl)) rfl))))⟩
  intro i H locs ls ⟨h1, hP, hD, hS, hl⟩ ih
  have b_l := leastM_le hI gg i
  refine lv_iload_n hx hb dX2_carrierAt_4 rfl (lv_at hl 3 rfl) ?_
  refine lv_sipush (v := 200) hx hb dX2_carrierAt_5 (by decide) ?_
  refine lv_icmp_ge (tgt := 56) hx hb dX2_carrierAt_8 (by decide) (fun c_1 => ?_) (fun c_1 => ?_)
  · skip
    have c_1 := (cq_le (show (200 : Int32).toInt = (200 : Int) from by decide) (nI_toInt (by omega))).mp c_1
    refine lv_iload_n hx hb dX2_carrierAt_56 rfl (lv_at hl 2 rfl) ?_
    exact ret_i (σ, δ, w0) hx hb hr rfl hK hlocks hP hD hS ⟨by rw [show i = 200 from by omega]; exact congrArg mI (P_least hI gg), rfl⟩ dX2_carrierAt_57
  · skip
    have c_1 := mt (cq_le (show (200 : Int32).toInt = (200 : Int) from by decide) (nI_toInt (by omega))).mpr c_1
    refine lv_aload_n hx hb dX2_carrierAt_11 rfl (lv_at hl 0 rfl) ?_
    refine va_get (D := D) (ci := 1) (v := .ref (ad 2)) (C := RX2) (T := TX2) (N := 19) hx hb hts hin hown hK hP 0 rfl rfl 4 (by decide) (hts (.fieldLink RX2 13 "HandCasesModel" "holeOf" "[I") (by decide +kernel)) (fun _ h9 => h9) rfl dX2_carrierAt_12 ?_
    refine lv_iload_n hx hb dX2_carrierAt_15 rfl (lv_at hl 3 rfl) ?_
    have b_2 := b2 hI i
    refine q_iald (v := mI (σ 2 i)) hx hb hK hP 2 0 rfl rfl i (nI_toInt (by omega)) (by omega) rfl dX2_carrierAt_16 ?_
    refine lv_iload_n hx hb dX2_carrierAt_17 rfl (lv_at hl 1 rfl) ?_
    refine lv_icmp_ne (tgt := 48) hx hb dX2_carrierAt_18 (by decide) (fun c_3 => ?_) (fun c_3 => ?_)
    · skip
      have c_3 := mt (cq_eq (mI_toInt (by omega)) (nI_toInt (by omega))).mpr c_3
      refine lv_iload_n hx hb dX2_carrierAt_48 rfl (lv_at hl 2 rfl) ?_
      refine lv_istore_n (lv' := [(2, .int (mI (leastM σ gg i))), (0, .ref (ad 0)), (1, .int (nI gg)), (3, .int (nI i))]) hx hb dX2_carrierAt_49 rfl hl (by decide) rfl (fun ls hl => ?_)
      refine lv_iinc (v := nI (i + 1)) (lv' := [(3, .int (nI (i + 1))), (2, .int (mI (leastM σ gg i))), (0, .ref (ad 0)), (1, .int (nI gg))]) hx hb dX2_carrierAt_50 hl (k := 3) rfl (nI_add i 1) (by decide) rfl (fun ls hl => ?_)
      refine lv_goto (tgt := 4) hx hb dX2_carrierAt_53 (by decide) ?_
      exact ih (i + 1) _ _ _ ⟨by omega, hP, hD, hS, lv_as (lv_sub hl [2, 3, 1, 0] rfl) (lv_c rfl (lv_c rfl (lv_c (congrArg Value.int (congrArg mI (by show _ = (if σ 2 i = gg + 1 ∧ (leastM σ gg i = 0 ∨ σ 1 i < leastM σ gg i) then σ 1 i else leastM σ gg i); rw [if_neg (by omega)]))) (lv_c rfl rfl))))⟩ (by omega)
    · skip
      have c_3 := (cq_eq (mI_toInt (by omega)) (nI_toInt (by omega))).mp c_3
      refine lv_iload_n hx hb dX2_carrierAt_21 rfl (lv_at hl 1 rfl) ?_
      refine lv_if_lt (tgt := 48) hx hb dX2_carrierAt_22 (by decide) (fun c_4 => ?_) (fun c_4 => ?_)
      · skip
        have c_4 := (cq_lt (nI_toInt (by omega)) (show (0 : Int32).toInt = (0 : Int) from by decide)).mp c_4
        refine lv_iload_n hx hb dX2_carrierAt_48 rfl (lv_at hl 2 rfl) ?_
        refine lv_istore_n (lv' := [(2, .int (mI (leastM σ gg i))), (0, .ref (ad 0)), (1, .int (nI gg)), (3, .int (nI i))]) hx hb dX2_carrierAt_49 rfl hl (by decide) rfl (fun ls hl => ?_)
        refine lv_iinc (v := nI (i + 1)) (lv' := [(3, .int (nI (i + 1))), (2, .int (mI (leastM σ gg i))), (0, .ref (ad 0)), (1, .int (nI gg))]) hx hb dX2_carrierAt_50 hl (k := 3) rfl (nI_add i 1) (by decide) rfl (fun ls hl => ?_)
        refine lv_goto (tgt := 4) hx hb dX2_carrierAt_53 (by decide) ?_
        exact ih (i + 1) _ _ _ ⟨by omega, hP, hD, hS, lv_as (lv_sub hl [2, 3, 1, 0] rfl) (lv_c rfl (lv_c rfl (lv_c (congrArg Value.int (congrArg mI (by show _ = (if σ 2 i = gg + 1 ∧ (leastM σ gg i = 0 ∨ σ 1 i < leastM σ gg i) then σ 1 i else leastM σ gg i); rw [if_neg (by omega)]))) (lv_c rfl rfl))))⟩ (by omega)
      · skip
        have c_4 := mt (cq_lt (nI_toInt (by omega)) (show (0 : Int32).toInt = (0 : Int) from by decide)).mpr c_4
        refine lv_iload_n hx hb dX2_carrierAt_25 rfl (lv_at hl 2 rfl) ?_
        refine lv_if_lt (tgt := 39) hx hb dX2_carrierAt_26 (by decide) (fun c_5 => ?_) (fun c_5 => ?_)
        · skip
          have c_5 := (cq_lt (mI_toInt (by omega)) (show (0 : Int32).toInt = (0 : Int) from by decide)).mp c_5
          refine lv_aload_n hx hb dX2_carrierAt_39 rfl (lv_at hl 0 rfl) ?_
          refine va_get (D := D) (ci := 1) (v := .ref (ad 1)) (C := RX2) (T := TX2) (N := 19) hx hb hts hin hown hK hP 0 rfl rfl 3 (by decide) (hts (.fieldLink RX2 7 "HandCasesModel" "carrierOf" "[I") (by decide +kernel)) (fun _ h9 => h9) rfl dX2_carrierAt_40 ?_
          refine lv_iload_n hx hb dX2_carrierAt_43 rfl (lv_at hl 3 rfl) ?_
          have b_6 := b1 hI i
          refine q_iald (v := mI (σ 1 i)) hx hb hK hP 1 0 rfl rfl i (nI_toInt (by omega)) (by omega) rfl dX2_carrierAt_44 ?_
          refine lv_goto (tgt := 49) hx hb dX2_carrierAt_45 (by decide) ?_
          refine lv_istore_n (lv' := [(2, .int (mI (σ 1 i))), (0, .ref (ad 0)), (1, .int (nI gg)), (3, .int (nI i))]) hx hb dX2_carrierAt_49 rfl hl (by decide) rfl (fun ls hl => ?_)
          refine lv_iinc (v := nI (i + 1)) (lv' := [(3, .int (nI (i + 1))), (2, .int (mI (σ 1 i))), (0, .ref (ad 0)), (1, .int (nI gg))]) hx hb dX2_carrierAt_50 hl (k := 3) rfl (nI_add i 1) (by decide) rfl (fun ls hl => ?_)
          refine lv_goto (tgt := 4) hx hb dX2_carrierAt_53 (by decide) ?_
          exact ih (i + 1) _ _ _ ⟨by omega, hP, hD, hS, lv_as (lv_sub hl [2, 3, 1, 0] rfl) (lv_c rfl (lv_c rfl (lv_c (congrArg Value.int (congrArg mI (by show _ = (if σ 2 i = gg + 1 ∧ (leastM σ gg i = 0 ∨ σ 1 i < leastM σ gg i) then σ 1 i else leastM σ gg i); rw [if_pos (by omega)]))) (lv_c rfl rfl))))⟩ (by omega)
        · skip
          have c_5 := mt (cq_lt (mI_toInt (by omega)) (show (0 : Int32).toInt = (0 : Int) from by decide)).mpr c_5
          refine lv_aload_n hx hb dX2_carrierAt_29 rfl (lv_at hl 0 rfl) ?_
          refine va_get (D := D) (ci := 1) (v := .ref (ad 1)) (C := RX2) (T := TX2) (N := 19) hx hb hts hin hown hK hP 0 rfl rfl 3 (by decide) (hts (.fieldLink RX2 7 "HandCasesModel" "carrierOf" "[I") (by decide +kernel)) (fun _ h9 => h9) rfl dX2_carrierAt_30 ?_
          refine lv_iload_n hx hb dX2_carrierAt_33 rfl (lv_at hl 3 rfl) ?_
          have b_7 := b1 hI i
          refine q_iald (v := mI (σ 1 i)) hx hb hK hP 1 0 rfl rfl i (nI_toInt (by omega)) (by omega) rfl dX2_carrierAt_34 ?_
          refine lv_iload_n hx hb dX2_carrierAt_35 rfl (lv_at hl 2 rfl) ?_
          refine lv_icmp_ge (tgt := 48) hx hb dX2_carrierAt_36 (by decide) (fun c_8 => ?_) (fun c_8 => ?_)
          · skip
            have c_8 := (cq_le (mI_toInt (by omega)) (mI_toInt (by omega))).mp c_8
            refine lv_iload_n hx hb dX2_carrierAt_48 rfl (lv_at hl 2 rfl) ?_
            refine lv_istore_n (lv' := [(2, .int (mI (leastM σ gg i))), (0, .ref (ad 0)), (1, .int (nI gg)), (3, .int (nI i))]) hx hb dX2_carrierAt_49 rfl hl (by decide) rfl (fun ls hl => ?_)
            refine lv_iinc (v := nI (i + 1)) (lv' := [(3, .int (nI (i + 1))), (2, .int (mI (leastM σ gg i))), (0, .ref (ad 0)), (1, .int (nI gg))]) hx hb dX2_carrierAt_50 hl (k := 3) rfl (nI_add i 1) (by decide) rfl (fun ls hl => ?_)
            refine lv_goto (tgt := 4) hx hb dX2_carrierAt_53 (by decide) ?_
            exact ih (i + 1) _ _ _ ⟨by omega, hP, hD, hS, lv_as (lv_sub hl [2, 3, 1, 0] rfl) (lv_c rfl (lv_c rfl (lv_c (congrArg Value.int (congrArg mI (by show _ = (if σ 2 i = gg + 1 ∧ (leastM σ gg i = 0 ∨ σ 1 i < leastM σ gg i) then σ 1 i else leastM σ gg i); rw [if_neg (by omega)]))) (lv_c rfl rfl))))⟩ (by omega)
          · skip
            have c_8 := mt (cq_le (mI_toInt (by omega)) (mI_toInt (by omega))).mpr c_8
            refine lv_aload_n hx hb dX2_carrierAt_39 rfl (lv_at hl 0 rfl) ?_
            refine va_get (D := D) (ci := 1) (v := .ref (ad 1)) (C := RX2) (T := TX2) (N := 19) hx hb hts hin hown hK hP 0 rfl rfl 3 (by decide) (hts (.fieldLink RX2 7 "HandCasesModel" "carrierOf" "[I") (by decide +kernel)) (fun _ h9 => h9) rfl dX2_carrierAt_40 ?_
            refine lv_iload_n hx hb dX2_carrierAt_43 rfl (lv_at hl 3 rfl) ?_
            have b_9 := b1 hI i
            refine q_iald (v := mI (σ 1 i)) hx hb hK hP 1 0 rfl rfl i (nI_toInt (by omega)) (by omega) rfl dX2_carrierAt_44 ?_
            refine lv_goto (tgt := 49) hx hb dX2_carrierAt_45 (by decide) ?_
            refine lv_istore_n (lv' := [(2, .int (mI (σ 1 i))), (0, .ref (ad 0)), (1, .int (nI gg)), (3, .int (nI i))]) hx hb dX2_carrierAt_49 rfl hl (by decide) rfl (fun ls hl => ?_)
            refine lv_iinc (v := nI (i + 1)) (lv' := [(3, .int (nI (i + 1))), (2, .int (mI (σ 1 i))), (0, .ref (ad 0)), (1, .int (nI gg))]) hx hb dX2_carrierAt_50 hl (k := 3) rfl (nI_add i 1) (by decide) rfl (fun ls hl => ?_)
            refine lv_goto (tgt := 4) hx hb dX2_carrierAt_53 (by decide) ?_
            exact ih (i + 1) _ _ _ ⟨by omega, hP, hD, hS, lv_as (lv_sub hl [2, 3, 1, 0] rfl) (lv_c rfl (lv_c rfl (lv_c (congrArg Value.int (congrArg mI (by show _ = (if σ 2 i = gg + 1 ∧ (leastM σ gg i = 0 ∨ σ 1 i < leastM σ gg i) then σ 1 i else leastM σ gg i); rw [if_pos (by omega)]))) (lv_c rfl rfl))))⟩ (by omega)

set_option maxHeartbeats 4000000 in
set_option maxRecDepth 100000 in
theorem c_X2_goes (l : Launch) (cI cZ : ClassId) (D : va_G) (ad pl : Nat → Nat) (tb sz : Nat) (σ δ : Sg) (w0 : Int32) (ii : Nat) (hI : Inv σ) (hi : ii < 250) : CtI l yX2_goes wsX2_goes ({ frames := 4, cells := 0, slots := 0, locals := 86 }) cI cZ D ad pl tb sz (WM cI cZ ad) (σ, δ, w0) [.ref (ad 0), .int (nI ii)] (fun r u => r = nI (goe (plc σ ii)) ∧ u = (σ, δ, w0)) := by
  refine Met.ofW (cc := cX2_goes) (maxL := 3) (ret := (some .int)) (by decide) rfl ?_
  intro p e s m args below meth c s₁ B hml hv
  obtain ⟨rfl, hsz, hP, hK, hD0, hZ⟩ := hv
  have hx := B.exec
  have hb := B.bytes
  have hr := B.returns
  have hts := atoms_spec (ws := wsX2_goes) B.pre
  have hown : s.vm.findClass RX2 = some m.cls := findClass_of_methodNamed B.named
  have hlocks := B.notSynchronized
  have hin : ∀ w ∈ wsX20, w ∈ wsX2_goes := fun w h => List.mem_cons_of_mem _ (List.mem_append_right _ h)
  subst hsz
  have hD : va_D (AC ad s.heap.size) (WM cI cZ ad (σ, δ, w0)) := AC_self WAd_m hD0
  have hA : ∀ q : Nat, s.heap.size ≤ q → AC ad s.heap.size q := fun q h => Or.inr h
  have hS : va_S (AC ad s.heap.size) s.heap s.heap [] := va_S.rf
  have hl := lv_entry ([.ref (ad 0), .int (nI ii)]) (n := 3) (Nat.le_of_ble_eq_true rfl)
  rw [lg_entry_eq]
  generalize (lg_sl ([.ref (ad 0), .int (nI ii)]) ++ List.replicate (3 - (lg_sl ([.ref (ad 0), .int (nI ii)])).length) Slot.unset).toArray = ls at hl ⊢
  have hl : lv_has ls 3 [(0, .ref (ad 0)), (1, .int (nI ii))] := hl
  have f_h := I_nh hI (h := σ 6 ii) (b6 hI ii)
  have b_5 := b5 hI
  have e_hl : σ 7 ii = 2 → hol σ ii = 0 := fun q => if_pos q
  refine lv_aload_n hx hb dX2_goes_0 rfl (lv_at hl 0 rfl) ?_
  refine lv_iload_n hx hb dX2_goes_1 rfl (lv_at hl 1 rfl) ?_
  refine call_i (As := [.int (nI ii)]) (rest := []) WAd_m ⟨hx, hb, hml, hown, hts⟩ (c_X2_holeOfLeader l cI cZ D ad pl tb _ σ δ w0 ii hI (by omega)) (cwV 1 hts gX2_goes_X2_holeOfLeader rfl rfl rfl (by decide +kernel) ⟨Nat.le_of_ble_eq_true rfl, Nat.le_of_ble_eq_true rfl⟩) (va_recv hK hP (ci := 1) (q0 := 0) rfl rfl) hK hP hD hS hA hZ rfl rfl (Nat.le_of_ble_eq_true rfl) hl.1 dX2_goes_2 ⟨Nat.zero_le _, Nat.zero_le _⟩ (fun r u H locs hq hP hD hS => ?_)
  obtain ⟨rfl, rfl⟩ := hq
  have b_1 := hol_le hI ii
  refine lv_istore_n (lv' := [(2, .int (mI (hol σ ii))), (0, .ref (ad 0)), (1, .int (nI ii))]) hx hb dX2_goes_5 rfl hl (by decide) rfl (fun ls hl => ?_)
  refine lv_aload_n hx hb dX2_goes_6 rfl (lv_at hl 1 rfl) ?_
  refine va_get (D := D) (ci := 1) (v := .ref (ad 7)) (C := RX2) (T := TX2) (N := 19) hx hb hts hin hown hK hP 0 rfl rfl 10 (by decide) (hts (.fieldLink RX2 29 "HandCasesModel" "kind" "[I") (by decide +kernel)) (fun _ h9 => h9) rfl dX2_goes_7 ?_
  refine lv_iload_n hx hb dX2_goes_10 rfl (lv_at hl 2 rfl) ?_
  have b_2 := b7 hI ii
  refine q_iald (v := nI (σ 7 ii)) hx hb hK hP 7 0 rfl rfl ii (nI_toInt (by omega)) (by omega) rfl dX2_goes_11 ?_
  refine lv_iconst (v := 2) hx hb dX2_goes_12 (by decide) ?_
  refine lv_icmp_ne (tgt := 32) hx hb dX2_goes_13 (by decide) (fun c_3 => ?_) (fun c_3 => ?_)
  · skip
    have c_3 := mt (cq_eq (nI_toInt (by omega)) (show (2 : Int32).toInt = (2 : Int) from by decide)).mpr c_3
    refine lv_iload_n hx hb dX2_goes_32 rfl (lv_at hl 0 rfl) ?_
    refine lv_if_lt (tgt := 52) hx hb dX2_goes_33 (by decide) (fun c_4 => ?_) (fun c_4 => ?_)
    · skip
      have c_4 := (cq_lt (mI_toInt (by omega)) (show (0 : Int32).toInt = (0 : Int) from by decide)).mp c_4
      refine lv_iconst (v := 0) hx hb dX2_goes_52 (by decide) ?_
      exact ret_i (σ, δ, w0) hx hb hr rfl hK hlocks hP hD hS ⟨(show nI 0 = _ from congrArg nI (by first | omega | (unfold plc; (repeat (first | rw [if_pos (by omega)] | rw [if_neg (by omega)])); rfl))), rfl⟩ dX2_goes_53
    · skip
      have c_4 := mt (cq_lt (mI_toInt (by omega)) (show (0 : Int32).toInt = (0 : Int) from by decide)).mpr c_4
      have hl : lv_has ls 3 [(2, .int (nI (hol σ ii - 1))), (0, .ref (ad 0)), (1, .int (nI ii))] := lv_as hl (lv_c (congrArg Value.int (mI_pos (by omega))) (lv_c rfl (lv_c rfl rfl)))
      refine lv_aload_n hx hb dX2_goes_36 rfl (lv_at hl 1 rfl) ?_
      refine lv_iload_n hx hb dX2_goes_37 rfl (lv_at hl 2 rfl) ?_
      refine call_i (As := [.int (nI ii)]) (rest := []) WAd_m ⟨hx, hb, hml, hown, hts⟩ (c_X2_isWrong l cI cZ D ad pl tb _ σ δ w0 ii hI (by omega)) (cwV 1 hts gX2_goes_X2_isWrong rfl rfl rfl (by decide +kernel) ⟨Nat.le_of_ble_eq_true rfl, Nat.le_of_ble_eq_true rfl⟩) (va_recv hK hP (ci := 1) (q0 := 0) rfl rfl) hK hP hD hS hA hZ rfl rfl (Nat.le_of_ble_eq_true rfl) hl.1 dX2_goes_38 ⟨Nat.zero_le _, Nat.zero_le _⟩ (fun r u H locs hq hP hD hS => ?_)
      obtain ⟨rfl, rfl⟩ := hq
      refine lv_if_eq (tgt := 54) hx hb dX2_goes_41 (by decide) (fun c_5 => ?_) (fun c_5 => ?_)
      · skip
        have c_5 : ¬ (hol σ ii ≠ 0 ∧ hol σ ii ≠ σ 2 (σ 6 ii)) := pI_0.mp c_5
        refine lv_aload_n hx hb dX2_goes_54 rfl (lv_at hl 1 rfl) ?_
        refine lv_iload_n hx hb dX2_goes_55 rfl (lv_at hl 2 rfl) ?_
        refine call_i (As := [.int (nI ii)]) (rest := []) WAd_m ⟨hx, hb, hml, hown, hts⟩ (c_X2_isWrong l cI cZ D ad pl tb _ σ δ w0 ii hI (by omega)) (cwV 1 hts gX2_goes_X2_isWrong rfl rfl rfl (by decide +kernel) ⟨Nat.le_of_ble_eq_true rfl, Nat.le_of_ble_eq_true rfl⟩) (va_recv hK hP (ci := 1) (q0 := 0) rfl rfl) hK hP hD hS hA hZ rfl rfl (Nat.le_of_ble_eq_true rfl) hl.1 dX2_goes_56 ⟨Nat.zero_le _, Nat.zero_le _⟩ (fun r u H locs hq hP hD hS => ?_)
        obtain ⟨rfl, rfl⟩ := hq
        refine lv_if_eq (tgt := 64) hx hb dX2_goes_59 (by decide) (fun c_6 => ?_) (fun c_6 => ?_)
        · skip
          have c_6 : ¬ (hol σ ii ≠ 0 ∧ hol σ ii ≠ σ 2 (σ 6 ii)) := pI_0.mp c_6
          refine lv_aload_n hx hb dX2_goes_64 rfl (lv_at hl 1 rfl) ?_
          refine va_get (D := D) (ci := 1) (v := .ref (ad 3)) (C := RX2) (T := TX2) (N := 19) hx hb hts hin hown hK hP 0 rfl rfl 5 (by decide) (hts (.fieldLink RX2 16 "HandCasesModel" "isHeld" "[Z") (by decide +kernel)) (fun _ h9 => h9) rfl dX2_goes_65 ?_
          refine lv_aload_n hx hb dX2_goes_68 rfl (lv_at hl 1 rfl) ?_
          refine va_get (D := D) (ci := 1) (v := .ref (ad 6)) (C := RX2) (T := TX2) (N := 19) hx hb hts hin hown hK hP 0 rfl rfl 9 (by decide) (hts (.fieldLink RX2 26 "HandCasesModel" "number" "[I") (by decide +kernel)) (fun _ h9 => h9) rfl dX2_goes_69 ?_
          refine lv_iload_n hx hb dX2_goes_72 rfl (lv_at hl 2 rfl) ?_
          have b_7 := b6 hI ii
          refine q_iald (v := nI (σ 6 ii)) hx hb hK hP 6 0 rfl rfl ii (nI_toInt (by omega)) (by omega) rfl dX2_goes_73 ?_
          have b_8 := b3 hI (σ 6 ii)
          refine q_zald (v := nI (σ 3 (σ 6 ii))) hx hb hK hP 3 1 rfl rfl (σ 6 ii) (nI_toInt (by omega)) (by omega) rfl dX2_goes_74 ?_
          refine lv_if_eq (tgt := 82) hx hb dX2_goes_75 (by decide) (fun c_9 => ?_) (fun c_9 => ?_)
          · skip
            have c_9 := (cq_eq (nI_toInt (by omega)) (show (0 : Int32).toInt = (0 : Int) from by decide)).mp c_9
            refine lv_aload_n hx hb dX2_goes_82 rfl (lv_at hl 1 rfl) ?_
            refine va_get (D := D) (ci := 1) (v := .ref (ad 7)) (C := RX2) (T := TX2) (N := 19) hx hb hts hin hown hK hP 0 rfl rfl 10 (by decide) (hts (.fieldLink RX2 29 "HandCasesModel" "kind" "[I") (by decide +kernel)) (fun _ h9 => h9) rfl dX2_goes_83 ?_
            refine lv_iload_n hx hb dX2_goes_86 rfl (lv_at hl 2 rfl) ?_
            have b_10 := b7 hI ii
            refine q_iald (v := nI (σ 7 ii)) hx hb hK hP 7 0 rfl rfl ii (nI_toInt (by omega)) (by omega) rfl dX2_goes_87 ?_
            refine lv_iconst (v := 2) hx hb dX2_goes_88 (by decide) ?_
            refine lv_icmp_ne (tgt := 96) hx hb dX2_goes_89 (by decide) (fun c_11 => ?_) (fun c_11 => ?_)
            · skip
              have c_11 := mt (cq_eq (nI_toInt (by omega)) (show (2 : Int32).toInt = (2 : Int) from by decide)).mpr c_11
              refine lv_iconst (v := 1) hx hb dX2_goes_96 (by decide) ?_
              exact ret_i (σ, δ, w0) hx hb hr rfl hK hlocks hP hD hS ⟨(show nI 1 = _ from congrArg nI (by first | omega | (unfold plc; (repeat (first | rw [if_pos (by omega)] | rw [if_neg (by omega)])); rfl))), rfl⟩ dX2_goes_97
            · skip
              have c_11 := (cq_eq (nI_toInt (by omega)) (show (2 : Int32).toInt = (2 : Int) from by decide)).mp c_11
              refine lv_iconst (v := 4) hx hb dX2_goes_92 (by decide) ?_
              refine lv_goto (tgt := 97) hx hb dX2_goes_93 (by decide) ?_
              exact ret_i (σ, δ, w0) hx hb hr rfl hK hlocks hP hD hS ⟨(show nI 4 = _ from congrArg nI (by first | omega | (unfold plc; (repeat (first | rw [if_pos (by omega)] | rw [if_neg (by omega)])); rfl))), rfl⟩ dX2_goes_97
          · skip
            have c_9 := mt (cq_eq (nI_toInt (by omega)) (show (0 : Int32).toInt = (0 : Int) from by decide)).mpr c_9
            refine lv_iconst (v := 3) hx hb dX2_goes_78 (by decide) ?_
            refine lv_goto (tgt := 97) hx hb dX2_goes_79 (by decide) ?_
            exact ret_i (σ, δ, w0) hx hb hr rfl hK hlocks hP hD hS ⟨(show nI 3 = _ from congrArg nI (by first | omega | (unfold plc; (repeat (first | rw [if_pos (by omega)] | rw [if_neg (by omega)])); rfl))), rfl⟩ dX2_goes_97
        · skip
          have c_6 : hol σ ii ≠ 0 ∧ hol σ ii ≠ σ 2 (σ 6 ii) := Decidable.not_not.mp (mt pI_0.mpr c_6)
          refine lv_iconst (v := 2) hx hb dX2_goes_62 (by decide) ?_
          exact ret_i (σ, δ, w0) hx hb hr rfl hK hlocks hP hD hS ⟨(show nI 2 = _ from congrArg nI (by first | omega | (unfold plc; (repeat (first | rw [if_pos (by omega)] | rw [if_neg (by omega)])); rfl))), rfl⟩ dX2_goes_63
      · skip
        have c_5 : hol σ ii ≠ 0 ∧ hol σ ii ≠ σ 2 (σ 6 ii) := Decidable.not_not.mp (mt pI_0.mpr c_5)
        refine lv_aload_n hx hb dX2_goes_44 rfl (lv_at hl 1 rfl) ?_
        refine lv_iload_n hx hb dX2_goes_45 rfl (lv_at hl 0 rfl) ?_
        refine call_i (As := [.int (nI (hol σ ii - 1))]) (rest := []) WAd_m ⟨hx, hb, hml, hown, hts⟩ (c_X2_carrierAt l cI cZ D ad pl tb _ σ δ w0 (hol σ ii - 1) hI (by omega)) (cwV 1 hts gX2_goes_X2_carrierAt rfl rfl rfl (by decide +kernel) ⟨Nat.le_of_ble_eq_true rfl, Nat.le_of_ble_eq_true rfl⟩) (va_recv hK hP (ci := 1) (q0 := 0) rfl rfl) hK hP hD hS hA hZ rfl rfl (Nat.le_of_ble_eq_true rfl) hl.1 dX2_goes_46 ⟨Nat.zero_le _, Nat.zero_le _⟩ (fun r u H locs hq hP hD hS => ?_)
        obtain ⟨rfl, rfl⟩ := hq
        have b_12 := leastN_le hI (hol σ ii - 1) (σ 5 0)
        refine lv_if_ge (tgt := 54) hx hb dX2_goes_49 (by decide) (fun c_13 => ?_) (fun c_13 => ?_)
        · skip
          have c_13 := (cq_le (show (0 : Int32).toInt = (0 : Int) from by decide) (mI_toInt (by omega))).mp c_13
          refine lv_aload_n hx hb dX2_goes_54 rfl (lv_at hl 1 rfl) ?_
          refine lv_iload_n hx hb dX2_goes_55 rfl (lv_at hl 2 rfl) ?_
          refine call_i (As := [.int (nI ii)]) (rest := []) WAd_m ⟨hx, hb, hml, hown, hts⟩ (c_X2_isWrong l cI cZ D ad pl tb _ σ δ w0 ii hI (by omega)) (cwV 1 hts gX2_goes_X2_isWrong rfl rfl rfl (by decide +kernel) ⟨Nat.le_of_ble_eq_true rfl, Nat.le_of_ble_eq_true rfl⟩) (va_recv hK hP (ci := 1) (q0 := 0) rfl rfl) hK hP hD hS hA hZ rfl rfl (Nat.le_of_ble_eq_true rfl) hl.1 dX2_goes_56 ⟨Nat.zero_le _, Nat.zero_le _⟩ (fun r u H locs hq hP hD hS => ?_)
          obtain ⟨rfl, rfl⟩ := hq
          refine lv_if_eq (tgt := 64) hx hb dX2_goes_59 (by decide) (fun c_14 => ?_) (fun c_14 => ?_)
          · skip
            have c_14 : ¬ (hol σ ii ≠ 0 ∧ hol σ ii ≠ σ 2 (σ 6 ii)) := pI_0.mp c_14
            refine lv_aload_n hx hb dX2_goes_64 rfl (lv_at hl 1 rfl) ?_
            refine va_get (D := D) (ci := 1) (v := .ref (ad 3)) (C := RX2) (T := TX2) (N := 19) hx hb hts hin hown hK hP 0 rfl rfl 5 (by decide) (hts (.fieldLink RX2 16 "HandCasesModel" "isHeld" "[Z") (by decide +kernel)) (fun _ h9 => h9) rfl dX2_goes_65 ?_
            refine lv_aload_n hx hb dX2_goes_68 rfl (lv_at hl 1 rfl) ?_
            refine va_get (D := D) (ci := 1) (v := .ref (ad 6)) (C := RX2) (T := TX2) (N := 19) hx hb hts hin hown hK hP 0 rfl rfl 9 (by decide) (hts (.fieldLink RX2 26 "HandCasesModel" "number" "[I") (by decide +kernel)) (fun _ h9 => h9) rfl dX2_goes_69 ?_
            refine lv_iload_n hx hb dX2_goes_72 rfl (lv_at hl 2 rfl) ?_
            have b_15 := b6 hI ii
            refine q_iald (v := nI (σ 6 ii)) hx hb hK hP 6 0 rfl rfl ii (nI_toInt (by omega)) (by omega) rfl dX2_goes_73 ?_
            have b_16 := b3 hI (σ 6 ii)
            refine q_zald (v := nI (σ 3 (σ 6 ii))) hx hb hK hP 3 1 rfl rfl (σ 6 ii) (nI_toInt (by omega)) (by omega) rfl dX2_goes_74 ?_
            refine lv_if_eq (tgt := 82) hx hb dX2_goes_75 (by decide) (fun c_17 => ?_) (fun c_17 => ?_)
            · skip
              have c_17 := (cq_eq (nI_toInt (by omega)) (show (0 : Int32).toInt = (0 : Int) from by decide)).mp c_17
              refine lv_aload_n hx hb dX2_goes_82 rfl (lv_at hl 1 rfl) ?_
              refine va_get (D := D) (ci := 1) (v := .ref (ad 7)) (C := RX2) (T := TX2) (N := 19) hx hb hts hin hown hK hP 0 rfl rfl 10 (by decide) (hts (.fieldLink RX2 29 "HandCasesModel" "kind" "[I") (by decide +kernel)) (fun _ h9 => h9) rfl dX2_goes_83 ?_
              refine lv_iload_n hx hb dX2_goes_86 rfl (lv_at hl 2 rfl) ?_
              have b_18 := b7 hI ii
              refine q_iald (v := nI (σ 7 ii)) hx hb hK hP 7 0 rfl rfl ii (nI_toInt (by omega)) (by omega) rfl dX2_goes_87 ?_
              refine lv_iconst (v := 2) hx hb dX2_goes_88 (by decide) ?_
              refine lv_icmp_ne (tgt := 96) hx hb dX2_goes_89 (by decide) (fun c_19 => ?_) (fun c_19 => ?_)
              · skip
                have c_19 := mt (cq_eq (nI_toInt (by omega)) (show (2 : Int32).toInt = (2 : Int) from by decide)).mpr c_19
                refine lv_iconst (v := 1) hx hb dX2_goes_96 (by decide) ?_
                exact ret_i (σ, δ, w0) hx hb hr rfl hK hlocks hP hD hS ⟨(show nI 1 = _ from congrArg nI (by first | omega | (unfold plc; (repeat (first | rw [if_pos (by omega)] | rw [if_neg (by omega)])); rfl))), rfl⟩ dX2_goes_97
              · skip
                have c_19 := (cq_eq (nI_toInt (by omega)) (show (2 : Int32).toInt = (2 : Int) from by decide)).mp c_19
                refine lv_iconst (v := 4) hx hb dX2_goes_92 (by decide) ?_
                refine lv_goto (tgt := 97) hx hb dX2_goes_93 (by decide) ?_
                exact ret_i (σ, δ, w0) hx hb hr rfl hK hlocks hP hD hS ⟨(show nI 4 = _ from congrArg nI (by first | omega | (unfold plc; (repeat (first | rw [if_pos (by omega)] | rw [if_neg (by omega)])); rfl))), rfl⟩ dX2_goes_97
            · skip
              have c_17 := mt (cq_eq (nI_toInt (by omega)) (show (0 : Int32).toInt = (0 : Int) from by decide)).mpr c_17
              refine lv_iconst (v := 3) hx hb dX2_goes_78 (by decide) ?_
              refine lv_goto (tgt := 97) hx hb dX2_goes_79 (by decide) ?_
              exact ret_i (σ, δ, w0) hx hb hr rfl hK hlocks hP hD hS ⟨(show nI 3 = _ from congrArg nI (by first | omega | (unfold plc; (repeat (first | rw [if_pos (by omega)] | rw [if_neg (by omega)])); rfl))), rfl⟩ dX2_goes_97
          · skip
            have c_14 : hol σ ii ≠ 0 ∧ hol σ ii ≠ σ 2 (σ 6 ii) := Decidable.not_not.mp (mt pI_0.mpr c_14)
            refine lv_iconst (v := 2) hx hb dX2_goes_62 (by decide) ?_
            exact ret_i (σ, δ, w0) hx hb hr rfl hK hlocks hP hD hS ⟨(show nI 2 = _ from congrArg nI (by first | omega | (unfold plc; (repeat (first | rw [if_pos (by omega)] | rw [if_neg (by omega)])); rfl))), rfl⟩ dX2_goes_63
        · skip
          have c_13 := mt (cq_le (show (0 : Int32).toInt = (0 : Int) from by decide) (mI_toInt (by omega))).mpr c_13
          refine lv_iconst (v := 0) hx hb dX2_goes_52 (by decide) ?_
          exact ret_i (σ, δ, w0) hx hb hr rfl hK hlocks hP hD hS ⟨(show nI 0 = _ from congrArg nI (by first | omega | (unfold plc; (repeat (first | rw [if_pos (by omega)] | rw [if_neg (by omega)])); rfl))), rfl⟩ dX2_goes_53
  · skip
    have c_3 := (cq_eq (nI_toInt (by omega)) (show (2 : Int32).toInt = (2 : Int) from by decide)).mp c_3
    refine lv_aload_n hx hb dX2_goes_16 rfl (lv_at hl 1 rfl) ?_
    refine lv_aload_n hx hb dX2_goes_17 rfl (lv_at hl 1 rfl) ?_
    refine va_get (D := D) (ci := 1) (v := .ref (ad 6)) (C := RX2) (T := TX2) (N := 19) hx hb hts hin hown hK hP 0 rfl rfl 9 (by decide) (hts (.fieldLink RX2 26 "HandCasesModel" "number" "[I") (by decide +kernel)) (fun _ h9 => h9) rfl dX2_goes_18 ?_
    refine lv_iload_n hx hb dX2_goes_21 rfl (lv_at hl 2 rfl) ?_
    have b_20 := b6 hI ii
    refine q_iald (v := nI (σ 6 ii)) hx hb hK hP 6 0 rfl rfl ii (nI_toInt (by omega)) (by omega) rfl dX2_goes_22 ?_
    refine call_i (As := [.int (nI (σ 6 ii))]) (rest := []) WAd_m ⟨hx, hb, hml, hown, hts⟩ (c_X2_isHouse l cI cZ D ad pl tb _ σ δ w0 (nI (σ 6 ii)) hI) (cwV 1 hts gX2_goes_X2_isHouse rfl rfl rfl (by decide +kernel) ⟨Nat.le_of_ble_eq_true rfl, Nat.le_of_ble_eq_true rfl⟩) (va_recv hK hP (ci := 1) (q0 := 0) rfl rfl) hK hP hD hS hA hZ rfl rfl (Nat.le_of_ble_eq_true rfl) hl.1 dX2_goes_23 ⟨Nat.zero_le _, Nat.zero_le _⟩ (fun r u H locs hq hP hD hS => ?_)
    obtain ⟨rfl, rfl⟩ := hq
    refine lv_if_ne (tgt := 54) hx hb dX2_goes_26 (by decide) (fun c_21 => ?_) (fun c_21 => ?_)
    · skip
      have c_21 : 0 ≤ (nI (σ 6 ii)).toInt ∧ (nI (σ 6 ii)).toInt < 200 ∧ σ 1 (nI (σ 6 ii)).toInt.toNat ≠ 0 := Decidable.not_not.mp (mt pI_0.mpr c_21)
      have c_21 : σ 1 (σ 6 ii) ≠ 0 := (isH_n (by omega)).mp c_21
      refine lv_aload_n hx hb dX2_goes_54 rfl (lv_at hl 1 rfl) ?_
      refine lv_iload_n hx hb dX2_goes_55 rfl (lv_at hl 2 rfl) ?_
      refine call_i (As := [.int (nI ii)]) (rest := []) WAd_m ⟨hx, hb, hml, hown, hts⟩ (c_X2_isWrong l cI cZ D ad pl tb _ σ δ w0 ii hI (by omega)) (cwV 1 hts gX2_goes_X2_isWrong rfl rfl rfl (by decide +kernel) ⟨Nat.le_of_ble_eq_true rfl, Nat.le_of_ble_eq_true rfl⟩) (va_recv hK hP (ci := 1) (q0 := 0) rfl rfl) hK hP hD hS hA hZ rfl rfl (Nat.le_of_ble_eq_true rfl) hl.1 dX2_goes_56 ⟨Nat.zero_le _, Nat.zero_le _⟩ (fun r u H locs hq hP hD hS => ?_)
      obtain ⟨rfl, rfl⟩ := hq
      refine lv_if_eq (tgt := 64) hx hb dX2_goes_59 (by decide) (fun c_22 => ?_) (fun c_22 => ?_)
      · skip
        have c_22 : ¬ (hol σ ii ≠ 0 ∧ hol σ ii ≠ σ 2 (σ 6 ii)) := pI_0.mp c_22
        refine lv_aload_n hx hb dX2_goes_64 rfl (lv_at hl 1 rfl) ?_
        refine va_get (D := D) (ci := 1) (v := .ref (ad 3)) (C := RX2) (T := TX2) (N := 19) hx hb hts hin hown hK hP 0 rfl rfl 5 (by decide) (hts (.fieldLink RX2 16 "HandCasesModel" "isHeld" "[Z") (by decide +kernel)) (fun _ h9 => h9) rfl dX2_goes_65 ?_
        refine lv_aload_n hx hb dX2_goes_68 rfl (lv_at hl 1 rfl) ?_
        refine va_get (D := D) (ci := 1) (v := .ref (ad 6)) (C := RX2) (T := TX2) (N := 19) hx hb hts hin hown hK hP 0 rfl rfl 9 (by decide) (hts (.fieldLink RX2 26 "HandCasesModel" "number" "[I") (by decide +kernel)) (fun _ h9 => h9) rfl dX2_goes_69 ?_
        refine lv_iload_n hx hb dX2_goes_72 rfl (lv_at hl 2 rfl) ?_
        have b_23 := b6 hI ii
        refine q_iald (v := nI (σ 6 ii)) hx hb hK hP 6 0 rfl rfl ii (nI_toInt (by omega)) (by omega) rfl dX2_goes_73 ?_
        have b_24 := b3 hI (σ 6 ii)
        refine q_zald (v := nI (σ 3 (σ 6 ii))) hx hb hK hP 3 1 rfl rfl (σ 6 ii) (nI_toInt (by omega)) (by omega) rfl dX2_goes_74 ?_
        refine lv_if_eq (tgt := 82) hx hb dX2_goes_75 (by decide) (fun c_25 => ?_) (fun c_25 => ?_)
        · skip
          have c_25 := (cq_eq (nI_toInt (by omega)) (show (0 : Int32).toInt = (0 : Int) from by decide)).mp c_25
          refine lv_aload_n hx hb dX2_goes_82 rfl (lv_at hl 1 rfl) ?_
          refine va_get (D := D) (ci := 1) (v := .ref (ad 7)) (C := RX2) (T := TX2) (N := 19) hx hb hts hin hown hK hP 0 rfl rfl 10 (by decide) (hts (.fieldLink RX2 29 "HandCasesModel" "kind" "[I") (by decide +kernel)) (fun _ h9 => h9) rfl dX2_goes_83 ?_
          refine lv_iload_n hx hb dX2_goes_86 rfl (lv_at hl 2 rfl) ?_
          have b_26 := b7 hI ii
          refine q_iald (v := nI (σ 7 ii)) hx hb hK hP 7 0 rfl rfl ii (nI_toInt (by omega)) (by omega) rfl dX2_goes_87 ?_
          refine lv_iconst (v := 2) hx hb dX2_goes_88 (by decide) ?_
          refine lv_icmp_ne (tgt := 96) hx hb dX2_goes_89 (by decide) (fun c_27 => ?_) (fun c_27 => ?_)
          · skip
            have c_27 := mt (cq_eq (nI_toInt (by omega)) (show (2 : Int32).toInt = (2 : Int) from by decide)).mpr c_27
            refine lv_iconst (v := 1) hx hb dX2_goes_96 (by decide) ?_
            exact ret_i (σ, δ, w0) hx hb hr rfl hK hlocks hP hD hS ⟨(show nI 1 = _ from congrArg nI (by first | omega | (unfold plc; (repeat (first | rw [if_pos (by omega)] | rw [if_neg (by omega)])); rfl))), rfl⟩ dX2_goes_97
          · skip
            have c_27 := (cq_eq (nI_toInt (by omega)) (show (2 : Int32).toInt = (2 : Int) from by decide)).mp c_27
            refine lv_iconst (v := 4) hx hb dX2_goes_92 (by decide) ?_
            refine lv_goto (tgt := 97) hx hb dX2_goes_93 (by decide) ?_
            exact ret_i (σ, δ, w0) hx hb hr rfl hK hlocks hP hD hS ⟨(show nI 4 = _ from congrArg nI (by first | omega | (unfold plc; (repeat (first | rw [if_pos (by omega)] | rw [if_neg (by omega)])); rfl))), rfl⟩ dX2_goes_97
        · skip
          have c_25 := mt (cq_eq (nI_toInt (by omega)) (show (0 : Int32).toInt = (0 : Int) from by decide)).mpr c_25
          refine lv_iconst (v := 3) hx hb dX2_goes_78 (by decide) ?_
          refine lv_goto (tgt := 97) hx hb dX2_goes_79 (by decide) ?_
          exact ret_i (σ, δ, w0) hx hb hr rfl hK hlocks hP hD hS ⟨(show nI 3 = _ from congrArg nI (by first | omega | (unfold plc; (repeat (first | rw [if_pos (by omega)] | rw [if_neg (by omega)])); rfl))), rfl⟩ dX2_goes_97
      · skip
        have c_22 : hol σ ii ≠ 0 ∧ hol σ ii ≠ σ 2 (σ 6 ii) := Decidable.not_not.mp (mt pI_0.mpr c_22)
        refine lv_iconst (v := 2) hx hb dX2_goes_62 (by decide) ?_
        exact ret_i (σ, δ, w0) hx hb hr rfl hK hlocks hP hD hS ⟨(show nI 2 = _ from congrArg nI (by first | omega | (unfold plc; (repeat (first | rw [if_pos (by omega)] | rw [if_neg (by omega)])); rfl))), rfl⟩ dX2_goes_63
    · skip
      have c_21 : ¬ (0 ≤ (nI (σ 6 ii)).toInt ∧ (nI (σ 6 ii)).toInt < 200 ∧ σ 1 (nI (σ 6 ii)).toInt.toNat ≠ 0) := pI_0.mp c_21
      have c_21 : ¬ (σ 1 (σ 6 ii) ≠ 0) := mt (isH_n (by omega)).mpr c_21
      refine lv_goto (tgt := 52) hx hb dX2_goes_29 (by decide) ?_
      refine lv_iconst (v := 0) hx hb dX2_goes_52 (by decide) ?_
      exact ret_i (σ, δ, w0) hx hb hr rfl hK hlocks hP hD hS ⟨(show nI 0 = _ from congrArg nI (by first | omega | (unfold plc; (repeat (first | rw [if_pos (by omega)] | rw [if_neg (by omega)])); rfl))), rfl⟩ dX2_goes_53

set_option maxHeartbeats 4000000 in
set_option maxRecDepth 100000 in
theorem c_X2_thrown (l : Launch) (cI cZ : ClassId) (D : va_G) (ad pl : Nat → Nat) (tb sz : Nat) (σ δ : Sg) (w0 : Int32)  (hd : δ 0 0 < 10) : CtI l yX2_thrown wsX2_thrown ({ frames := 0, cells := 0, slots := 0, locals := 0 }) cI cZ D ad pl tb sz (WM cI cZ ad) (σ, δ, w0) [.ref (ad 0)] (fun r u => r = nI (δ 0 0) ∧ u = (σ, δ, w0)) := by
  refine Met.ofW (cc := cX2_thrown) (maxL := 1) (ret := (some .int)) (by decide) rfl ?_
  intro p e s m args below meth c s₁ B hml hv
  obtain ⟨rfl, hsz, hP, hK, hD0, hZ⟩ := hv
  have hx := B.exec
  have hb := B.bytes
  have hr := B.returns
  have hts := atoms_spec (ws := wsX2_thrown) B.pre
  have hown : s.vm.findClass RX2 = some m.cls := findClass_of_methodNamed B.named
  have hlocks := B.notSynchronized
  have hin : ∀ w ∈ wsX20, w ∈ wsX2_thrown := fun w h => List.mem_cons_of_mem _ (List.mem_append_right _ h)
  subst hsz
  have hD : va_D (AC ad s.heap.size) (WM cI cZ ad (σ, δ, w0)) := AC_self WAd_m hD0
  have hA : ∀ q : Nat, s.heap.size ≤ q → AC ad s.heap.size q := fun q h => Or.inr h
  have hS : va_S (AC ad s.heap.size) s.heap s.heap [] := va_S.rf
  have hl := lv_entry ([.ref (ad 0)]) (n := 1) (Nat.le_of_ble_eq_true rfl)
  rw [lg_entry_eq]
  generalize (lg_sl ([.ref (ad 0)]) ++ List.replicate (1 - (lg_sl ([.ref (ad 0)])).length) Slot.unset).toArray = ls at hl ⊢
  have hl : lv_has ls 1 [(0, .ref (ad 0))] := hl
  refine lv_aload_n hx hb dX2_thrown_0 rfl (lv_at hl 0 rfl) ?_
  refine va_get (D := D) (ci := 1) (v := .int (nI (δ 0 0))) (C := RX2) (T := TX2) (N := 19) hx hb hts hin hown hK hP 0 rfl rfl 1 (by decide) (hts (.fieldLink RX2 48 "HandCasesModel" "fault" "I") (by decide +kernel)) (fun _ h9 => h9) rfl dX2_thrown_1 ?_
  exact ret_i (σ, δ, w0) hx hb hr rfl hK hlocks hP hD hS ⟨rfl, rfl⟩ dX2_thrown_4

