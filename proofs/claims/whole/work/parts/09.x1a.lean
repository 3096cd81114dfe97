set_option maxHeartbeats 4000000 in
set_option maxRecDepth 100000 in
theorem c_X1_isCarrier (l : Launch) (cI cZ : ClassId) (D : va_G) (ad pl : Nat → Nat) (tb sz : Nat) (σ γ : Sg) (p0 : Int32)  : CtI l yX1_isCarrier wsX1_isCarrier ({ frames := 0, cells := 0, slots := 0, locals := 0 }) cI cZ D ad pl tb sz (WC cI cZ ad) (σ, γ) [.ref (ad 0), .int p0] (fun r u => r = pI (0 ≤ p0.toInt ∧ p0.toInt < 4) ∧ u = (σ, γ)) := by
  refine Met.ofW (cc := cX1_isCarrier) (maxL := 2) (ret := (some .boolean)) (by decide) rfl ?_
  intro p e s m args below meth c s₁ B hml hv
  obtain ⟨rfl, hsz, hP, hK, hD0, hZ⟩ := hv
  have hx := B.exec
  have hb := B.bytes
  have hr := B.returns
  have hts := atoms_spec (ws := wsX1_isCarrier) B.pre
  have hown : s.vm.findClass RX1 = some m.cls := findClass_of_methodNamed B.named
  have hlocks := B.notSynchronized
  subst hsz
  have hD : va_D (AC ad s.heap.size) (WC cI cZ ad (σ, γ)) := AC_self WAd_c hD0
  have hA : ∀ q : Nat, s.heap.size ≤ q → AC ad s.heap.size q := fun q h => Or.inr h
  have hS : va_S (AC ad s.heap.size) s.heap s.heap [] := va_S.rf
  have hl := lv_entry ([.ref (ad 0), .int p0]) (n := 2) (Nat.le_of_ble_eq_true rfl)
  rw [lg_entry_eq]
  generalize (lg_sl ([.ref (ad 0), .int p0]) ++ List.replicate (2 - (lg_sl ([.ref (ad 0), .int p0])).length) Slot.unset).toArray = ls at hl ⊢
  have hl : lv_has ls 2 [(0, .ref (ad 0)), (1, .int p0)] := hl
  refine lv_iload_n hx hb dX1_isCarrier_0 rfl (lv_at hl 1 rfl) ?_
  refine lv_if_lt (tgt := 13) hx hb dX1_isCarrier_1 (by decide) (fun c_1 => ?_) (fun c_1 => ?_)
  · skip
    have c_1 := (cq_lt rfl (show (0 : Int32).toInt = (0 : Int) from by decide)).mp c_1
    refine lv_iconst (v := 0) hx hb dX1_isCarrier_13 (by decide) ?_
    exact ret_i (σ, γ) hx hb hr rfl hK hlocks hP hD hS ⟨pI_f (by omega), rfl⟩ dX1_isCarrier_14
  · skip
    have c_1 := mt (cq_lt rfl (show (0 : Int32).toInt = (0 : Int) from by decide)).mpr c_1
    refine lv_iload_n hx hb dX1_isCarrier_4 rfl (lv_at hl 1 rfl) ?_
    refine lv_iconst (v := 4) hx hb dX1_isCarrier_5 (by decide) ?_
    refine lv_icmp_ge (tgt := 13) hx hb dX1_isCarrier_6 (by decide) (fun c_2 => ?_) (fun c_2 => ?_)
    · skip
      have c_2 := (cq_le (show (4 : Int32).toInt = (4 : Int) from by decide) rfl).mp c_2
      refine lv_iconst (v := 0) hx hb dX1_isCarrier_13 (by decide) ?_
      exact ret_i (σ, γ) hx hb hr rfl hK hlocks hP hD hS ⟨pI_f (by omega), rfl⟩ dX1_isCarrier_14
    · skip
      have c_2 := mt (cq_le (show (4 : Int32).toInt = (4 : Int) from by decide) rfl).mpr c_2
      refine lv_iconst (v := 1) hx hb dX1_isCarrier_9 (by decide) ?_
      refine lv_goto (tgt := 14) hx hb dX1_isCarrier_10 (by decide) ?_
      exact ret_i (σ, γ) hx hb hr rfl hK hlocks hP hD hS ⟨pI_t (by omega), rfl⟩ dX1_isCarrier_14

set_option maxHeartbeats 4000000 in
set_option maxRecDepth 100000 in
theorem c_X1_isNumber (l : Launch) (cI cZ : ClassId) (D : va_G) (ad pl : Nat → Nat) (tb sz : Nat) (σ γ : Sg) (p0 : Int32)  : CtI l yX1_isNumber wsX1_isNumber ({ frames := 0, cells := 0, slots := 0, locals := 0 }) cI cZ D ad pl tb sz (WC cI cZ ad) (σ, γ) [.ref (ad 0), .int p0] (fun r u => r = pI (0 ≤ p0.toInt ∧ p0.toInt < 200) ∧ u = (σ, γ)) := by
  refine Met.ofW (cc := cX1_isNumber) (maxL := 2) (ret := (some .boolean)) (by decide) rfl ?_
  intro p e s m args below meth c s₁ B hml hv
  obtain ⟨rfl, hsz, hP, hK, hD0, hZ⟩ := hv
  have hx := B.exec
  have hb := B.bytes
  have hr := B.returns
  have hts := atoms_spec (ws := wsX1_isNumber) B.pre
  have hown : s.vm.findClass RX1 = some m.cls := findClass_of_methodNamed B.named
  have hlocks := B.notSynchronized
  subst hsz
  have hD : va_D (AC ad s.heap.size) (WC cI cZ ad (σ, γ)) := AC_self WAd_c hD0
  have hA : ∀ q : Nat, s.heap.size ≤ q → AC ad s.heap.size q := fun q h => Or.inr h
  have hS : va_S (AC ad s.heap.size) s.heap s.heap [] := va_S.rf
  have hl := lv_entry ([.ref (ad 0), .int p0]) (n := 2) (Nat.le_of_ble_eq_true rfl)
  rw [lg_entry_eq]
  generalize (lg_sl ([.ref (ad 0), .int p0]) ++ List.replicate (2 - (lg_sl ([.ref (ad 0), .int p0])).length) Slot.unset).toArray = ls at hl ⊢
  have hl : lv_has ls 2 [(0, .ref (ad 0)), (1, .int p0)] := hl
  refine lv_iload_n hx hb dX1_isNumber_0 rfl (lv_at hl 1 rfl) ?_
  refine lv_if_lt (tgt := 15) hx hb dX1_isNumber_1 (by decide) (fun c_1 => ?_) (fun c_1 => ?_)
  · skip
    have c_1 := (cq_lt rfl (show (0 : Int32).toInt = (0 : Int) from by decide)).mp c_1
    refine lv_iconst (v := 0) hx hb dX1_isNumber_15 (by decide) ?_
    exact ret_i (σ, γ) hx hb hr rfl hK hlocks hP hD hS ⟨pI_f (by omega), rfl⟩ dX1_isNumber_16
  · skip
    have c_1 := mt (cq_lt rfl (show (0 : Int32).toInt = (0 : Int) from by decide)).mpr c_1
    refine lv_iload_n hx hb dX1_isNumber_4 rfl (lv_at hl 1 rfl) ?_
    refine lv_sipush (v := 200) hx hb dX1_isNumber_5 (by decide) ?_
    refine lv_icmp_ge (tgt := 15) hx hb dX1_isNumber_8 (by decide) (fun c_2 => ?_) (fun c_2 => ?_)
    · skip
      have c_2 := (cq_le (show (200 : Int32).toInt = (200 : Int) from by decide) rfl).mp c_2
      refine lv_iconst (v := 0) hx hb dX1_isNumber_15 (by decide) ?_
      exact ret_i (σ, γ) hx hb hr rfl hK hlocks hP hD hS ⟨pI_f (by omega), rfl⟩ dX1_isNumber_16
    · skip
      have c_2 := mt (cq_le (show (200 : Int32).toInt = (200 : Int) from by decide) rfl).mpr c_2
      refine lv_iconst (v := 1) hx hb dX1_isNumber_11 (by decide) ?_
      refine lv_goto (tgt := 16) hx hb dX1_isNumber_12 (by decide) ?_
      exact ret_i (σ, γ) hx hb hr rfl hK hlocks hP hD hS ⟨pI_t (by omega), rfl⟩ dX1_isNumber_16

set_option maxHeartbeats 4000000 in
set_option maxRecDepth 100000 in
theorem c_X1_isHouse (l : Launch) (cI cZ : ClassId) (D : va_G) (ad pl : Nat → Nat) (tb sz : Nat) (σ γ : Sg) (p0 : Int32) (hI : Inv σ) : CtI l yX1_isHouse wsX1_isHouse ({ frames := 1, cells := 0, slots := 0, locals := 21 }) cI cZ D ad pl tb sz (WC cI cZ ad) (σ, γ) [.ref (ad 0), .int p0] (fun r u => r = pI (isH σ p0) ∧ u = (σ, γ)) := by
  refine Met.ofW (cc := cX1_isHouse) (maxL := 2) (ret := (some .boolean)) (by decide) rfl ?_
  intro p e s m args below meth c s₁ B hml hv
  obtain ⟨rfl, hsz, hP, hK, hD0, hZ⟩ := hv
  have hx := B.exec
  have hb := B.bytes
  have hr := B.returns
  have hts := atoms_spec (ws := wsX1_isHouse) B.pre
  have hown : s.vm.findClass RX1 = some m.cls := findClass_of_methodNamed B.named
  have hlocks := B.notSynchronized
  have hin : ∀ w ∈ wsX10, w ∈ wsX1_isHouse := fun w h => List.mem_cons_of_mem _ (List.mem_append_right _ h)
  subst hsz
  have hD : va_D (AC ad s.heap.size) (WC cI cZ ad (σ, γ)) := AC_self WAd_c hD0
  have hA : ∀ q : Nat, s.heap.size ≤ q → AC ad s.heap.size q := fun q h => Or.inr h
  have hS : va_S (AC ad s.heap.size) s.heap s.heap [] := va_S.rf
  have hl := lv_entry ([.ref (ad 0), .int p0]) (n := 2) (Nat.le_of_ble_eq_true rfl)
  rw [lg_entry_eq]
  generalize (lg_sl ([.ref (ad 0), .int p0]) ++ List.replicate (2 - (lg_sl ([.ref (ad 0), .int p0])).length) Slot.unset).toArray = ls at hl ⊢
  have hl : lv_has ls 2 [(0, .ref (ad 0)), (1, .int p0)] := hl
  refine lv_aload_n hx hb dX1_isHouse_0 rfl (lv_at hl 0 rfl) ?_
  refine lv_iload_n hx hb dX1_isHouse_1 rfl (lv_at hl 1 rfl) ?_
  refine call_i (As := [.int p0]) (rest := []) WAd_c ⟨hx, hb, hml, hown, hts⟩ (c_X1_isNumber l cI cZ D ad pl tb _ σ γ p0) (cwV 1 hts gX1_isHouse_X1_isNumber rfl rfl rfl (by decide +kernel) ⟨Nat.le_of_ble_eq_true rfl, Nat.le_of_ble_eq_true rfl⟩) (va_recv hK hP (ci := 0) (q0 := 0) rfl rfl) hK hP hD hS hA hZ rfl rfl (Nat.le_of_ble_eq_true rfl) hl.1 dX1_isHouse_2 ⟨Nat.zero_le _, Nat.zero_le _⟩ (fun r u H locs hq hP hD hS => ?_)
  obtain ⟨rfl, rfl⟩ := hq
  refine lv_if_eq (tgt := 22) hx hb dX1_isHouse_5 (by decide) (fun c_1 => ?_) (fun c_1 => ?_)
  · skip
    have c_1 : ¬ (0 ≤ p0.toInt ∧ p0.toInt < 200) := pI_0.mp c_1
    refine lv_iconst (v := 0) hx hb dX1_isHouse_22 (by decide) ?_
    exact ret_i (σ, γ) hx hb hr rfl hK hlocks hP hD hS ⟨pI_f (by omega), rfl⟩ dX1_isHouse_23
  · skip
    have c_1 : 0 ≤ p0.toInt ∧ p0.toInt < 200 := Decidable.not_not.mp (mt pI_0.mpr c_1)
    refine lv_aload_n hx hb dX1_isHouse_8 rfl (lv_at hl 0 rfl) ?_
    refine va_get (D := D) (ci := 0) (v := .ref (ad 1)) (C := RX1) (T := TX1) (N := 15) hx hb hts hin hown hK hP 0 rfl rfl 1 (by decide) (hts (.fieldLink RX1 9 "HandCases" "carrierOf" "[I") (by decide +kernel)) (fun _ h9 => h9) rfl dX1_isHouse_9 ?_
    refine lv_iload_n hx hb dX1_isHouse_12 rfl (lv_at hl 1 rfl) ?_
    have b_2 := b1 hI p0.toInt.toNat
    refine q_iald (v := mI (σ 1 p0.toInt.toNat)) hx hb hK hP 1 0 rfl rfl p0.toInt.toNat (by omega) (by omega) rfl dX1_isHouse_13 ?_
    refine lv_iconst (v := (-1)) hx hb dX1_isHouse_14 (by decide) ?_
    refine lv_icmp_eq (tgt := 22) hx hb dX1_isHouse_15 (by decide) (fun c_3 => ?_) (fun c_3 => ?_)
    · skip
      have c_3 := (cq_eq (mI_toInt (by omega)) (show (-1 : Int32).toInt = (-1 : Int) from by decide)).mp c_3
      refine lv_iconst (v := 0) hx hb dX1_isHouse_22 (by decide) ?_
      exact ret_i (σ, γ) hx hb hr rfl hK hlocks hP hD hS ⟨pI_f (by omega), rfl⟩ dX1_isHouse_23
    · skip
      have c_3 := mt (cq_eq (mI_toInt (by omega)) (show (-1 : Int32).toInt = (-1 : Int) from by decide)).mpr c_3
      refine lv_iconst (v := 1) hx hb dX1_isHouse_18 (by decide) ?_
      refine lv_goto (tgt := 23) hx hb dX1_isHouse_19 (by decide) ?_
      exact ret_i (σ, γ) hx hb hr rfl hK hlocks hP hD hS ⟨pI_t (by omega), rfl⟩ dX1_isHouse_23

set_option maxHeartbeats 4000000 in
set_option maxRecDepth 100000 in
theorem c_X1_isHole (l : Launch) (cI cZ : ClassId) (D : va_G) (ad pl : Nat → Nat) (tb sz : Nat) (σ γ : Sg) (p0 : Int32) (hI : Inv σ) : CtI l yX1_isHole wsX1_isHole ({ frames := 0, cells := 0, slots := 0, locals := 0 }) cI cZ D ad pl tb sz (WC cI cZ ad) (σ, γ) [.ref (ad 0), .int p0] (fun r u => r = pI (0 ≤ p0.toInt ∧ p0.toInt < (σ 0 0 : Nat)) ∧ u = (σ, γ)) := by
  refine Met.ofW (cc := cX1_isHole) (maxL := 2) (ret := (some .boolean)) (by decide) rfl ?_
  intro p e s m args below meth c s₁ B hml hv
  obtain ⟨rfl, hsz, hP, hK, hD0, hZ⟩ := hv
  have hx := B.exec
  have hb := B.bytes
  have hr := B.returns
  have hts := atoms_spec (ws := wsX1_isHole) B.pre
  have hown : s.vm.findClass RX1 = some m.cls := findClass_of_methodNamed B.named
  have hlocks := B.notSynchronized
  have hin : ∀ w ∈ wsX10, w ∈ wsX1_isHole := fun w h => List.mem_cons_of_mem _ (List.mem_append_right _ h)
  subst hsz
  have hD : va_D (AC ad s.heap.size) (WC cI cZ ad (σ, γ)) := AC_self WAd_c hD0
  have hA : ∀ q : Nat, s.heap.size ≤ q → AC ad s.heap.size q := fun q h => Or.inr h
  have hS : va_S (AC ad s.heap.size) s.heap s.heap [] := va_S.rf
  have hl := lv_entry ([.ref (ad 0), .int p0]) (n := 2) (Nat.le_of_ble_eq_true rfl)
  rw [lg_entry_eq]
  generalize (lg_sl ([.ref (ad 0), .int p0]) ++ List.replicate (2 - (lg_sl ([.ref (ad 0), .int p0])).length) Slot.unset).toArray = ls at hl ⊢
  have hl : lv_has ls 2 [(0, .ref (ad 0)), (1, .int p0)] := hl
  refine lv_iload_n hx hb dX1_isHole_0 rfl (lv_at hl 1 rfl) ?_
  refine lv_if_lt (tgt := 16) hx hb dX1_isHole_1 (by decide) (fun c_1 => ?_) (fun c_1 => ?_)
  · skip
    have c_1 := (cq_lt rfl (show (0 : Int32).toInt = (0 : Int) from by decide)).mp c_1
    refine lv_iconst (v := 0) hx hb dX1_isHole_16 (by decide) ?_
    exact ret_i (σ, γ) hx hb hr rfl hK hlocks hP hD hS ⟨pI_f (by omega), rfl⟩ dX1_isHole_17
  · skip
    have c_1 := mt (cq_lt rfl (show (0 : Int32).toInt = (0 : Int) from by decide)).mpr c_1
    refine lv_iload_n hx hb dX1_isHole_4 rfl (lv_at hl 1 rfl) ?_
    refine lv_aload_n hx hb dX1_isHole_5 rfl (lv_at hl 0 rfl) ?_
    refine va_get (D := D) (ci := 0) (v := .int (nI (σ 0 0))) (C := RX1) (T := TX1) (N := 15) hx hb hts hin hown hK hP 0 rfl rfl 0 (by decide) (hts (.fieldLink RX1 63 "HandCases" "holes" "I") (by decide +kernel)) (fun _ h9 => h9) rfl dX1_isHole_6 ?_
    have b_2 := b0 hI
    refine lv_icmp_ge (tgt := 16) hx hb dX1_isHole_9 (by decide) (fun c_3 => ?_) (fun c_3 => ?_)
    · skip
      have c_3 := (cq_le (nI_toInt (by omega)) rfl).mp c_3
      refine lv_iconst (v := 0) hx hb dX1_isHole_16 (by decide) ?_
      exact ret_i (σ, γ) hx hb hr rfl hK hlocks hP hD hS ⟨pI_f (by omega), rfl⟩ dX1_isHole_17
    · skip
      have c_3 := mt (cq_le (nI_toInt (by omega)) rfl).mpr c_3
      refine lv_iconst (v := 1) hx hb dX1_isHole_12 (by decide) ?_
      refine lv_goto (tgt := 17) hx hb dX1_isHole_13 (by decide) ?_
      exact ret_i (σ, γ) hx hb hr rfl hK hlocks hP hD hS ⟨pI_t (by omega), rfl⟩ dX1_isHole_17

set_option maxHeartbeats 4000000 in
set_option maxRecDepth 100000 in
theorem c_X1_isItem (l : Launch) (cI cZ : ClassId) (D : va_G) (ad pl : Nat → Nat) (tb sz : Nat) (σ γ : Sg) (p0 : Int32) (hI : Inv σ) : CtI l yX1_isItem wsX1_isItem ({ frames := 0, cells := 0, slots := 0, locals := 0 }) cI cZ D ad pl tb sz (WC cI cZ ad) (σ, γ) [.ref (ad 0), .int p0] (fun r u => r = pI (0 ≤ p0.toInt ∧ p0.toInt < (σ 11 0 : Nat)) ∧ u = (σ, γ)) := by
  refine Met.ofW (cc := cX1_isItem) (maxL := 2) (ret := (some .boolean)) (by decide) rfl ?_
  intro p e s m args below meth c s₁ B hml hv
  obtain ⟨rfl, hsz, hP, hK, hD0, hZ⟩ := hv
  have hx := B.exec
  have hb := B.bytes
  have hr := B.returns
  have hts := atoms_spec (ws := wsX1_isItem) B.pre
  have hown : s.vm.findClass RX1 = some m.cls := findClass_of_methodNamed B.named
  have hlocks := B.notSynchronized
  have hin : ∀ w ∈ wsX10, w ∈ wsX1_isItem := fun w h => List.mem_cons_of_mem _ (List.mem_append_right _ h)
  subst hsz
  have hD : va_D (AC ad s.heap.size) (WC cI cZ ad (σ, γ)) := AC_self WAd_c hD0
  have hA : ∀ q : Nat, s.heap.size ≤ q → AC ad s.heap.size q := fun q h => Or.inr h
  have hS : va_S (AC ad s.heap.size) s.heap s.heap [] := va_S.rf
  have hl := lv_entry ([.ref (ad 0), .int p0]) (n := 2) (Nat.le_of_ble_eq_true rfl)
  rw [lg_entry_eq]
  generalize (lg_sl ([.ref (ad 0), .int p0]) ++ List.replicate (2 - (lg_sl ([.ref (ad 0), .int p0])).length) Slot.unset).toArray = ls at hl ⊢
  have hl : lv_has ls 2 [(0, .ref (ad 0)), (1, .int p0)] := hl
  refine lv_iload_n hx hb dX1_isItem_0 rfl (lv_at hl 1 rfl) ?_
  refine lv_if_lt (tgt := 16) hx hb dX1_isItem_1 (by decide) (fun c_1 => ?_) (fun c_1 => ?_)
  · skip
    have c_1 := (cq_lt rfl (show (0 : Int32).toInt = (0 : Int) from by decide)).mp c_1
    refine lv_iconst (v := 0) hx hb dX1_isItem_16 (by decide) ?_
    exact ret_i (σ, γ) hx hb hr rfl hK hlocks hP hD hS ⟨pI_f (by omega), rfl⟩ dX1_isItem_17
  · skip
    have c_1 := mt (cq_lt rfl (show (0 : Int32).toInt = (0 : Int) from by decide)).mpr c_1
    refine lv_iload_n hx hb dX1_isItem_4 rfl (lv_at hl 1 rfl) ?_
    refine lv_aload_n hx hb dX1_isItem_5 rfl (lv_at hl 0 rfl) ?_
    refine va_get (D := D) (ci := 0) (v := .int (nI (σ 11 0))) (C := RX1) (T := TX1) (N := 15) hx hb hts hin hown hK hP 0 rfl rfl 11 (by decide) (hts (.fieldLink RX1 42 "HandCases" "items" "I") (by decide +kernel)) (fun _ h9 => h9) rfl dX1_isItem_6 ?_
    have b_2 := b11 hI
    refine lv_icmp_ge (tgt := 16) hx hb dX1_isItem_9 (by decide) (fun c_3 => ?_) (fun c_3 => ?_)
    · skip
      have c_3 := (cq_le (nI_toInt (by omega)) rfl).mp c_3
      refine lv_iconst (v := 0) hx hb dX1_isItem_16 (by decide) ?_
      exact ret_i (σ, γ) hx hb hr rfl hK hlocks hP hD hS ⟨pI_f (by omega), rfl⟩ dX1_isItem_17
    · skip
      have c_3 := mt (cq_le (nI_toInt (by omega)) rfl).mpr c_3
      refine lv_iconst (v := 1) hx hb dX1_isItem_12 (by decide) ?_
      refine lv_goto (tgt := 17) hx hb dX1_isItem_13 (by decide) ?_
      exact ret_i (σ, γ) hx hb hr rfl hK hlocks hP hD hS ⟨pI_t (by omega), rfl⟩ dX1_isItem_17

set_option maxHeartbeats 4000000 in
set_option maxRecDepth 100000 in
theorem c_X1_lengthOfRound (l : Launch) (cI cZ : ClassId) (D : va_G) (ad pl : Nat → Nat) (tb sz : Nat) (σ γ : Sg) (cc : Nat) (hI : Inv σ) (hc : cc < 4) : CtI l yX1_lengthOfRound wsX1_lengthOfRound ({ frames := 0, cells := 0, slots := 0, locals := 0 }) cI cZ D ad pl tb sz (WC cI cZ ad) (σ, γ) [.ref (ad 0), .int (nI cc)] (fun r u => r = nI (sumN (cF σ cc) (σ 5 0)) ∧ u = (σ, γ)) := by
  refine Met.ofW (cc := cX1_lengthOfRound) (maxL := 4) (ret := (some .int)) (by decide) rfl ?_
  intro p e s m args below meth c s₁ B hml hv
  obtain ⟨rfl, hsz, hP, hK, hD0, hZ⟩ := hv
  have hx := B.exec
  have hb := B.bytes
  have hr := B.returns
  have hts := atoms_spec (ws := wsX1_lengthOfRound) B.pre
  have hown : s.vm.findClass RX1 = some m.cls := findClass_of_methodNamed B.named
  have hlocks := B.notSynchronized
  have hin : ∀ w ∈ wsX10, w ∈ wsX1_lengthOfRound := fun w h => List.mem_cons_of_mem _ (List.mem_append_right _ h)
  subst hsz
  have hD : va_D (AC ad s.heap.size) (WC cI cZ ad (σ, γ)) := AC_self WAd_c hD0
  have hA : ∀ q : Nat, s.heap.size ≤ q → AC ad s.heap.size q := fun q h => Or.inr h
  have hS : va_S (AC ad s.heap.size) s.heap s.heap [] := va_S.rf
  have hl := lv_entry ([.ref (ad 0), .int (nI cc)]) (n := 4) (Nat.le_of_ble_eq_true rfl)
  rw [lg_entry_eq]
  generalize (lg_sl ([.ref (ad 0), .int (nI cc)]) ++ List.replicate (4 - (lg_sl ([.ref (ad 0), .int (nI cc)])).length) Slot.unset).toArray = ls at hl ⊢
  have hl : lv_has ls 4 [(0, .ref (ad 0)), (1, .int (nI cc))] := hl
  refine lv_iconst (v := 0) hx hb dX1_lengthOfRound_0 (by decide) ?_
  refine lv_istore_n (lv' := [(2, .int 0), (0, .ref (ad 0)), (1, .int (nI cc))]) hx hb dX1_lengthOfRound_1 rfl hl (by decide) rfl (fun ls hl => ?_)
  refine lv_iconst (v := 0) hx hb dX1_lengthOfRound_2 (by decide) ?_
  refine lv_istore_n (lv' := [(3, .int 0), (2, .int 0), (0, .ref (ad 0)), (1, .int (nI cc))]) hx hb dX1_lengthOfRound_3 rfl hl (by decide) rfl (fun ls hl => ?_)
  refine W_loop (ι := Nat) 4 (fun (i : Nat) H locs ls => (i ≤ σ 5 0) ∧ va_P D vwCl (WC cI cZ ad (σ, γ)) H ∧ va_D (AC ad s.heap.size) (WC cI cZ ad (σ, γ)) ∧ va_S (AC ad s.heap.size) s.heap H locs ∧ lv_has ls 4 [(0, .ref (ad 0)), (1, .int (nI cc)), (2, .int (nI (sumN (cF σ cc) i))), (3, .int (nI i))]) (fun (i : Nat) => σ 5 0 - i) ?_ 0 _ _ _ ⟨by omega, hP, hD, hS, lv_as (lv_sub hl [2, 3, 1, 0] rfl) (lv_c rfl (lv_c rfl (lv_c (congrArg Value.int (by rfl)) (lv_c (congrArg Value.int (by rfl)) rfl))))⟩
  intro i H locs ls ⟨h1, hP, hD, hS, hl⟩ ih
  refine lv_iload_n hx hb dX1_lengthOfRound_4 rfl (lv_at hl 3 rfl) ?_
  refine lv_aload_n hx hb dX1_lengthOfRound_5 rfl (lv_at hl 0 rfl) ?_
  refine va_get (D := D) (ci := 0) (v := .int (nI (σ 5 0))) (C := RX1) (T := TX1) (N := 15) hx hb hts hin hown hK hP 0 rfl rfl 5 (by decide) (hts (.fieldLink RX1 23 "HandCases" "houses" "I") (by decide +kernel)) (fun _ h9 => h9) rfl dX1_lengthOfRound_6 ?_
  have b_1 := b5 hI
  refine lv_icmp_ge (tgt := 36) hx hb dX1_lengthOfRound_9 (by decide) (fun c_2 => ?_) (fun c_2 => ?_)
  · skip
    have c_2 := (cq_le (nI_toInt (by omega)) (nI_toInt (by omega))).mp c_2
    refine lv_iload_n hx hb dX1_lengthOfRound_36 rfl (lv_at hl 2 rfl) ?_
    exact ret_i (σ, γ) hx hb hr rfl hK hlocks hP hD hS ⟨congrArg nI (congrArg (sumN (cF σ cc)) (by omega)), rfl⟩ dX1_lengthOfRound_37
  · skip
    have c_2 := mt (cq_le (nI_toInt (by omega)) (nI_toInt (by omega))).mpr c_2
    refine lv_aload_n hx hb dX1_lengthOfRound_12 rfl (lv_at hl 0 rfl) ?_
    refine va_get (D := D) (ci := 0) (v := .ref (ad 1)) (C := RX1) (T := TX1) (N := 15) hx hb hts hin hown hK hP 0 rfl rfl 1 (by decide) (hts (.fieldLink RX1 9 "HandCases" "carrierOf" "[I") (by decide +kernel)) (fun _ h9 => h9) rfl dX1_lengthOfRound_13 ?_
    refine lv_aload_n hx hb dX1_lengthOfRound_16 rfl (lv_at hl 0 rfl) ?_
    refine va_get (D := D) (ci := 0) (v := .ref (ad 4)) (C := RX1) (T := TX1) (N := 15) hx hb hts hin hown hK hP 0 rfl rfl 4 (by decide) (hts (.fieldLink RX1 20 "HandCases" "told" "[I") (by decide +kernel)) (fun _ h9 => h9) rfl dX1_lengthOfRound_17 ?_
    refine lv_iload_n hx hb dX1_lengthOfRound_20 rfl (lv_at hl 3 rfl) ?_
    have b_3 := b4 hI i
    refine q_iald (v := nI (σ 4 i)) hx hb hK hP 4 0 rfl rfl i (nI_toInt (by omega)) (by omega) rfl dX1_lengthOfRound_21 ?_
    have b_4 := b1 hI (σ 4 i)
    refine q_iald (v := mI (σ 1 (σ 4 i))) hx hb hK hP 1 0 rfl rfl (σ 4 i) (nI_toInt (by omega)) (by omega) rfl dX1_lengthOfRound_22 ?_
    refine lv_iload_n hx hb dX1_lengthOfRound_23 rfl (lv_at hl 1 rfl) ?_
    refine lv_icmp_ne (tgt := 30) hx hb dX1_lengthOfRound_24 (by decide) (fun c_5 => ?_) (fun c_5 => ?_)
    · skip
      have c_5 := mt (cq_eq (mI_toInt (by omega)) (nI_toInt (by omega))).mpr c_5
      refine lv_iinc (v := nI (i + 1)) (lv' := [(3, .int (nI (i + 1))), (0, .ref (ad 0)), (1, .int (nI cc)), (2, .int (nI (sumN (cF σ cc) i)))]) hx hb dX1_lengthOfRound_30 hl (k := 3) rfl (nI_add i 1) (by decide) rfl (fun ls hl => ?_)
      refine lv_goto (tgt := 4) hx hb dX1_lengthOfRound_33 (by decide) ?_
      exact ih (i + 1) _ _ _ ⟨by omega, hP, hD, hS, lv_as (lv_sub hl [1, 2, 3, 0] rfl) (lv_c rfl (lv_c rfl (lv_c (congrArg Value.int (congrArg nI (by have e9 : cF σ cc i = 0 := if_neg (by omega); show _ = sumN (cF σ cc) i + cF σ cc i; omega))) (lv_c rfl rfl))))⟩ (by omega)
    · skip
      have c_5 := (cq_eq (mI_toInt (by omega)) (nI_toInt (by omega))).mp c_5
      refine lv_iinc (v := nI ((sumN (cF σ cc) i) + 1)) (lv' := [(2, .int (nI ((sumN (cF σ cc) i) + 1))), (0, .ref (ad 0)), (1, .int (nI cc)), (3, .int (nI i))]) hx hb dX1_lengthOfRound_27 hl (k := 2) rfl (nI_add (sumN (cF σ cc) i) 1) (by decide) rfl (fun ls hl => ?_)
      refine lv_iinc (v := nI (i + 1)) (lv' := [(3, .int (nI (i + 1))), (2, .int (nI ((sumN (cF σ cc) i) + 1))), (0, .ref (ad 0)), (1, .int (nI cc))]) hx hb dX1_lengthOfRound_30 hl (k := 3) rfl (nI_add i 1) (by decide) rfl (fun ls hl => ?_)
      refine lv_goto (tgt := 4) hx hb dX1_lengthOfRound_33 (by decide) ?_
      exact ih (i + 1) _ _ _ ⟨by omega, hP, hD, hS, lv_as (lv_sub hl [2, 3, 1, 0] rfl) (lv_c rfl (lv_c rfl (lv_c (congrArg Value.int (congrArg nI (by have e9 : cF σ cc i = 1 := if_pos (by omega); show _ = sumN (cF σ cc) i + cF σ cc i; omega))) (lv_c rfl rfl))))⟩ (by omega)

set_option maxHeartbeats 4000000 in
set_option maxRecDepth 100000 in
theorem c_X1_housesAt (l : Launch) (cI cZ : ClassId) (D : va_G) (ad pl : Nat → Nat) (tb sz : Nat) (σ γ : Sg) (gg : Nat) (hI : Inv σ) (hg : gg < σ 0 0) : CtI l yX1_housesAt wsX1_housesAt ({ frames := 0, cells := 0, slots := 0, locals := 0 }) cI cZ D ad pl tb sz (WC cI cZ ad) (σ, γ) [.ref (ad 0), .int (nI gg)] (fun r u => r = nI (sumN (hF σ gg) (σ 5 0)) ∧ u = (σ, γ)) := by
  refine Met.ofW (cc := cX1_housesAt) (maxL := 4) (ret := (some .int)) (by decide) rfl ?_
  intro p e s m args below meth c s₁ B hml hv
  obtain ⟨rfl, hsz, hP, hK, hD0, hZ⟩ := hv
  have hx := B.exec
  have hb := B.bytes
  have hr := B.returns
  have hts := atoms_spec (ws := wsX1_housesAt) B.pre
  have hown : s.vm.findClass RX1 = some m.cls := findClass_of_methodNamed B.named
  have hlocks := B.notSynchronized
  have hin : ∀ w ∈ wsX10, w ∈ wsX1_housesAt := fun w h => List.mem_cons_of_mem _ (List.mem_append_right _ h)
  subst hsz
  have hD : va_D (AC ad s.heap.size) (WC cI cZ ad (σ, γ)) := AC_self WAd_c hD0
  have hA : ∀ q : Nat, s.heap.size ≤ q → AC ad s.heap.size q := fun q h => Or.inr h
  have hS : va_S (AC ad s.heap.size) s.heap s.heap [] := va_S.rf
  have hl := lv_entry ([.ref (ad 0), .int (nI gg)]) (n := 4) (Nat.le_of_ble_eq_true rfl)
  rw [lg_entry_eq]
  generalize (lg_sl ([.ref (ad 0), .int (nI gg)]) ++ List.replicate (4 - (lg_sl ([.ref (ad 0), .int (nI gg)])).length) Slot.unset).toArray = ls at hl ⊢
  have hl : lv_has ls 4 [(0, .ref (ad 0)), (1, .int (nI gg))] := hl
  have b_0 := b0 hI
  refine lv_iconst (v := 0) hx hb dX1_housesAt_0 (by decide) ?_
  refine lv_istore_n (lv' := [(2, .int 0), (0, .ref (ad 0)), (1, .int (nI gg))]) hx hb dX1_housesAt_1 rfl hl (by decide) rfl (fun ls hl => ?_)
  refine lv_iconst (v := 0) hx hb dX1_housesAt_2 (by decide) ?_
  refine lv_istore_n (lv' := [(3, .int 0), (2, .int 0), (0, .ref (ad 0)), (1, .int (nI gg))]) hx hb dX1_housesAt_3 rfl hl (by decide) rfl (fun ls hl => ?_)
  refine W_loop (ι := Nat) 4 (fun (i : Nat) H locs ls => (i ≤ σ 5 0) ∧ va_P D vwCl (WC cI cZ ad (σ, γ)) H ∧ va_D (AC ad s.heap.size) (WC cI cZ ad (σ, γ)) ∧ va_S (AC ad s.heap.size) s.heap H locs ∧ lv_has ls 4 [(0, .ref (ad 0)), (1, .int (nI gg)), (2, .int (nI (sumN (hF σ gg) i))), (3, .int (nI i))]) (fun (i : Nat) => σ 5 0 - i) ?_ 0 _ _ _ ⟨by omega, hP, hD, hS, lv_as (lv_sub hl [2, 3, 1, 0] rfl) (lv_c rfl (lv_c rfl (lv_c (congrArg Value.int (by rfl)) (lv_c (congrArg Value.int (by rfl)) rfl))))⟩
  intro i H locs ls ⟨h1, hP, hD, hS, hl⟩ ih
  refine lv_iload_n hx hb dX1_housesAt_4 rfl (lv_at hl 3 rfl) ?_
  refine lv_aload_n hx hb dX1_housesAt_5 rfl (lv_at hl 0 rfl) ?_
  refine va_get (D := D) (ci := 0) (v := .int (nI (σ 5 0))) (C := RX1) (T := TX1) (N := 15) hx hb hts hin hown hK hP 0 rfl rfl 5 (by decide) (hts (.fieldLink RX1 23 "HandCases" "houses" "I") (by decide +kernel)) (fun _ h9 => h9) rfl dX1_housesAt_6 ?_
  have b_1 := b5 hI
  refine lv_icmp_ge (tgt := 36) hx hb dX1_housesAt_9 (by decide) (fun c_2 => ?_) (fun c_2 => ?_)
  · skip
    have c_2 := (cq_le (nI_toInt (by omega)) (nI_toInt (by omega))).mp c_2
    refine lv_iload_n hx hb dX1_housesAt_36 rfl (lv_at hl 2 rfl) ?_
    exact ret_i (σ, γ) hx hb hr rfl hK hlocks hP hD hS ⟨congrArg nI (congrArg (sumN (hF σ gg)) (by omega)), rfl⟩ dX1_housesAt_37
  · skip
    have c_2 := mt (cq_le (nI_toInt (by omega)) (nI_toInt (by omega))).mpr c_2
    refine lv_aload_n hx hb dX1_housesAt_12 rfl (lv_at hl 0 rfl) ?_
    refine va_get (D := D) (ci := 0) (v := .ref (ad 2)) (C := RX1) (T := TX1) (N := 15) hx hb hts hin hown hK hP 0 rfl rfl 2 (by decide) (hts (.fieldLink RX1 13 "HandCases" "holeOf" "[I") (by decide +kernel)) (fun _ h9 => h9) rfl dX1_housesAt_13 ?_
    refine lv_aload_n hx hb dX1_housesAt_16 rfl (lv_at hl 0 rfl) ?_
    refine va_get (D := D) (ci := 0) (v := .ref (ad 4)) (C := RX1) (T := TX1) (N := 15) hx hb hts hin hown hK hP 0 rfl rfl 4 (by decide) (hts (.fieldLink RX1 20 "HandCases" "told" "[I") (by decide +kernel)) (fun _ h9 => h9) rfl dX1_housesAt_17 ?_
    refine lv_iload_n hx hb dX1_housesAt_20 rfl (lv_at hl 3 rfl) ?_
    have b_3 := b4 hI i
    refine q_iald (v := nI (σ 4 i)) hx hb hK hP 4 0 rfl rfl i (nI_toInt (by omega)) (by omega) rfl dX1_housesAt_21 ?_
    have b_4 := b2 hI (σ 4 i)
    refine q_iald (v := mI (σ 2 (σ 4 i))) hx hb hK hP 2 0 rfl rfl (σ 4 i) (nI_toInt (by omega)) (by omega) rfl dX1_housesAt_22 ?_
    refine lv_iload_n hx hb dX1_housesAt_23 rfl (lv_at hl 1 rfl) ?_
    refine lv_icmp_ne (tgt := 30) hx hb dX1_housesAt_24 (by decide) (fun c_5 => ?_) (fun c_5 => ?_)
    · skip
      have c_5 := mt (cq_eq (mI_toInt (by omega)) (nI_toInt (by omega))).mpr c_5
      refine lv_iinc (v := nI (i + 1)) (lv' := [(3, .int (nI (i + 1))), (0, .ref (ad 0)), (1, .int (nI gg)), (2, .int (nI (sumN (hF σ gg) i)))]) hx hb dX1_housesAt_30 hl (k := 3) rfl (nI_add i 1) (by decide) rfl (fun ls hl => ?_)
      refine lv_goto (tgt := 4) hx hb dX1_housesAt_33 (by decide) ?_
      exact ih (i + 1) _ _ _ ⟨by omega, hP, hD, hS, lv_as (lv_sub hl [1, 2, 3, 0] rfl) (lv_c rfl (lv_c rfl (lv_c (congrArg Value.int (congrArg nI (by have e9 : hF σ gg i = 0 := if_neg (by omega); show _ = sumN (hF σ gg) i + hF σ gg i; omega))) (lv_c rfl rfl))))⟩ (by omega)
    · skip
      have c_5 := (cq_eq (mI_toInt (by omega)) (nI_toInt (by omega))).mp c_5
      refine lv_iinc (v := nI ((sumN (hF σ gg) i) + 1)) (lv' := [(2, .int (nI ((sumN (hF σ gg) i) + 1))), (0, .ref (ad 0)), (1, .int (nI gg)), (3, .int (nI i))]) hx hb dX1_housesAt_27 hl (k := 2) rfl (nI_add (sumN (hF σ gg) i) 1) (by decide) rfl (fun ls hl => ?_)
      refine lv_iinc (v := nI (i + 1)) (lv' := [(3, .int (nI (i + 1))), (2, .int (nI ((sumN (hF σ gg) i) + 1))), (0, .ref (ad 0)), (1, .int (nI gg))]) hx hb dX1_housesAt_30 hl (k := 3) rfl (nI_add i 1) (by decide) rfl (fun ls hl => ?_)
      refine lv_goto (tgt := 4) hx hb dX1_housesAt_33 (by decide) ?_
      exact ih (i + 1) _ _ _ ⟨by omega, hP, hD, hS, lv_as (lv_sub hl [2, 3, 1, 0] rfl) (lv_c rfl (lv_c rfl (lv_c (congrArg Value.int (congrArg nI (by have e9 : hF σ gg i = 1 := if_pos (by omega); show _ = sumN (hF σ gg) i + hF σ gg i; omega))) (lv_c rfl rfl))))⟩ (by omega)

set_option maxHeartbeats 4000000 in
set_option maxRecDepth 100000 in
theorem c_X1_heldHouses (l : Launch) (cI cZ : ClassId) (D : va_G) (ad pl : Nat → Nat) (tb sz : Nat) (σ γ : Sg)  (hI : Inv σ) : CtI l yX1_heldHouses wsX1_heldHouses ({ frames := 0, cells := 0, slots := 0, locals := 0 }) cI cZ D ad pl tb sz (WC cI cZ ad) (σ, γ) [.ref (ad 0)] (fun r u => r = nI (sumN (heF σ) (σ 5 0)) ∧ u = (σ, γ)) := by
  refine Met.ofW (cc := cX1_heldHouses) (maxL := 3) (ret := (some .int)) (by decide) rfl ?_
  intro p e s m args below meth c s₁ B hml hv
  obtain ⟨rfl, hsz, hP, hK, hD0, hZ⟩ := hv
  have hx := B.exec
  have hb := B.bytes
  have hr := B.returns
  have hts := atoms_spec (ws := wsX1_heldHouses) B.pre
  have hown : s.vm.findClass RX1 = some m.cls := findClass_of_methodNamed B.named
  have hlocks := B.notSynchronized
  have hin : ∀ w ∈ wsX10, w ∈ wsX1_heldHouses := fun w h => List.mem_cons_of_mem _ (List.mem_append_right _ h)
  subst hsz
  have hD : va_D (AC ad s.heap.size) (WC cI cZ ad (σ, γ)) := AC_self WAd_c hD0
  have hA : ∀ q : Nat, s.heap.size ≤ q → AC ad s.heap.size q := fun q h => Or.inr h
  have hS : va_S (AC ad s.heap.size) s.heap s.heap [] := va_S.rf
  have hl := lv_entry ([.ref (ad 0)]) (n := 3) (Nat.le_of_ble_eq_true rfl)
  rw [lg_entry_eq]
  generalize (lg_sl ([.ref (ad 0)]) ++ List.replicate (3 - (lg_sl ([.ref (ad 0)])).length) Slot.unset).toArray = ls at hl ⊢
  have hl : lv_has ls 3 [(0, .ref (ad 0))] := hl
  refine lv_iconst (v := 0) hx hb dX1_heldHouses_0 (by decide) ?_
  refine lv_istore_n (lv' := [(1, .int 0), (0, .ref (ad 0))]) hx hb dX1_heldHouses_1 rfl hl (by decide) rfl (fun ls hl => ?_)
  refine lv_iconst (v := 0) hx hb dX1_heldHouses_2 (by decide) ?_
  refine lv_istore_n (lv' := [(2, .int 0), (1, .int 0), (0, .ref (ad 0))]) hx hb dX1_heldHouses_3 rfl hl (by decide) rfl (fun ls hl => ?_)
  refine W_loop (ι := Nat) 4 (fun (i : Nat) H locs ls => (i ≤ σ 5 0) ∧ va_P D vwCl (WC cI cZ ad (σ, γ)) H ∧ va_D (AC ad s.heap.size) (WC cI cZ ad (σ, γ)) ∧ va_S (AC ad s.heap.size) s.heap H locs ∧ lv_has ls 3 [(0, .ref (ad 0)), (1, .int (nI (sumN (heF σ) i))), (2, .int (nI i))]) (fun (i : Nat) => σ 5 0 - i) ?_ 0 _ _ _ ⟨by omega, hP, hD, hS, lv_as (lv_sub hl [2, 1, 0] rfl) (lv_c rfl (lv_c (congrArg Value.int (by rfl)) (lv_c (congrArg Value.int (by rfl)) rfl)))⟩
  intro i H locs ls ⟨h1, hP, hD, hS, hl⟩ ih
  refine lv_iload_n hx hb dX1_heldHouses_4 rfl (lv_at hl 2 rfl) ?_
  refine lv_aload_n hx hb dX1_heldHouses_5 rfl (lv_at hl 0 rfl) ?_
  refine va_get (D := D) (ci := 0) (v := .int (nI (σ 5 0))) (C := RX1) (T := TX1) (N := 15) hx hb hts hin hown hK hP 0 rfl rfl 5 (by decide) (hts (.fieldLink RX1 23 "HandCases" "houses" "I") (by decide +kernel)) (fun _ h9 => h9) rfl dX1_heldHouses_6 ?_
  have b_1 := b5 hI
  refine lv_icmp_ge (tgt := 35) hx hb dX1_heldHouses_9 (by decide) (fun c_2 => ?_) (fun c_2 => ?_)
  · skip
    have c_2 := (cq_le (nI_toInt (by omega)) (nI_toInt (by omega))).mp c_2
    refine lv_iload_n hx hb dX1_heldHouses_35 rfl (lv_at hl 1 rfl) ?_
    exact ret_i (σ, γ) hx hb hr rfl hK hlocks hP hD hS ⟨congrArg nI (congrArg (sumN (heF σ)) (by omega)), rfl⟩ dX1_heldHouses_36
  · skip
    have c_2 := mt (cq_le (nI_toInt (by omega)) (nI_toInt (by omega))).mpr c_2
    refine lv_aload_n hx hb dX1_heldHouses_12 rfl (lv_at hl 0 rfl) ?_
    refine va_get (D := D) (ci := 0) (v := .ref (ad 3)) (C := RX1) (T := TX1) (N := 15) hx hb hts hin hown hK hP 0 rfl rfl 3 (by decide) (hts (.fieldLink RX1 16 "HandCases" "held" "[Z") (by decide +kernel)) (fun _ h9 => h9) rfl dX1_heldHouses_13 ?_
    refine lv_aload_n hx hb dX1_heldHouses_16 rfl (lv_at hl 0 rfl) ?_
    refine va_get (D := D) (ci := 0) (v := .ref (ad 4)) (C := RX1) (T := TX1) (N := 15) hx hb hts hin hown hK hP 0 rfl rfl 4 (by decide) (hts (.fieldLink RX1 20 "HandCases" "told" "[I") (by decide +kernel)) (fun _ h9 => h9) rfl dX1_heldHouses_17 ?_
    refine lv_iload_n hx hb dX1_heldHouses_20 rfl (lv_at hl 2 rfl) ?_
    have b_3 := b4 hI i
    refine q_iald (v := nI (σ 4 i)) hx hb hK hP 4 0 rfl rfl i (nI_toInt (by omega)) (by omega) rfl dX1_heldHouses_21 ?_
    have b_4 := b3 hI (σ 4 i)
    refine q_zald (v := nI (σ 3 (σ 4 i))) hx hb hK hP 3 1 rfl rfl (σ 4 i) (nI_toInt (by omega)) (by omega) rfl dX1_heldHouses_22 ?_
    refine lv_if_eq (tgt := 29) hx hb dX1_heldHouses_23 (by decide) (fun c_5 => ?_) (fun c_5 => ?_)
    · skip
      have c_5 := (cq_eq (nI_toInt (by omega)) (show (0 : Int32).toInt = (0 : Int) from by decide)).mp c_5
      refine lv_iinc (v := nI (i + 1)) (lv' := [(2, .int (nI (i + 1))), (0, .ref (ad 0)), (1, .int (nI (sumN (heF σ) i)))]) hx hb dX1_heldHouses_29 hl (k := 2) rfl (nI_add i 1) (by decide) rfl (fun ls hl => ?_)
      refine lv_goto (tgt := 4) hx hb dX1_heldHouses_32 (by decide) ?_
      exact ih (i + 1) _ _ _ ⟨by omega, hP, hD, hS, lv_as (lv_sub hl [1, 2, 0] rfl) (lv_c rfl (lv_c (congrArg Value.int (congrArg nI (by have e9 : heF σ i = 0 := if_pos (by omega); show _ = sumN (heF σ) i + heF σ i; omega))) (lv_c rfl rfl)))⟩ (by omega)
    · skip
      have c_5 := mt (cq_eq (nI_toInt (by omega)) (show (0 : Int32).toInt = (0 : Int) from by decide)).mpr c_5
      refine lv_iinc (v := nI ((sumN (heF σ) i) + 1)) (lv' := [(1, .int (nI ((sumN (heF σ) i) + 1))), (0, .ref (ad 0)), (2, .int (nI i))]) hx hb dX1_heldHouses_26 hl (k := 1) rfl (nI_add (sumN (heF σ) i) 1) (by decide) rfl (fun ls hl => ?_)
      refine lv_iinc (v := nI (i + 1)) (lv' := [(2, .int (nI (i + 1))), (1, .int (nI ((sumN (heF σ) i) + 1))), (0, .ref (ad 0))]) hx hb dX1_heldHouses_29 hl (k := 2) rfl (nI_add i 1) (by decide) rfl (fun ls hl => ?_)
      refine lv_goto (tgt := 4) hx hb dX1_heldHouses_32 (by decide) ?_
      exact ih (i + 1) _ _ _ ⟨by omega, hP, hD, hS, lv_as (lv_sub hl [2, 1, 0] rfl) (lv_c rfl (lv_c (congrArg Value.int (congrArg nI (by have e9 : heF σ i = 1 := if_neg (by omega); show _ = sumN (heF σ) i + heF σ i; omega))) (lv_c rfl rfl)))⟩ (by omega)

set_option maxHeartbeats 4000000 in
set_option maxRecDepth 100000 in
theorem c_X1_leastCarrierAt (l : Launch) (cI cZ : ClassId) (D : va_G) (ad pl : Nat → Nat) (tb sz : Nat) (σ γ : Sg) (gg : Nat) (hI : Inv σ) (hg : gg < σ 0 0) : CtI l yX1_leastCarrierAt wsX1_leastCarrierAt ({ frames := 0, cells := 0, slots := 0, locals := 0 }) cI cZ D ad pl tb sz (WC cI cZ ad) (σ, γ) [.ref (ad 0), .int (nI gg)] (fun r u => r = mI (leastN σ gg (σ 5 0)) ∧ u = (σ, γ)) := by
  refine Met.ofW (cc := cX1_leastCarrierAt) (maxL := 5) (ret := (some .int)) (by decide) rfl ?_
  intro p e s m args below meth c s₁ B hml hv
  obtain ⟨rfl, hsz, hP, hK, hD0, hZ⟩ := hv
  have hx := B.exec
  have hb := B.bytes
  have hr := B.returns
  have hts := atoms_spec (ws := wsX1_leastCarrierAt) B.pre
  have hown : s.vm.findClass RX1 = some m.cls := findClass_of_methodNamed B.named
  have hlocks := B.notSynchronized
  have hin : ∀ w ∈ wsX10, w ∈ wsX1_leastCarrierAt := fun w h => List.mem_cons_of_mem _ (List.mem_append_right _ h)
  subst hsz
  have hD : va_D (AC ad s.heap.size) (WC cI cZ ad (σ, γ)) := AC_self WAd_c hD0
  have hA : ∀ q : Nat, s.heap.size ≤ q → AC ad s.heap.size q := fun q h => Or.inr h
  have hS : va_S (AC ad s.heap.size) s.heap s.heap [] := va_S.rf
  have hl := lv_entry ([.ref (ad 0), .int (nI gg)]) (n := 5) (Nat.le_of_ble_eq_true rfl)
  rw [lg_entry_eq]
  generalize (lg_sl ([.ref (ad 0), .int (nI gg)]) ++ List.replicate (5 - (lg_sl ([.ref (ad 0), .int (nI gg)])).length) Slot.unset).toArray = ls at hl ⊢
  have hl : lv_has ls 5 [(0, .ref (ad 0)), (1, .int (nI gg))] := hl
  have b_0 := b0 hI
  refine lv_iconst (v := (-1)) hx hb dX1_leastCarrierAt_0 (by decide) ?_
  refine lv_istore_n (lv' := [(2, .int (-1)), (0, .ref (ad 0)), (1, .int (nI gg))]) hx hb dX1_leastCarrierAt_1 rfl hl (by decide) rfl (fun ls hl => ?_)
  refine lv_iconst (v := 0) hx hb dX1_leastCarrierAt_2 (by decide) ?_
  refine lv_istore_n (lv' := [(3, .int 0), (2, .int (-1)), (0, .ref (ad 0)), (1, .int (nI gg))]) hx hb dX1_leastCarrierAt_3 rfl hl (by decide) rfl (fun ls hl => ?_)
  refine W_loop (ι := Nat) 4 (fun (i : Nat) H locs ls => (i ≤ σ 5 0) ∧ va_P D vwCl (WC cI cZ ad (σ, γ)) H ∧ va_D (AC ad s.heap.size) (WC cI cZ ad (σ, γ)) ∧ va_S (AC ad s.heap.size) s.heap H locs ∧ lv_has ls 5 [(0, .ref (ad 0)), (1, .int (nI gg)), (2, .int (mI (leastN σ gg i))), (3, .int (nI i))]) (fun (i : Nat) => σ 5 0 - i) ?_ 0 _ _ _ ⟨by omega, hP, hD, hS, lv_as (lv_sub hl [2, 3, 1, 0] rfl) (lv_c rfl (lv_c rfl (lv_c (congrArg Value.int (show (-1 : Int32) = mI (leastN σ gg 0) from mI_0.symm)) (lv_c (congrArg Value.int (by rfl)) rfl))))⟩
  intro i H locs ls ⟨h1, hP, hD, hS, hl⟩ ih
  have b_l := leastN_le hI gg i
  refine lv_iload_n hx hb dX1_leastCarrierAt_4 rfl (lv_at hl 3 rfl) ?_
  refine lv_aload_n hx hb dX1_leastCarrierAt_5 rfl (lv_at hl 0 rfl) ?_
  refine va_get (D := D) (ci := 0) (v := .int (nI (σ 5 0))) (C := RX1) (T := TX1) (N := 15) hx hb hts hin hown hK hP 0 rfl rfl 5 (by decide) (hts (.fieldLink RX1 23 "HandCases" "houses" "I") (by decide +kernel)) (fun _ h9 => h9) rfl dX1_leastCarrierAt_6 ?_
  have b_1 := b5 hI
  refine lv_icmp_ge (tgt := 61) hx hb dX1_leastCarrierAt_9 (by decide) (fun c_2 => ?_) (fun c_2 => ?_)
  · skip
    have c_2 := (cq_le (nI_toInt (by omega)) (nI_toInt (by omega))).mp c_2
    refine lv_iload_n hx hb dX1_leastCarrierAt_61 rfl (lv_at hl 2 rfl) ?_
    exact ret_i (σ, γ) hx hb hr rfl hK hlocks hP hD hS ⟨congrArg mI (congrArg (leastN σ gg) (by omega)), rfl⟩ dX1_leastCarrierAt_62
  · skip
    have c_2 := mt (cq_le (nI_toInt (by omega)) (nI_toInt (by omega))).mpr c_2
    refine lv_aload_n hx hb dX1_leastCarrierAt_12 rfl (lv_at hl 0 rfl) ?_
    refine va_get (D := D) (ci := 0) (v := .ref (ad 4)) (C := RX1) (T := TX1) (N := 15) hx hb hts hin hown hK hP 0 rfl rfl 4 (by decide) (hts (.fieldLink RX1 20 "HandCases" "told" "[I") (by decide +kernel)) (fun _ h9 => h9) rfl dX1_leastCarrierAt_13 ?_
    refine lv_iload_n hx hb dX1_leastCarrierAt_16 rfl (lv_at hl 3 rfl) ?_
    have b_3 := b4 hI i
    refine q_iald (v := nI (σ 4 i)) hx hb hK hP 4 0 rfl rfl i (nI_toInt (by omega)) (by omega) rfl dX1_leastCarrierAt_17 ?_
    refine lv_istore (lv' := [(4, .int (nI (σ 4 i))), (0, .ref (ad 0)), (1, .int (nI gg)), (2, .int (mI (leastN σ gg i))), (3, .int (nI i))]) hx hb dX1_leastCarrierAt_18 hl (by decide) rfl (fun ls hl => ?_)
    refine lv_aload_n hx hb dX1_leastCarrierAt_20 rfl (lv_at hl 1 rfl) ?_
    refine va_get (D := D) (ci := 0) (v := .ref (ad 2)) (C := RX1) (T := TX1) (N := 15) hx hb hts hin hown hK hP 0 rfl rfl 2 (by decide) (hts (.fieldLink RX1 13 "HandCases" "holeOf" "[I") (by decide +kernel)) (fun _ h9 => h9) rfl dX1_leastCarrierAt_21 ?_
    refine lv_iload hx hb dX1_leastCarrierAt_24 (lv_at hl 0 rfl) ?_
    have b_4 := b2 hI (σ 4 i)
    refine q_iald (v := mI (σ 2 (σ 4 i))) hx hb hK hP 2 0 rfl rfl (σ 4 i) (nI_toInt (by omega)) (by omega) rfl dX1_leastCarrierAt_26 ?_
    refine lv_iload_n hx hb dX1_leastCarrierAt_27 rfl (lv_at hl 2 rfl) ?_
    refine lv_icmp_ne (tgt := 55) hx hb dX1_leastCarrierAt_28 (by decide) (fun c_5 => ?_) (fun c_5 => ?_)
    · skip
      have c_5 := mt (cq_eq (mI_toInt (by omega)) (nI_toInt (by omega))).mpr c_5
      refine lv_iinc (v := nI (i + 1)) (lv' := [(3, .int (nI (i + 1))), (4, .int (nI (σ 4 i))), (0, .ref (ad 0)), (1, .int (nI gg)), (2, .int (mI (leastN σ gg i)))]) hx hb dX1_leastCarrierAt_55 hl (k := 4) rfl (nI_add i 1) (by decide) rfl (fun ls hl => ?_)
      refine lv_goto (tgt := 4) hx hb dX1_leastCarrierAt_58 (by decide) ?_
      exact ih (i + 1) _ _ _ ⟨by omega, hP, hD, hS, lv_as (lv_sub hl [2, 3, 4, 0] rfl) (lv_c rfl (lv_c rfl (lv_c (congrArg Value.int (congrArg mI (by show _ = (if σ 2 (σ 4 i) = gg + 1 ∧ (leastN σ gg i = 0 ∨ σ 1 (σ 4 i) < leastN σ gg i) then σ 1 (σ 4 i) else leastN σ gg i); rw [if_neg (by omega)]))) (lv_c rfl rfl))))⟩ (by omega)
    · skip
      have c_5 := (cq_eq (mI_toInt (by omega)) (nI_toInt (by omega))).mp c_5
      refine lv_iload_n hx hb dX1_leastCarrierAt_31 rfl (lv_at hl 3 rfl) ?_
      refine lv_iconst (v := (-1)) hx hb dX1_leastCarrierAt_32 (by decide) ?_
      refine lv_icmp_eq (tgt := 47) hx hb dX1_leastCarrierAt_33 (by decide) (fun c_6 => ?_) (fun c_6 => ?_)
      · skip
        have c_6 := (cq_eq (mI_toInt (by omega)) (show (-1 : Int32).toInt = (-1 : Int) from by decide)).mp c_6
        refine lv_aload_n hx hb dX1_leastCarrierAt_47 rfl (lv_at hl 1 rfl) ?_
        refine va_get (D := D) (ci := 0) (v := .ref (ad 1)) (C := RX1) (T := TX1) (N := 15) hx hb hts hin hown hK hP 0 rfl rfl 1 (by decide) (hts (.fieldLink RX1 9 "HandCases" "carrierOf" "[I") (by decide +kernel)) (fun _ h9 => h9) rfl dX1_leastCarrierAt_48 ?_
        refine lv_iload hx hb dX1_leastCarrierAt_51 (lv_at hl 0 rfl) ?_
        have b_7 := b1 hI (σ 4 i)
        refine q_iald (v := mI (σ 1 (σ 4 i))) hx hb hK hP 1 0 rfl rfl (σ 4 i) (nI_toInt (by omega)) (by omega) rfl dX1_leastCarrierAt_53 ?_
        refine lv_istore_n (lv' := [(2, .int (mI (σ 1 (σ 4 i)))), (4, .int (nI (σ 4 i))), (0, .ref (ad 0)), (1, .int (nI gg)), (3, .int (nI i))]) hx hb dX1_leastCarrierAt_54 rfl hl (by decide) rfl (fun ls hl => ?_)
        refine lv_iinc (v := nI (i + 1)) (lv' := [(3, .int (nI (i + 1))), (2, .int (mI (σ 1 (σ 4 i)))), (4, .int (nI (σ 4 i))), (0, .ref (ad 0)), (1, .int (nI gg))]) hx hb dX1_leastCarrierAt_55 hl (k := 4) rfl (nI_add i 1) (by decide) rfl (fun ls hl => ?_)
        refine lv_goto (tgt := 4) hx hb dX1_leastCarrierAt_58 (by decide) ?_
        exact ih (i + 1) _ _ _ ⟨by omega, hP, hD, hS, lv_as (lv_sub hl [3, 4, 1, 0] rfl) (lv_c rfl (lv_c rfl (lv_c (congrArg Value.int (congrArg mI (by show _ = (if σ 2 (σ 4 i) = gg + 1 ∧ (leastN σ gg i = 0 ∨ σ 1 (σ 4 i) < leastN σ gg i) then σ 1 (σ 4 i) else leastN σ gg i); rw [if_pos (by omega)]))) (lv_c rfl rfl))))⟩ (by omega)
      · skip
        have c_6 := mt (cq_eq (mI_toInt (by omega)) (show (-1 : Int32).toInt = (-1 : Int) from by decide)).mpr c_6
        refine lv_aload_n hx hb dX1_leastCarrierAt_36 rfl (lv_at hl 1 rfl) ?_
        refine va_get (D := D) (ci := 0) (v := .ref (ad 1)) (C := RX1) (T := TX1) (N := 15) hx hb hts hin hown hK hP 0 rfl rfl 1 (by decide) (hts (.fieldLink RX1 9 "HandCases" "carrierOf" "[I") (by decide +kernel)) (fun _ h9 => h9) rfl dX1_leastCarrierAt_37 ?_
        refine lv_iload hx hb dX1_leastCarrierAt_40 (lv_at hl 0 rfl) ?_
        have b_8 := b1 hI (σ 4 i)
        refine q_iald (v := mI (σ 1 (σ 4 i))) hx hb hK hP 1 0 rfl rfl (σ 4 i) (nI_toInt (by omega)) (by omega) rfl dX1_leastCarrierAt_42 ?_
        refine lv_iload_n hx hb dX1_leastCarrierAt_43 rfl (lv_at hl 3 rfl) ?_
        refine lv_icmp_ge (tgt := 55) hx hb dX1_leastCarrierAt_44 (by decide) (fun c_9 => ?_) (fun c_9 => ?_)
        · skip
          have c_9 := (cq_le (mI_toInt (by omega)) (mI_toInt (by omega))).mp c_9
          refine lv_iinc (v := nI (i + 1)) (lv' := [(3, .int (nI (i + 1))), (4, .int (nI (σ 4 i))), (0, .ref (ad 0)), (1, .int (nI gg)), (2, .int (mI (leastN σ gg i)))]) hx hb dX1_leastCarrierAt_55 hl (k := 4) rfl (nI_add i 1) (by decide) rfl (fun ls hl => ?_)
          refine lv_goto (tgt := 4) hx hb dX1_leastCarrierAt_58 (by decide) ?_
          exact ih (i + 1) _ _ _ ⟨by omega, hP, hD, hS, lv_as (lv_sub hl [2, 3, 4, 0] rfl) (lv_c rfl (lv_c rfl (lv_c (congrArg Value.int (congrArg mI (by show _ = (if σ 2 (σ 4 i) = gg + 1 ∧ (leastN σ gg i = 0 ∨ σ 1 (σ 4 i) < leastN σ gg i) then σ 1 (σ 4 i) else leastN σ gg i); rw [if_neg (by omega)]))) (lv_c rfl rfl))))⟩ (by omega)
        · skip
          have c_9 := mt (cq_le (mI_toInt (by omega)) (mI_toInt (by omega))).mpr c_9
          refine lv_aload_n hx hb dX1_leastCarrierAt_47 rfl (lv_at hl 1 rfl) ?_
          refine va_get (D := D) (ci := 0) (v := .ref (ad 1)) (C := RX1) (T := TX1) (N := 15) hx hb hts hin hown hK hP 0 rfl rfl 1 (by decide) (hts (.fieldLink RX1 9 "HandCases" "carrierOf" "[I") (by decide +kernel)) (fun _ h9 => h9) rfl dX1_leastCarrierAt_48 ?_
          refine lv_iload hx hb dX1_leastCarrierAt_51 (lv_at hl 0 rfl) ?_
          have b_10 := b1 hI (σ 4 i)
          refine q_iald (v := mI (σ 1 (σ 4 i))) hx hb hK hP 1 0 rfl rfl (σ 4 i) (nI_toInt (by omega)) (by omega) rfl dX1_leastCarrierAt_53 ?_
          refine lv_istore_n (lv' := [(2, .int (mI (σ 1 (σ 4 i)))), (4, .int (nI (σ 4 i))), (0, .ref (ad 0)), (1, .int (nI gg)), (3, .int (nI i))]) hx hb dX1_leastCarrierAt_54 rfl hl (by decide) rfl (fun ls hl => ?_)
          refine lv_iinc (v := nI (i + 1)) (lv' := [(3, .int (nI (i + 1))), (2, .int (mI (σ 1 (σ 4 i)))), (4, .int (nI (σ 4 i))), (0, .ref (ad 0)), (1, .int (nI gg))]) hx hb dX1_leastCarrierAt_55 hl (k := 4) rfl (nI_add i 1) (by decide) rfl (fun ls hl => ?_)
          refine lv_goto (tgt := 4) hx hb dX1_leastCarrierAt_58 (by decide) ?_
          exact ih (i + 1) _ _ _ ⟨by omega, hP, hD, hS, lv_as (lv_sub hl [3, 4, 1, 0] rfl) (lv_c rfl (lv_c rfl (lv_c (congrArg Value.int (congrArg mI (by show _ = (if σ 2 (σ 4 i) = gg + 1 ∧ (leastN σ gg i = 0 ∨ σ 1 (σ 4 i) < leastN σ gg i) then σ 1 (σ 4 i) else leastN σ gg i); rw [if_pos (by omega)]))) (lv_c rfl rfl))))⟩ (by omega)

set_option maxHeartbeats 4000000 in
set_option maxRecDepth 100000 in
theorem c_X1_houseByHoles (l : Launch) (cI cZ : ClassId) (D : va_G) (ad pl : Nat → Nat) (tb sz : Nat) (σ γ : Sg) (p0 : Int32) (hI : Inv σ) : CtI l yX1_houseByHoles wsX1_houseByHoles ({ frames := 0, cells := 0, slots := 0, locals := 0 }) cI cZ D ad pl tb sz (WC cI cZ ad) (σ, γ) [.ref (ad 0), .int p0] (fun r u => r = pickI p0 (teL σ) ∧ u = (σ, γ)) := by
  refine Met.ofW (cc := cX1_houseByHoles) (maxL := 7) (ret := (some .int)) (by decide) rfl ?_
  intro p e s m args below meth c s₁ B hml hv
  obtain ⟨rfl, hsz, hP, hK, hD0, hZ⟩ := hv
  have hx := B.exec
  have hb := B.bytes
  have hr := B.returns
  have hts := atoms_spec (ws := wsX1_houseByHoles) B.pre
  have hown : s.vm.findClass RX1 = some m.cls := findClass_of_methodNamed B.named
  have hlocks := B.notSynchronized
  have hin : ∀ w ∈ wsX10, w ∈ wsX1_houseByHoles := fun w h => List.mem_cons_of_mem _ (List.mem_append_right _ h)
  subst hsz
  have hD : va_D (AC ad s.heap.size) (WC cI cZ ad (σ, γ)) := AC_self WAd_c hD0
  have hA : ∀ q : Nat, s.heap.size ≤ q → AC ad s.heap.size q := fun q h => Or.inr h
  have hS : va_S (AC ad s.heap.size) s.heap s.heap [] := va_S.rf
  have hl := lv_entry ([.ref (ad 0), .int p0]) (n := 7) (Nat.le_of_ble_eq_true rfl)
  rw [lg_entry_eq]
  generalize (lg_sl ([.ref (ad 0), .int p0]) ++ List.replicate (7 - (lg_sl ([.ref (ad 0), .int p0])).length) Slot.unset).toArray = ls at hl ⊢
  have hl : lv_has ls 7 [(0, .ref (ad 0)), (1, .int p0)] := hl
  have b_0 := b0 hI
  refine lv_iconst (v := 0) hx hb dX1_houseByHoles_0 (by decide) ?_
  refine lv_istore_n (lv' := [(2, .int 0), (0, .ref (ad 0)), (1, .int p0)]) hx hb dX1_houseByHoles_1 rfl hl (by decide) rfl (fun ls hl => ?_)
  refine lv_iconst (v := 0) hx hb dX1_houseByHoles_2 (by decide) ?_
  refine lv_istore_n (lv' := [(3, .int 0), (2, .int 0), (0, .ref (ad 0)), (1, .int p0)]) hx hb dX1_houseByHoles_3 rfl hl (by decide) rfl (fun ls hl => ?_)
  refine W_loop (ι := Nat) 4 (fun (g : Nat) H locs ls => (g ≤ σ 0 0) ∧ (¬ (0 ≤ p0.toInt ∧ p0.toInt < ((catN (teG σ) g).length : Int))) ∧ va_P D vwCl (WC cI cZ ad (σ, γ)) H ∧ va_D (AC ad s.heap.size) (WC cI cZ ad (σ, γ)) ∧ va_S (AC ad s.heap.size) s.heap H locs ∧ lv_has ls 7 [(0, .ref (ad 0)), (1, .int p0), (2, .int (nI ((catN (teG σ) g).length))), (3, .int (nI g))]) (fun (g : Nat) => σ 0 0 - g) ?_ 0 _ _ _ ⟨by omega, by show ¬ (0 ≤ p0.toInt ∧ p0.toInt < (([] : List Nat).length : Int)); simp only [List.length_nil]; omega, hP, hD, hS, lv_as (lv_sub hl [2, 3, 1, 0] rfl) (lv_c rfl (lv_c rfl (lv_c (congrArg Value.int (by rfl)) (lv_c (congrArg Value.int (by rfl)) rfl))))⟩
  intro g H locs ls ⟨h1, h2, hP, hD, hS, hl⟩ ihg
  refine lv_iload_n hx hb dX1_houseByHoles_4 rfl (lv_at hl 3 rfl) ?_
  refine lv_aload_n hx hb dX1_houseByHoles_5 rfl (lv_at hl 0 rfl) ?_
  refine va_get (D := D) (ci := 0) (v := .int (nI (σ 0 0))) (C := RX1) (T := TX1) (N := 15) hx hb hts hin hown hK hP 0 rfl rfl 0 (by decide) (hts (.fieldLink RX1 63 "HandCases" "holes" "I") (by decide +kernel)) (fun _ h9 => h9) rfl dX1_houseByHoles_6 ?_
  have b_1 := b0 hI
  refine lv_icmp_ge (tgt := 94) hx hb dX1_houseByHoles_9 (by decide) (fun c_2 => ?_) (fun c_2 => ?_)
  · skip
    have c_2 := (cq_le (nI_toInt (by omega)) (nI_toInt (by omega))).mp c_2
    refine lv_iconst (v := (-1)) hx hb dX1_houseByHoles_94 (by decide) ?_
    exact ret_i (σ, γ) hx hb hr rfl hK hlocks hP hD hS ⟨pickI_no (by rw [show teL σ = catN (teG σ) g from congrArg (catN (teG σ)) (by omega)]; exact h2), rfl⟩ dX1_houseByHoles_95
  · skip
    have c_2 := mt (cq_le (nI_toInt (by omega)) (nI_toInt (by omega))).mpr c_2
    refine lv_iconst (v := 0) hx hb dX1_houseByHoles_12 (by decide) ?_
    refine lv_istore (lv' := [(4, .int 0), (0, .ref (ad 0)), (1, .int p0), (2, .int (nI ((catN (teG σ) g).length))), (3, .int (nI g))]) hx hb dX1_houseByHoles_13 hl (by decide) rfl (fun ls hl => ?_)
    refine W_loop (ι := Nat) 15 (fun (c : Nat) H locs ls => (c ≤ 4) ∧ (¬ (0 ≤ p0.toInt ∧ p0.toInt < ((catN (teG σ) g ++ catN (teC σ g) c).length : Int))) ∧ va_P D vwCl (WC cI cZ ad (σ, γ)) H ∧ va_D (AC ad s.heap.size) (WC cI cZ ad (σ, γ)) ∧ va_S (AC ad s.heap.size) s.heap H locs ∧ lv_has ls 7 [(0, .ref (ad 0)), (1, .int p0), (2, .int (nI ((catN (teG σ) g ++ catN (teC σ g) c).length))), (3, .int (nI g)), (4, .int (nI c))]) (fun (c : Nat) => 4 - c) ?_ 0 _ _ _ ⟨by omega, by show ¬ (0 ≤ p0.toInt ∧ p0.toInt < ((catN (teG σ) g ++ []).length : Int)); rw [List.append_nil]; exact h2, hP, hD, hS, lv_as (lv_sub hl [1, 2, 3, 4, 0] rfl) (lv_c rfl (lv_c rfl (lv_c (congrArg Value.int (congrArg nI (by show _ = (catN (teG σ) g ++ []).length; rw [List.append_nil]))) (lv_c rfl (lv_c (congrArg Value.int (by rfl)) rfl)))))⟩
    intro c H locs ls ⟨h3, h4, hP, hD, hS, hl⟩ ihc
    refine lv_iload hx hb dX1_houseByHoles_15 (lv_at hl 4 rfl) ?_
    refine lv_iconst (v := 4) hx hb dX1_houseByHoles_17 (by decide) ?_
    refine lv_icmp_ge (tgt := 88) hx hb dX1_houseByHoles_18 (by decide) (fun c_3 => ?_) (fun c_3 => ?_)
    · skip
      have c_3 := (cq_le (show (4 : Int32).toInt = (4 : Int) from by decide) (nI_toInt (by omega))).mp c_3
      refine lv_iinc (v := nI (g + 1)) (lv' := [(3, .int (nI (g + 1))), (0, .ref (ad 0)), (1, .int p0), (2, .int (nI ((catN (teG σ) g ++ catN (teC σ g) c).length))), (4, .int (nI c))]) hx hb dX1_houseByHoles_88 hl (k := 3) rfl (nI_add g 1) (by decide) rfl (fun ls hl => ?_)
      refine lv_goto (tgt := 4) hx hb dX1_houseByHoles_91 (by decide) ?_
      have hc4 : c = 4 := by omega
      exact ihg (g + 1) _ _ _ ⟨by omega, by subst hc4; exact h4, hP, hD, hS, lv_as (lv_sub hl [1, 2, 3, 0] rfl) (lv_c rfl (lv_c rfl (lv_c (congrArg Value.int (congrArg nI (by subst hc4; rfl))) (lv_c rfl rfl))))⟩ (by omega)
    · skip
      have c_3 := mt (cq_le (show (4 : Int32).toInt = (4 : Int) from by decide) (nI_toInt (by omega))).mpr c_3
      refine lv_iconst (v := 0) hx hb dX1_houseByHoles_21 (by decide) ?_
      refine lv_istore (lv' := [(5, .int 0), (0, .ref (ad 0)), (1, .int p0), (2, .int (nI ((catN (teG σ) g ++ catN (teC σ g) c).length))), (3, .int (nI g)), (4, .int (nI c))]) hx hb dX1_houseByHoles_22 hl (by decide) rfl (fun ls hl => ?_)
      refine W_loop (ι := Nat) 24 (fun (k : Nat) H locs ls => (k ≤ σ 5 0) ∧ (¬ (0 ≤ p0.toInt ∧ p0.toInt < ((catN (teG σ) g ++ catN (teC σ g) c ++ catN (teK σ g c) k).length : Int))) ∧ va_P D vwCl (WC cI cZ ad (σ, γ)) H ∧ va_D (AC ad s.heap.size) (WC cI cZ ad (σ, γ)) ∧ va_S (AC ad s.heap.size) s.heap H locs ∧ lv_has ls 7 [(0, .ref (ad 0)), (1, .int p0), (2, .int (nI ((catN (teG σ) g ++ catN (teC σ g) c ++ catN (teK σ g c) k).length))), (3, .int (nI g)), (4, .int (nI c)), (5, .int (nI k))]) (fun (k : Nat) => σ 5 0 - k) ?_ 0 _ _ _ ⟨by omega, by show ¬ (0 ≤ p0.toInt ∧ p0.toInt < ((catN (teG σ) g ++ catN (teC σ g) c ++ []).length : Int)); rw [List.append_nil]; exact h4, hP, hD, hS, lv_as (lv_sub hl [1, 2, 3, 4, 5, 0] rfl) (lv_c rfl (lv_c rfl (lv_c (congrArg Value.int (congrArg nI (by show _ = (catN (teG σ) g ++ catN (teC σ g) c ++ []).length; rw [List.append_nil]))) (lv_c rfl (lv_c rfl (lv_c (congrArg Value.int (by rfl)) rfl))))))⟩
      intro k H locs ls ⟨h5, h6, hP, hD, hS, hl⟩ ihk
      have b_t := te_bd hI g c k
      refine lv_iload hx hb dX1_houseByHoles_24 (lv_at hl 5 rfl) ?_
      refine lv_aload_n hx hb dX1_houseByHoles_26 rfl (lv_at hl 0 rfl) ?_
      refine va_get (D := D) (ci := 0) (v := .int (nI (σ 5 0))) (C := RX1) (T := TX1) (N := 15) hx hb hts hin hown hK hP 0 rfl rfl 5 (by decide) (hts (.fieldLink RX1 23 "HandCases" "houses" "I") (by decide +kernel)) (fun _ h9 => h9) rfl dX1_houseByHoles_27 ?_
      have b_4 := b5 hI
      refine lv_icmp_ge (tgt := 82) hx hb dX1_houseByHoles_30 (by decide) (fun c_5 => ?_) (fun c_5 => ?_)
      · skip
        have c_5 := (cq_le (nI_toInt (by omega)) (nI_toInt (by omega))).mp c_5
        refine lv_iinc (v := nI (c + 1)) (lv' := [(4, .int (nI (c + 1))), (0, .ref (ad 0)), (1, .int p0), (2, .int (nI ((catN (teG σ) g ++ catN (teC σ g) c ++ catN (teK σ g c) k).length))), (3, .int (nI g)), (5, .int (nI k))]) hx hb dX1_houseByHoles_82 hl (k := 4) rfl (nI_add c 1) (by decide) rfl (fun ls hl => ?_)
        refine lv_goto (tgt := 15) hx hb dX1_houseByHoles_85 (by decide) ?_
        have hk5 : k = σ 5 0 := by omega
        exact ihc (c + 1) _ _ _ ⟨by omega, by subst hk5; rw [List.append_assoc] at h6; exact h6, hP, hD, hS, lv_as (lv_sub hl [1, 2, 3, 4, 0] rfl) (lv_c rfl (lv_c rfl (lv_c (congrArg Value.int (congrArg nI (by subst hk5; show _ = (catN (teG σ) g ++ (catN (teC σ g) c ++ catN (teK σ g c) (σ 5 0))).length; rw [List.append_assoc]))) (lv_c rfl (lv_c rfl rfl)))))⟩ (by omega)
      · skip
        have c_5 := mt (cq_le (nI_toInt (by omega)) (nI_toInt (by omega))).mpr c_5
        refine lv_aload_n hx hb dX1_houseByHoles_33 rfl (lv_at hl 0 rfl) ?_
        refine va_get (D := D) (ci := 0) (v := .ref (ad 4)) (C := RX1) (T := TX1) (N := 15) hx hb hts hin hown hK hP 0 rfl rfl 4 (by decide) (hts (.fieldLink RX1 20 "HandCases" "told" "[I") (by decide +kernel)) (fun _ h9 => h9) rfl dX1_houseByHoles_34 ?_
        refine lv_iload hx hb dX1_houseByHoles_37 (lv_at hl 5 rfl) ?_
        have b_6 := b4 hI k
        refine q_iald (v := nI (σ 4 k)) hx hb hK hP 4 0 rfl rfl k (nI_toInt (by omega)) (by omega) rfl dX1_houseByHoles_39 ?_
        refine lv_istore (lv' := [(6, .int (nI (σ 4 k))), (0, .ref (ad 0)), (1, .int p0), (2, .int (nI ((catN (teG σ) g ++ catN (teC σ g) c ++ catN (teK σ g c) k).length))), (3, .int (nI g)), (4, .int (nI c)), (5, .int (nI k))]) hx hb dX1_houseByHoles_40 hl (by decide) rfl (fun ls hl => ?_)
        refine lv_aload_n hx hb dX1_houseByHoles_42 rfl (lv_at hl 1 rfl) ?_
        refine va_get (D := D) (ci := 0) (v := .ref (ad 2)) (C := RX1) (T := TX1) (N := 15) hx hb hts hin hown hK hP 0 rfl rfl 2 (by decide) (hts (.fieldLink RX1 13 "HandCases" "holeOf" "[I") (by decide +kernel)) (fun _ h9 => h9) rfl dX1_houseByHoles_43 ?_
        refine lv_iload hx hb dX1_houseByHoles_46 (lv_at hl 0 rfl) ?_
        have b_7 := b2 hI (σ 4 k)
        refine q_iald (v := mI (σ 2 (σ 4 k))) hx hb hK hP 2 0 rfl rfl (σ 4 k) (nI_toInt (by omega)) (by omega) rfl dX1_houseByHoles_48 ?_
        refine lv_iload_n hx hb dX1_houseByHoles_49 rfl (lv_at hl 4 rfl) ?_
        refine lv_icmp_ne (tgt := 76) hx hb dX1_houseByHoles_50 (by decide) (fun c_8 => ?_) (fun c_8 => ?_)
        · skip
          have c_8 := mt (cq_eq (mI_toInt (by omega)) (nI_toInt (by omega))).mpr c_8
          refine lv_iinc (v := nI (k + 1)) (lv' := [(5, .int (nI (k + 1))), (6, .int (nI (σ 4 k))), (0, .ref (ad 0)), (1, .int p0), (2, .int (nI ((catN (teG σ) g ++ catN (teC σ g) c ++ catN (teK σ g c) k).length))), (3, .int (nI g)), (4, .int (nI c))]) hx hb dX1_houseByHoles_76 hl (k := 6) rfl (nI_add k 1) (by decide) rfl (fun ls hl => ?_)
          refine lv_goto (tgt := 24) hx hb dX1_houseByHoles_79 (by decide) ?_
          exact ihk (k + 1) _ _ _ ⟨by omega, by rw [teK_no (by omega)]; exact h6, hP, hD, hS, lv_as (lv_sub hl [2, 3, 4, 5, 6, 0] rfl) (lv_c rfl (lv_c rfl (lv_c (congrArg Value.int (congrArg nI (by rw [teK_no (by omega)]))) (lv_c rfl (lv_c rfl (lv_c rfl rfl))))))⟩ (by omega)
        · skip
          have c_8 := (cq_eq (mI_toInt (by omega)) (nI_toInt (by omega))).mp c_8
          refine lv_aload_n hx hb dX1_houseByHoles_53 rfl (lv_at hl 1 rfl) ?_
          refine va_get (D := D) (ci := 0) (v := .ref (ad 1)) (C := RX1) (T := TX1) (N := 15) hx hb hts hin hown hK hP 0 rfl rfl 1 (by decide) (hts (.fieldLink RX1 9 "HandCases" "carrierOf" "[I") (by decide +kernel)) (fun _ h9 => h9) rfl dX1_houseByHoles_54 ?_
          refine lv_iload hx hb dX1_houseByHoles_57 (lv_at hl 0 rfl) ?_
          have b_9 := b1 hI (σ 4 k)
          refine q_iald (v := mI (σ 1 (σ 4 k))) hx hb hK hP 1 0 rfl rfl (σ 4 k) (nI_toInt (by omega)) (by omega) rfl dX1_houseByHoles_59 ?_
          refine lv_iload hx hb dX1_houseByHoles_60 (lv_at hl 5 rfl) ?_
          refine lv_icmp_ne (tgt := 76) hx hb dX1_houseByHoles_62 (by decide) (fun c_10 => ?_) (fun c_10 => ?_)
          · skip
            have c_10 := mt (cq_eq (mI_toInt (by omega)) (nI_toInt (by omega))).mpr c_10
            refine lv_iinc (v := nI (k + 1)) (lv' := [(5, .int (nI (k + 1))), (6, .int (nI (σ 4 k))), (0, .ref (ad 0)), (1, .int p0), (2, .int (nI ((catN (teG σ) g ++ catN (teC σ g) c ++ catN (teK σ g c) k).length))), (3, .int (nI g)), (4, .int (nI c))]) hx hb dX1_houseByHoles_76 hl (k := 6) rfl (nI_add k 1) (by decide) rfl (fun ls hl => ?_)
            refine lv_goto (tgt := 24) hx hb dX1_houseByHoles_79 (by decide) ?_
            exact ihk (k + 1) _ _ _ ⟨by omega, by rw [teK_no (by omega)]; exact h6, hP, hD, hS, lv_as (lv_sub hl [2, 3, 4, 5, 6, 0] rfl) (lv_c rfl (lv_c rfl (lv_c (congrArg Value.int (congrArg nI (by rw [teK_no (by omega)]))) (lv_c rfl (lv_c rfl (lv_c rfl rfl))))))⟩ (by omega)
          · skip
            have c_10 := (cq_eq (mI_toInt (by omega)) (nI_toInt (by omega))).mp c_10
            refine lv_iload_n hx hb dX1_houseByHoles_65 rfl (lv_at hl 3 rfl) ?_
            refine lv_iload_n hx hb dX1_houseByHoles_66 rfl (lv_at hl 2 rfl) ?_
            refine lv_icmp_ne (tgt := 73) hx hb dX1_houseByHoles_67 (by decide) (fun c_11 => ?_) (fun c_11 => ?_)
            · skip
              have c_11 := mt (cq_eq (nI_toInt (by omega)) rfl).mpr c_11
              refine lv_iinc (v := nI (((catN (teG σ) g ++ catN (teC σ g) c ++ catN (teK σ g c) k).length) + 1)) (lv' := [(2, .int (nI (((catN (teG σ) g ++ catN (teC σ g) c ++ catN (teK σ g c) k).length) + 1))), (6, .int (nI (σ 4 k))), (0, .ref (ad 0)), (1, .int p0), (3, .int (nI g)), (4, .int (nI c)), (5, .int (nI k))]) hx hb dX1_houseByHoles_73 hl (k := 3) rfl (nI_add ((catN (teG σ) g ++ catN (teC σ g) c ++ catN (teK σ g c) k).length) 1) (by decide) rfl (fun ls hl => ?_)
              refine lv_iinc (v := nI (k + 1)) (lv' := [(5, .int (nI (k + 1))), (2, .int (nI (((catN (teG σ) g ++ catN (teC σ g) c ++ catN (teK σ g c) k).length) + 1))), (6, .int (nI (σ 4 k))), (0, .ref (ad 0)), (1, .int p0), (3, .int (nI g)), (4, .int (nI c))]) hx hb dX1_houseByHoles_76 hl (k := 6) rfl (nI_add k 1) (by decide) rfl (fun ls hl => ?_)
              refine lv_goto (tgt := 24) hx hb dX1_houseByHoles_79 (by decide) ?_
              exact ihk (k + 1) _ _ _ ⟨by omega, by rw [teK_yes (by omega), ← List.append_assoc, List.length_append]; simp only [List.length_cons, List.length_nil]; omega, hP, hD, hS, lv_as (lv_sub hl [3, 4, 1, 5, 6, 0] rfl) (lv_c rfl (lv_c rfl (lv_c (congrArg Value.int (congrArg nI (by rw [teK_yes (by omega), ← List.append_assoc]; simp only [List.length_append, List.length_cons, List.length_nil, Nat.zero_add]))) (lv_c rfl (lv_c rfl (lv_c rfl rfl))))))⟩ (by omega)
            · skip
              have c_11 := (cq_eq (nI_toInt (by omega)) rfl).mp c_11
              refine lv_iload hx hb dX1_houseByHoles_70 (lv_at hl 0 rfl) ?_
              exact ret_i (σ, γ) hx hb hr rfl hK hlocks hP hD hS ⟨by obtain ⟨r9, hr9⟩ := te_split (σ := σ) (g := g) (c := c) (k := k) (by omega) (by omega) (by omega) (by omega); rw [hr9]; exact pickI_at (by omega), rfl⟩ dX1_houseByHoles_72

set_option maxHeartbeats 4000000 in
set_option maxRecDepth 100000 in
theorem c_X1_leads (l : Launch) (cI cZ : ClassId) (D : va_G) (ad pl : Nat → Nat) (tb sz : Nat) (σ γ : Sg) (ii : Nat) (hI : Inv σ) (hi : ii < 250) : CtI l yX1_leads wsX1_leads ({ frames := 0, cells := 0, slots := 0, locals := 0 }) cI cZ D ad pl tb sz (WC cI cZ ad) (σ, γ) [.ref (ad 0), .int (nI ii)] (fun r u => r = pI (σ 9 ii = 0) ∧ u = (σ, γ)) := by
  refine Met.ofW (cc := cX1_leads) (maxL := 2) (ret := (some .boolean)) (by decide) rfl ?_
  intro p e s m args below meth c s₁ B hml hv
  obtain ⟨rfl, hsz, hP, hK, hD0, hZ⟩ := hv
  have hx := B.exec
  have hb := B.bytes
  have hr := B.returns
  have hts := atoms_spec (ws := wsX1_leads) B.pre
  have hown : s.vm.findClass RX1 = some m.cls := findClass_of_methodNamed B.named
  have hlocks := B.notSynchronized
  have hin : ∀ w ∈ wsX10, w ∈ wsX1_leads := fun w h => List.mem_cons_of_mem _ (List.mem_append_right _ h)
  subst hsz
  have hD : va_D (AC ad s.heap.size) (WC cI cZ ad (σ, γ)) := AC_self WAd_c hD0
  have hA : ∀ q : Nat, s.heap.size ≤ q → AC ad s.heap.size q := fun q h => Or.inr h
  have hS : va_S (AC ad s.heap.size) s.heap s.heap [] := va_S.rf
  have hl := lv_entry ([.ref (ad 0), .int (nI ii)]) (n := 2) (Nat.le_of_ble_eq_true rfl)
  rw [lg_entry_eq]
  generalize (lg_sl ([.ref (ad 0), .int (nI ii)]) ++ List.replicate (2 - (lg_sl ([.ref (ad 0), .int (nI ii)])).length) Slot.unset).toArray = ls at hl ⊢
  have hl : lv_has ls 2 [(0, .ref (ad 0)), (1, .int (nI ii))] := hl
  refine lv_aload_n hx hb dX1_leads_0 rfl (lv_at hl 0 rfl) ?_
  refine va_get (D := D) (ci := 0) (v := .ref (ad 8)) (C := RX1) (T := TX1) (N := 15) hx hb hts hin hown hK hP 0 rfl rfl 9 (by decide) (hts (.fieldLink RX1 36 "HandCases" "before" "[I") (by decide +kernel)) (fun _ h9 => h9) rfl dX1_leads_1 ?_
  refine lv_iload_n hx hb dX1_leads_4 rfl (lv_at hl 1 rfl) ?_
  have b_1 := b9 hI ii
  refine q_iald (v := mI (σ 9 ii)) hx hb hK hP 8 0 rfl rfl ii (nI_toInt (by omega)) (by omega) rfl dX1_leads_5 ?_
  refine lv_iconst (v := (-1)) hx hb dX1_leads_6 (by decide) ?_
  refine lv_icmp_ne (tgt := 14) hx hb dX1_leads_7 (by decide) (fun c_2 => ?_) (fun c_2 => ?_)
  · skip
    have c_2 := mt (cq_eq (mI_toInt (by omega)) (show (-1 : Int32).toInt = (-1 : Int) from by decide)).mpr c_2
    refine lv_iconst (v := 0) hx hb dX1_leads_14 (by decide) ?_
    exact ret_i (σ, γ) hx hb hr rfl hK hlocks hP hD hS ⟨pI_f (by omega), rfl⟩ dX1_leads_15
  · skip
    have c_2 := (cq_eq (mI_toInt (by omega)) (show (-1 : Int32).toInt = (-1 : Int) from by decide)).mp c_2
    refine lv_iconst (v := 1) hx hb dX1_leads_10 (by decide) ?_
    refine lv_goto (tgt := 15) hx hb dX1_leads_11 (by decide) ?_
    exact ret_i (σ, γ) hx hb hr rfl hK hlocks hP hD hS ⟨pI_t (by omega), rfl⟩ dX1_leads_15

set_option maxHeartbeats 4000000 in
set_option maxRecDepth 100000 in
theorem c_X1_leadOf (l : Launch) (cI cZ : ClassId) (D : va_G) (ad pl : Nat → Nat) (tb sz : Nat) (σ γ : Sg) (ii : Nat) (hI : Inv σ) (hi : ii < σ 11 0) : CtI l yX1_leadOf wsX1_leadOf ({ frames := 0, cells := 0, slots := 0, locals := 0 }) cI cZ D ad pl tb sz (WC cI cZ ad) (σ, γ) [.ref (ad 0), .int (nI ii)] (fun r u => r = nI (leadN σ 250 ii) ∧ u = (σ, γ)) := by
  refine Met.ofW (cc := cX1_leadOf) (maxL := 4) (ret := (some .int)) (by decide) rfl ?_
  intro p e s m args below meth c s₁ B hml hv
  obtain ⟨rfl, hsz, hP, hK, hD0, hZ⟩ := hv
  have hx := B.exec
  have hb := B.bytes
  have hr := B.returns
  have hts := atoms_spec (ws := wsX1_leadOf) B.pre
  have hown : s.vm.findClass RX1 = some m.cls := findClass_of_methodNamed B.named
  have hlocks := B.notSynchronized
  have hin : ∀ w ∈ wsX10, w ∈ wsX1_leadOf := fun w h => List.mem_cons_of_mem _ (List.mem_append_right _ h)
  subst hsz
  have hD : va_D (AC ad s.heap.size) (WC cI cZ ad (σ, γ)) := AC_self WAd_c hD0
  have hA : ∀ q : Nat, s.heap.size ≤ q → AC ad s.heap.size q := fun q h => Or.inr h
  have hS : va_S (AC ad s.heap.size) s.heap s.heap [] := va_S.rf
  have hl := lv_entry ([.ref (ad 0), .int (nI ii)]) (n := 4) (Nat.le_of_ble_eq_true rfl)
  rw [lg_entry_eq]
  generalize (lg_sl ([.ref (ad 0), .int (nI ii)]) ++ List.replicate (4 - (lg_sl ([.ref (ad 0), .int (nI ii)])).length) Slot.unset).toArray = ls at hl ⊢
  have hl : lv_has ls 4 [(0, .ref (ad 0)), (1, .int (nI ii))] := hl
  refine lv_iload_n hx hb dX1_leadOf_0 rfl (lv_at hl 1 rfl) ?_
  refine lv_istore_n (lv' := [(2, .int (nI ii)), (0, .ref (ad 0)), (1, .int (nI ii))]) hx hb dX1_leadOf_1 rfl hl (by decide) rfl (fun ls hl => ?_)
  refine lv_iconst (v := 0) hx hb dX1_leadOf_2 (by decide) ?_
  refine lv_istore_n (lv' := [(3, .int 0), (2, .int (nI ii)), (0, .ref (ad 0)), (1, .int (nI ii))]) hx hb dX1_leadOf_3 rfl hl (by decide) rfl (fun ls hl => ?_)
  refine W_loop (ι := Nat × Nat) 4 (fun (x : Nat × Nat) H locs ls => (x.2 ≤ 250) ∧ (x.1 < σ 11 0) ∧ (leadN σ (250 - x.2) x.1 = leadN σ 250 ii) ∧ va_P D vwCl (WC cI cZ ad (σ, γ)) H ∧ va_D (AC ad s.heap.size) (WC cI cZ ad (σ, γ)) ∧ va_S (AC ad s.heap.size) s.heap H locs ∧ lv_has ls 4 [(0, .ref (ad 0)), (1, .int (nI ii)), (2, .int (nI x.1)), (3, .int (nI x.2))]) (fun (x : Nat × Nat) => 250 - x.2) ?_ (ii, 0) _ _ _ ⟨by (try dsimp only); omega, hi, rfl, hP, hD, hS, lv_as (lv_sub hl [2, 3, 1, 0] rfl) (lv_c rfl (lv_c rfl (lv_c rfl (lv_c (congrArg Value.int (by rfl)) rfl))))⟩
  intro ⟨x, n⟩ H locs ls ⟨h1, h2, h3, hP, hD, hS, hl⟩ ih
  dsimp only at h1 h2 h3 hP hD hl ih
  have b_x := I_be hI h2
  have b_i := b11 hI
  refine lv_iload_n hx hb dX1_leadOf_4 rfl (lv_at hl 3 rfl) ?_
  refine lv_sipush (v := 250) hx hb dX1_leadOf_5 (by decide) ?_
  refine lv_icmp_ge (tgt := 34) hx hb dX1_leadOf_8 (by decide) (fun c_1 => ?_) (fun c_1 => ?_)
  · skip
    have c_1 := (cq_le (show (250 : Int32).toInt = (250 : Int) from by decide) (nI_toInt (by omega))).mp c_1
    refine lv_iload_n hx hb dX1_leadOf_34 rfl (lv_at hl 2 rfl) ?_
    exact ret_i (σ, γ) hx hb hr rfl hK hlocks hP hD hS ⟨congrArg nI (by rw [← h3]; first | exact (leadN_en (by omega)).symm | (rw [show 250 - n = 0 from by omega]; rfl)), rfl⟩ dX1_leadOf_35
  · skip
    have c_1 := mt (cq_le (show (250 : Int32).toInt = (250 : Int) from by decide) (nI_toInt (by omega))).mpr c_1
    refine lv_aload_n hx hb dX1_leadOf_11 rfl (lv_at hl 0 rfl) ?_
    refine va_get (D := D) (ci := 0) (v := .ref (ad 8)) (C := RX1) (T := TX1) (N := 15) hx hb hts hin hown hK hP 0 rfl rfl 9 (by decide) (hts (.fieldLink RX1 36 "HandCases" "before" "[I") (by decide +kernel)) (fun _ h9 => h9) rfl dX1_leadOf_12 ?_
    refine lv_iload_n hx hb dX1_leadOf_15 rfl (lv_at hl 2 rfl) ?_
    have b_2 := b9 hI x
    refine q_iald (v := mI (σ 9 x)) hx hb hK hP 8 0 rfl rfl x (nI_toInt (by omega)) (by omega) rfl dX1_leadOf_16 ?_
    refine lv_iconst (v := (-1)) hx hb dX1_leadOf_17 (by decide) ?_
    refine lv_icmp_eq (tgt := 34) hx hb dX1_leadOf_18 (by decide) (fun c_3 => ?_) (fun c_3 => ?_)
    · skip
      have c_3 := (cq_eq (mI_toInt (by omega)) (show (-1 : Int32).toInt = (-1 : Int) from by decide)).mp c_3
      refine lv_iload_n hx hb dX1_leadOf_34 rfl (lv_at hl 2 rfl) ?_
      exact ret_i (σ, γ) hx hb hr rfl hK hlocks hP hD hS ⟨congrArg nI (by rw [← h3]; first | exact (leadN_en (by omega)).symm | (rw [show 250 - n = 0 from by omega]; rfl)), rfl⟩ dX1_leadOf_35
    · skip
      have c_3 := mt (cq_eq (mI_toInt (by omega)) (show (-1 : Int32).toInt = (-1 : Int) from by decide)).mpr c_3
      refine lv_aload_n hx hb dX1_leadOf_21 rfl (lv_at hl 0 rfl) ?_
      refine va_get (D := D) (ci := 0) (v := .ref (ad 8)) (C := RX1) (T := TX1) (N := 15) hx hb hts hin hown hK hP 0 rfl rfl 9 (by decide) (hts (.fieldLink RX1 36 "HandCases" "before" "[I") (by decide +kernel)) (fun _ h9 => h9) rfl dX1_leadOf_22 ?_
      refine lv_iload_n hx hb dX1_leadOf_25 rfl (lv_at hl 2 rfl) ?_
      have b_4 := b9 hI x
      refine q_iald (v := mI (σ 9 x)) hx hb hK hP 8 0 rfl rfl x (nI_toInt (by omega)) (by omega) rfl dX1_leadOf_26 ?_
      refine lv_istore_n (lv' := [(2, .int (mI (σ 9 x))), (0, .ref (ad 0)), (1, .int (nI ii)), (3, .int (nI n))]) hx hb dX1_leadOf_27 rfl hl (by decide) rfl (fun ls hl => ?_)
      refine lv_iinc (v := nI (n + 1)) (lv' := [(3, .int (nI (n + 1))), (2, .int (mI (σ 9 x))), (0, .ref (ad 0)), (1, .int (nI ii))]) hx hb dX1_leadOf_28 hl (k := 3) rfl (nI_add n 1) (by decide) rfl (fun ls hl => ?_)
      refine lv_goto (tgt := 4) hx hb dX1_leadOf_31 (by decide) ?_
      exact ih (σ 9 x - 1, n + 1) _ _ _ ⟨by (try dsimp only); omega, by (try dsimp only); omega, by (try dsimp only); rw [← leadN_st (by omega) (by omega)]; exact h3, hP, hD, hS, lv_as (lv_sub hl [2, 3, 1, 0] rfl) (lv_c rfl (lv_c rfl (lv_c (congrArg Value.int (mI_pos (by omega))) (lv_c rfl rfl))))⟩ (by show 250 - (n + 1) < 250 - n; omega)

set_option maxHeartbeats 4000000 in
set_option maxRecDepth 100000 in
theorem c_X1_sizeOfBundle (l : Launch) (cI cZ : ClassId) (D : va_G) (ad pl : Nat → Nat) (tb sz : Nat) (σ γ : Sg) (ii : Nat) (hI : Inv σ) (hi : ii < σ 11 0) : CtI l yX1_sizeOfBundle wsX1_sizeOfBundle ({ frames := 0, cells := 0, slots := 0, locals := 0 }) cI cZ D ad pl tb sz (WC cI cZ ad) (σ, γ) [.ref (ad 0), .int (nI ii)] (fun r u => r = nI (len σ ii) ∧ u = (σ, γ)) := by
  refine Met.ofW (cc := cX1_sizeOfBundle) (maxL := 4) (ret := (some .int)) (by decide) rfl ?_
  intro p e s m args below meth c s₁ B hml hv
  obtain ⟨rfl, hsz, hP, hK, hD0, hZ⟩ := hv
  have hx := B.exec
  have hb := B.bytes
  have hr := B.returns
  have hts := atoms_spec (ws := wsX1_sizeOfBundle) B.pre
  have hown : s.vm.findClass RX1 = some m.cls := findClass_of_methodNamed B.named
  have hlocks := B.notSynchronized
  have hin : ∀ w ∈ wsX10, w ∈ wsX1_sizeOfBundle := fun w h => List.mem_cons_of_mem _ (List.mem_append_right _ h)
  subst hsz
  have hD : va_D (AC ad s.heap.size) (WC cI cZ ad (σ, γ)) := AC_self WAd_c hD0
  have hA : ∀ q : Nat, s.heap.size ≤ q → AC ad s.heap.size q := fun q h => Or.inr h
  have hS : va_S (AC ad s.heap.size) s.heap s.heap [] := va_S.rf
  have hl := lv_entry ([.ref (ad 0), .int (nI ii)]) (n := 4) (Nat.le_of_ble_eq_true rfl)
  rw [lg_entry_eq]
  generalize (lg_sl ([.ref (ad 0), .int (nI ii)]) ++ List.replicate (4 - (lg_sl ([.ref (ad 0), .int (nI ii)])).length) Slot.unset).toArray = ls at hl ⊢
  have hl : lv_has ls 4 [(0, .ref (ad 0)), (1, .int (nI ii))] := hl
  refine lv_iconst (v := 0) hx hb dX1_sizeOfBundle_0 (by decide) ?_
  refine lv_istore_n (lv' := [(2, .int 0), (0, .ref (ad 0)), (1, .int (nI ii))]) hx hb dX1_sizeOfBundle_1 rfl hl (by decide) rfl (fun ls hl => ?_)
  refine lv_iload_n hx hb dX1_sizeOfBundle_2 rfl (lv_at hl 2 rfl) ?_
  refine lv_istore_n (lv' := [(3, .int (nI ii)), (2, .int 0), (0, .ref (ad 0)), (1, .int (nI ii))]) hx hb dX1_sizeOfBundle_3 rfl hl (by decide) rfl (fun ls hl => ?_)
  refine W_loop (ι := Nat × Nat) 4 (fun (x : Nat × Nat) H locs ls => (x.1 ≤ 250) ∧ (x.2 ≤ σ 11 0) ∧ (x.1 + (chain σ (250 - x.1) x.2).length = len σ ii) ∧ va_P D vwCl (WC cI cZ ad (σ, γ)) H ∧ va_D (AC ad s.heap.size) (WC cI cZ ad (σ, γ)) ∧ va_S (AC ad s.heap.size) s.heap H locs ∧ lv_has ls 4 [(0, .ref (ad 0)), (1, .int (nI ii)), (2, .int (nI x.1)), (3, .int (mI x.2))]) (fun (x : Nat × Nat) => 250 - x.1) ?_ (0, (ii + 1)) _ _ _ ⟨by (try dsimp only); omega, by (try dsimp only); omega, by (try dsimp only); show 0 + (chain σ 250 (ii + 1)).length = _; rw [Nat.zero_add]; rfl, hP, hD, hS, lv_as (lv_sub hl [2, 3, 1, 0] rfl) (lv_c rfl (lv_c rfl (lv_c (congrArg Value.int (by rfl)) (lv_c (congrArg Value.int (mI_s ii).symm) rfl))))⟩
  intro ⟨n, e1⟩ H locs ls ⟨h1, h2, h3, hP, hD, hS, hl⟩ ih
  dsimp only at h1 h2 h3 hP hD hl ih
  have b_i := b11 hI
  refine lv_iload_n hx hb dX1_sizeOfBundle_4 rfl (lv_at hl 3 rfl) ?_
  refine lv_iconst (v := (-1)) hx hb dX1_sizeOfBundle_5 (by decide) ?_
  refine lv_icmp_eq (tgt := 29) hx hb dX1_sizeOfBundle_6 (by decide) (fun c_1 => ?_) (fun c_1 => ?_)
  · skip
    have c_1 := (cq_eq (mI_toInt (by omega)) (show (-1 : Int32).toInt = (-1 : Int) from by decide)).mp c_1
    refine lv_iload_n hx hb dX1_sizeOfBundle_29 rfl (lv_at hl 2 rfl) ?_
    exact ret_i (σ, γ) hx hb hr rfl hK hlocks hP hD hS ⟨congrArg nI (by rw [← h3]; first | (rw [show 250 - n = 0 from by omega]; rfl) | (rw [show e1 = 0 from by omega, chain_0]; rfl)), rfl⟩ dX1_sizeOfBundle_30
  · skip
    have c_1 := mt (cq_eq (mI_toInt (by omega)) (show (-1 : Int32).toInt = (-1 : Int) from by decide)).mpr c_1
    refine lv_iload_n hx hb dX1_sizeOfBundle_9 rfl (lv_at hl 2 rfl) ?_
    refine lv_sipush (v := 250) hx hb dX1_sizeOfBundle_10 (by decide) ?_
    refine lv_icmp_ge (tgt := 29) hx hb dX1_sizeOfBundle_13 (by decide) (fun c_2 => ?_) (fun c_2 => ?_)
    · skip
      have c_2 := (cq_le (show (250 : Int32).toInt = (250 : Int) from by decide) (nI_toInt (by omega))).mp c_2
      refine lv_iload_n hx hb dX1_sizeOfBundle_29 rfl (lv_at hl 2 rfl) ?_
      exact ret_i (σ, γ) hx hb hr rfl hK hlocks hP hD hS ⟨congrArg nI (by rw [← h3]; first | (rw [show 250 - n = 0 from by omega]; rfl) | (rw [show e1 = 0 from by omega, chain_0]; rfl)), rfl⟩ dX1_sizeOfBundle_30
    · skip
      have c_2 := mt (cq_le (show (250 : Int32).toInt = (250 : Int) from by decide) (nI_toInt (by omega))).mpr c_2
      refine lv_iinc (v := nI (n + 1)) (lv' := [(2, .int (nI (n + 1))), (0, .ref (ad 0)), (1, .int (nI ii)), (3, .int (mI e1))]) hx hb dX1_sizeOfBundle_16 hl (k := 2) rfl (nI_add n 1) (by decide) rfl (fun ls hl => ?_)
      refine lv_aload_n hx hb dX1_sizeOfBundle_19 rfl (lv_at hl 1 rfl) ?_
      refine va_get (D := D) (ci := 0) (v := .ref (ad 9)) (C := RX1) (T := TX1) (N := 15) hx hb hts hin hown hK hP 0 rfl rfl 10 (by decide) (hts (.fieldLink RX1 39 "HandCases" "behind" "[I") (by decide +kernel)) (fun _ h9 => h9) rfl dX1_sizeOfBundle_20 ?_
      refine lv_iload_n hx hb dX1_sizeOfBundle_23 rfl (lv_at hl 3 rfl) ?_
      have b_3 := b10 hI (e1 - 1)
      refine q_iald (v := mI (σ 10 (e1 - 1))) hx hb hK hP 9 0 rfl rfl (e1 - 1) (by rw [mI_toInt (by omega)]; omega) (by omega) rfl dX1_sizeOfBundle_24 ?_
      refine lv_istore_n (lv' := [(3, .int (mI (σ 10 (e1 - 1)))), (2, .int (nI (n + 1))), (0, .ref (ad 0)), (1, .int (nI ii))]) hx hb dX1_sizeOfBundle_25 rfl hl (by decide) rfl (fun ls hl => ?_)
      refine lv_goto (tgt := 4) hx hb dX1_sizeOfBundle_26 (by decide) ?_
      exact ih (n + 1, σ 10 (e1 - 1)) _ _ _ ⟨by (try dsimp only); omega, I_bh hI (by omega), by (try dsimp only); rw [chain_st (by omega) (by omega), List.length_cons] at h3; omega, hP, hD, hS, lv_sub hl [2, 3, 1, 0] rfl⟩ (by show 250 - (n + 1) < 250 - n; omega)

set_option maxHeartbeats 4000000 in
set_option maxRecDepth 100000 in
theorem c_X1_mayBundle (l : Launch) (cI cZ : ClassId) (D : va_G) (ad pl : Nat → Nat) (tb sz : Nat) (σ γ : Sg) (aa bb : Nat) (hI : Inv σ) (ha : aa < σ 11 0) (hb2 : bb < σ 11 0) : CtI l yX1_mayBundle wsX1_mayBundle ({ frames := 1, cells := 0, slots := 0, locals := 23 }) cI cZ D ad pl tb sz (WC cI cZ ad) (σ, γ) [.ref (ad 0), .int (nI aa), .int (nI bb)] (fun r u => r = pI (σ 7 aa ≠ 2 ∧ σ 7 bb ≠ 2 ∧ σ 9 bb = 0 ∧ σ 10 aa = 0 ∧ leadN σ 250 aa ≠ bb) ∧ u = (σ, γ)) := by
  refine Met.ofW (cc := cX1_mayBundle) (maxL := 3) (ret := (some .boolean)) (by decide) rfl ?_
  intro p e s m args below meth c s₁ B hml hv
  obtain ⟨rfl, hsz, hP, hK, hD0, hZ⟩ := hv
  have hx := B.exec
  have hb := B.bytes
  have hr := B.returns
  have hts := atoms_spec (ws := wsX1_mayBundle) B.pre
  have hown : s.vm.findClass RX1 = some m.cls := findClass_of_methodNamed B.named
  have hlocks := B.notSynchronized
  have hin : ∀ w ∈ wsX10, w ∈ wsX1_mayBundle := fun w h => List.mem_cons_of_mem _ (List.mem_append_right _ h)
  subst hsz
  have hD : va_D (AC ad s.heap.size) (WC cI cZ ad (σ, γ)) := AC_self WAd_c hD0
  have hA : ∀ q : Nat, s.heap.size ≤ q → AC ad s.heap.size q := fun q h => Or.inr h
  have hS : va_S (AC ad s.heap.size) s.heap s.heap [] := va_S.rf
  have hl := lv_entry ([.ref (ad 0), .int (nI aa), .int (nI bb)]) (n := 3) (Nat.le_of_ble_eq_true rfl)
  rw [lg_entry_eq]
  generalize (lg_sl ([.ref (ad 0), .int (nI aa), .int (nI bb)]) ++ List.replicate (3 - (lg_sl ([.ref (ad 0), .int (nI aa), .int (nI bb)])).length) Slot.unset).toArray = ls at hl ⊢
  have hl : lv_has ls 3 [(0, .ref (ad 0)), (1, .int (nI aa)), (2, .int (nI bb))] := hl
  have b_i := b11 hI
  refine lv_aload_n hx hb dX1_mayBundle_0 rfl (lv_at hl 0 rfl) ?_
  refine va_get (D := D) (ci := 0) (v := .ref (ad 6)) (C := RX1) (T := TX1) (N := 15) hx hb hts hin hown hK hP 0 rfl rfl 7 (by decide) (hts (.fieldLink RX1 30 "HandCases" "kindOf" "[I") (by decide +kernel)) (fun _ h9 => h9) rfl dX1_mayBundle_1 ?_
  refine lv_iload_n hx hb dX1_mayBundle_4 rfl (lv_at hl 1 rfl) ?_
  have b_1 := b7 hI aa
  refine q_iald (v := nI (σ 7 aa)) hx hb hK hP 6 0 rfl rfl aa (nI_toInt (by omega)) (by omega) rfl dX1_mayBundle_5 ?_
  refine lv_iconst (v := 2) hx hb dX1_mayBundle_6 (by decide) ?_
  refine lv_icmp_eq (tgt := 51) hx hb dX1_mayBundle_7 (by decide) (fun c_2 => ?_) (fun c_2 => ?_)
  · skip
    have c_2 := (cq_eq (nI_toInt (by omega)) (show (2 : Int32).toInt = (2 : Int) from by decide)).mp c_2
    refine lv_iconst (v := 0) hx hb dX1_mayBundle_51 (by decide) ?_
    exact ret_i (σ, γ) hx hb hr rfl hK hlocks hP hD hS ⟨pI_f (by omega), rfl⟩ dX1_mayBundle_52
  · skip
    have c_2 := mt (cq_eq (nI_toInt (by omega)) (show (2 : Int32).toInt = (2 : Int) from by decide)).mpr c_2
    refine lv_aload_n hx hb dX1_mayBundle_10 rfl (lv_at hl 0 rfl) ?_
    refine va_get (D := D) (ci := 0) (v := .ref (ad 6)) (C := RX1) (T := TX1) (N := 15) hx hb hts hin hown hK hP 0 rfl rfl 7 (by decide) (hts (.fieldLink RX1 30 "HandCases" "kindOf" "[I") (by decide +kernel)) (fun _ h9 => h9) rfl dX1_mayBundle_11 ?_
    refine lv_iload_n hx hb dX1_mayBundle_14 rfl (lv_at hl 2 rfl) ?_
    have b_3 := b7 hI bb
    refine q_iald (v := nI (σ 7 bb)) hx hb hK hP 6 0 rfl rfl bb (nI_toInt (by omega)) (by omega) rfl dX1_mayBundle_15 ?_
    refine lv_iconst (v := 2) hx hb dX1_mayBundle_16 (by decide) ?_
    refine lv_icmp_eq (tgt := 51) hx hb dX1_mayBundle_17 (by decide) (fun c_4 => ?_) (fun c_4 => ?_)
    · skip
      have c_4 := (cq_eq (nI_toInt (by omega)) (show (2 : Int32).toInt = (2 : Int) from by decide)).mp c_4
      refine lv_iconst (v := 0) hx hb dX1_mayBundle_51 (by decide) ?_
      exact ret_i (σ, γ) hx hb hr rfl hK hlocks hP hD hS ⟨pI_f (by omega), rfl⟩ dX1_mayBundle_52
    · skip
      have c_4 := mt (cq_eq (nI_toInt (by omega)) (show (2 : Int32).toInt = (2 : Int) from by decide)).mpr c_4
      refine lv_aload_n hx hb dX1_mayBundle_20 rfl (lv_at hl 0 rfl) ?_
      refine lv_iload_n hx hb dX1_mayBundle_21 rfl (lv_at hl 2 rfl) ?_
      refine call_i (As := [.int (nI bb)]) (rest := []) WAd_c ⟨hx, hb, hml, hown, hts⟩ (c_X1_leads l cI cZ D ad pl tb _ σ γ bb hI (by omega)) (cwV 1 hts gX1_mayBundle_X1_leads rfl rfl rfl (by decide +kernel) ⟨Nat.le_of_ble_eq_true rfl, Nat.le_of_ble_eq_true rfl⟩) (va_recv hK hP (ci := 0) (q0 := 0) rfl rfl) hK hP hD hS hA hZ rfl rfl (Nat.le_of_ble_eq_true rfl) hl.1 dX1_mayBundle_22 ⟨Nat.zero_le _, Nat.zero_le _⟩ (fun r u H locs hq hP hD hS => ?_)
      obtain ⟨rfl, rfl⟩ := hq
      refine lv_if_eq (tgt := 51) hx hb dX1_mayBundle_25 (by decide) (fun c_5 => ?_) (fun c_5 => ?_)
      · skip
        have c_5 : ¬ (σ 9 bb = 0) := pI_0.mp c_5
        refine lv_iconst (v := 0) hx hb dX1_mayBundle_51 (by decide) ?_
        exact ret_i (σ, γ) hx hb hr rfl hK hlocks hP hD hS ⟨pI_f (by omega), rfl⟩ dX1_mayBundle_52
      · skip
        have c_5 : σ 9 bb = 0 := Decidable.not_not.mp (mt pI_0.mpr c_5)
        refine lv_aload_n hx hb dX1_mayBundle_28 rfl (lv_at hl 0 rfl) ?_
        refine va_get (D := D) (ci := 0) (v := .ref (ad 9)) (C := RX1) (T := TX1) (N := 15) hx hb hts hin hown hK hP 0 rfl rfl 10 (by decide) (hts (.fieldLink RX1 39 "HandCases" "behind" "[I") (by decide +kernel)) (fun _ h9 => h9) rfl dX1_mayBundle_29 ?_
        refine lv_iload_n hx hb dX1_mayBundle_32 rfl (lv_at hl 1 rfl) ?_
        have b_6 := b10 hI aa
        refine q_iald (v := mI (σ 10 aa)) hx hb hK hP 9 0 rfl rfl aa (nI_toInt (by omega)) (by omega) rfl dX1_mayBundle_33 ?_
        refine lv_iconst (v := (-1)) hx hb dX1_mayBundle_34 (by decide) ?_
        refine lv_icmp_ne (tgt := 51) hx hb dX1_mayBundle_35 (by decide) (fun c_7 => ?_) (fun c_7 => ?_)
        · skip
          have c_7 := mt (cq_eq (mI_toInt (by omega)) (show (-1 : Int32).toInt = (-1 : Int) from by decide)).mpr c_7
          refine lv_iconst (v := 0) hx hb dX1_mayBundle_51 (by decide) ?_
          exact ret_i (σ, γ) hx hb hr rfl hK hlocks hP hD hS ⟨pI_f (by omega), rfl⟩ dX1_mayBundle_52
        · skip
          have c_7 := (cq_eq (mI_toInt (by omega)) (show (-1 : Int32).toInt = (-1 : Int) from by decide)).mp c_7
          refine lv_aload_n hx hb dX1_mayBundle_38 rfl (lv_at hl 0 rfl) ?_
          refine lv_iload_n hx hb dX1_mayBundle_39 rfl (lv_at hl 1 rfl) ?_
          refine call_i (As := [.int (nI aa)]) (rest := []) WAd_c ⟨hx, hb, hml, hown, hts⟩ (c_X1_leadOf l cI cZ D ad pl tb _ σ γ aa hI (by omega)) (cwV 1 hts gX1_mayBundle_X1_leadOf rfl rfl rfl (by decide +kernel) ⟨Nat.le_of_ble_eq_true rfl, Nat.le_of_ble_eq_true rfl⟩) (va_recv hK hP (ci := 0) (q0 := 0) rfl rfl) hK hP hD hS hA hZ rfl rfl (Nat.le_of_ble_eq_true rfl) hl.1 dX1_mayBundle_40 ⟨Nat.zero_le _, Nat.zero_le _⟩ (fun r u H locs hq hP hD hS => ?_)
          obtain ⟨rfl, rfl⟩ := hq
          have b_8 := (I_lead hI (i := aa) (by omega)).1
          have b_9 := b11 hI
          refine lv_iload_n hx hb dX1_mayBundle_43 rfl (lv_at hl 2 rfl) ?_
          refine lv_icmp_eq (tgt := 51) hx hb dX1_mayBundle_44 (by decide) (fun c_10 => ?_) (fun c_10 => ?_)
          · skip
            have c_10 := (cq_eq (nI_toInt (by omega)) (nI_toInt (by omega))).mp c_10
            refine lv_iconst (v := 0) hx hb dX1_mayBundle_51 (by decide) ?_
            exact ret_i (σ, γ) hx hb hr rfl hK hlocks hP hD hS ⟨pI_f (by omega), rfl⟩ dX1_mayBundle_52
          · skip
            have c_10 := mt (cq_eq (nI_toInt (by omega)) (nI_toInt (by omega))).mpr c_10
            refine lv_iconst (v := 1) hx hb dX1_mayBundle_47 (by decide) ?_
            refine lv_goto (tgt := 52) hx hb dX1_mayBundle_48 (by decide) ?_
            exact ret_i (σ, γ) hx hb hr rfl hK hlocks hP hD hS ⟨pI_t (by omega), rfl⟩ dX1_mayBundle_52

set_option maxHeartbeats 4000000 in
set_option maxRecDepth 100000 in
theorem c_X1_holeOfLead (l : Launch) (cI cZ : ClassId) (D : va_G) (ad pl : Nat → Nat) (tb sz : Nat) (σ γ : Sg) (ii : Nat) (hI : Inv σ) (hi : ii < 250) : CtI l yX1_holeOfLead wsX1_holeOfLead ({ frames := 0, cells := 0, slots := 0, locals := 0 }) cI cZ D ad pl tb sz (WC cI cZ ad) (σ, γ) [.ref (ad 0), .int (nI ii)] (fun r u => r = mI (hol σ ii) ∧ u = (σ, γ)) := by
  refine Met.ofW (cc := cX1_holeOfLead) (maxL := 2) (ret := (some .int)) (by decide) rfl ?_
  intro p e s m args below meth c s₁ B hml hv
  obtain ⟨rfl, hsz, hP, hK, hD0, hZ⟩ := hv
  have hx := B.exec
  have hb := B.bytes
  have hr := B.returns
  have hts := atoms_spec (ws := wsX1_holeOfLead) B.pre
  have hown : s.vm.findClass RX1 = some m.cls := findClass_of_methodNamed B.named
  have hlocks := B.notSynchronized
  have hin : ∀ w ∈ wsX10, w ∈ wsX1_holeOfLead := fun w h => List.mem_cons_of_mem _ (List.mem_append_right _ h)
  subst hsz
  have hD : va_D (AC ad s.heap.size) (WC cI cZ ad (σ, γ)) := AC_self WAd_c hD0
  have hA : ∀ q : Nat, s.heap.size ≤ q → AC ad s.heap.size q := fun q h => Or.inr h
  have hS : va_S (AC ad s.heap.size) s.heap s.heap [] := va_S.rf
  have hl := lv_entry ([.ref (ad 0), .int (nI ii)]) (n := 2) (Nat.le_of_ble_eq_true rfl)
  rw [lg_entry_eq]
  generalize (lg_sl ([.ref (ad 0), .int (nI ii)]) ++ List.replicate (2 - (lg_sl ([.ref (ad 0), .int (nI ii)])).length) Slot.unset).toArray = ls at hl ⊢
  have hl : lv_has ls 2 [(0, .ref (ad 0)), (1, .int (nI ii))] := hl
  refine lv_aload_n hx hb dX1_holeOfLead_0 rfl (lv_at hl 0 rfl) ?_
  refine va_get (D := D) (ci := 0) (v := .ref (ad 6)) (C := RX1) (T := TX1) (N := 15) hx hb hts hin hown hK hP 0 rfl rfl 7 (by decide) (hts (.fieldLink RX1 30 "HandCases" "kindOf" "[I") (by decide +kernel)) (fun _ h9 => h9) rfl dX1_holeOfLead_1 ?_
  refine lv_iload_n hx hb dX1_holeOfLead_4 rfl (lv_at hl 1 rfl) ?_
  have b_1 := b7 hI ii
  refine q_iald (v := nI (σ 7 ii)) hx hb hK hP 6 0 rfl rfl ii (nI_toInt (by omega)) (by omega) rfl dX1_holeOfLead_5 ?_
  refine lv_iconst (v := 2) hx hb dX1_holeOfLead_6 (by decide) ?_
  refine lv_icmp_ne (tgt := 12) hx hb dX1_holeOfLead_7 (by decide) (fun c_2 => ?_) (fun c_2 => ?_)
  · skip
    have c_2 := mt (cq_eq (nI_toInt (by omega)) (show (2 : Int32).toInt = (2 : Int) from by decide)).mpr c_2
    refine lv_aload_n hx hb dX1_holeOfLead_12 rfl (lv_at hl 0 rfl) ?_
    refine va_get (D := D) (ci := 0) (v := .ref (ad 7)) (C := RX1) (T := TX1) (N := 15) hx hb hts hin hown hK hP 0 rfl rfl 8 (by decide) (hts (.fieldLink RX1 33 "HandCases" "toldHole" "[I") (by decide +kernel)) (fun _ h9 => h9) rfl dX1_holeOfLead_13 ?_
    refine lv_iload_n hx hb dX1_holeOfLead_16 rfl (lv_at hl 1 rfl) ?_
    have b_3 := b8 hI ii
    refine q_iald (v := mI (σ 8 ii)) hx hb hK hP 7 0 rfl rfl ii (nI_toInt (by omega)) (by omega) rfl dX1_holeOfLead_17 ?_
    refine lv_iconst (v := (-1)) hx hb dX1_holeOfLead_18 (by decide) ?_
    refine lv_icmp_eq (tgt := 31) hx hb dX1_holeOfLead_19 (by decide) (fun c_4 => ?_) (fun c_4 => ?_)
    · skip
      have c_4 := (cq_eq (mI_toInt (by omega)) (show (-1 : Int32).toInt = (-1 : Int) from by decide)).mp c_4
      refine lv_aload_n hx hb dX1_holeOfLead_31 rfl (lv_at hl 0 rfl) ?_
      refine va_get (D := D) (ci := 0) (v := .ref (ad 2)) (C := RX1) (T := TX1) (N := 15) hx hb hts hin hown hK hP 0 rfl rfl 2 (by decide) (hts (.fieldLink RX1 13 "HandCases" "holeOf" "[I") (by decide +kernel)) (fun _ h9 => h9) rfl dX1_holeOfLead_32 ?_
      refine lv_aload_n hx hb dX1_holeOfLead_35 rfl (lv_at hl 0 rfl) ?_
      refine va_get (D := D) (ci := 0) (v := .ref (ad 5)) (C := RX1) (T := TX1) (N := 15) hx hb hts hin hown hK hP 0 rfl rfl 6 (by decide) (hts (.fieldLink RX1 27 "HandCases" "numberOf" "[I") (by decide +kernel)) (fun _ h9 => h9) rfl dX1_holeOfLead_36 ?_
      refine lv_iload_n hx hb dX1_holeOfLead_39 rfl (lv_at hl 1 rfl) ?_
      have b_5 := b6 hI ii
      refine q_iald (v := nI (σ 6 ii)) hx hb hK hP 5 0 rfl rfl ii (nI_toInt (by omega)) (by omega) rfl dX1_holeOfLead_40 ?_
      have b_6 := b2 hI (σ 6 ii)
      refine q_iald (v := mI (σ 2 (σ 6 ii))) hx hb hK hP 2 0 rfl rfl (σ 6 ii) (nI_toInt (by omega)) (by omega) rfl dX1_holeOfLead_41 ?_
      exact ret_i (σ, γ) hx hb hr rfl hK hlocks hP hD hS ⟨congrArg mI (by unfold hol; rw [if_neg (by omega), if_pos (by omega)]), rfl⟩ dX1_holeOfLead_42
    · skip
      have c_4 := mt (cq_eq (mI_toInt (by omega)) (show (-1 : Int32).toInt = (-1 : Int) from by decide)).mpr c_4
      refine lv_aload_n hx hb dX1_holeOfLead_22 rfl (lv_at hl 0 rfl) ?_
      refine va_get (D := D) (ci := 0) (v := .ref (ad 7)) (C := RX1) (T := TX1) (N := 15) hx hb hts hin hown hK hP 0 rfl rfl 8 (by decide) (hts (.fieldLink RX1 33 "HandCases" "toldHole" "[I") (by decide +kernel)) (fun _ h9 => h9) rfl dX1_holeOfLead_23 ?_
      refine lv_iload_n hx hb dX1_holeOfLead_26 rfl (lv_at hl 1 rfl) ?_
      have b_7 := b8 hI ii
      refine q_iald (v := mI (σ 8 ii)) hx hb hK hP 7 0 rfl rfl ii (nI_toInt (by omega)) (by omega) rfl dX1_holeOfLead_27 ?_
      refine lv_goto (tgt := 42) hx hb dX1_holeOfLead_28 (by decide) ?_
      exact ret_i (σ, γ) hx hb hr rfl hK hlocks hP hD hS ⟨congrArg mI (by unfold hol; rw [if_neg (by omega), if_neg (by omega)]), rfl⟩ dX1_holeOfLead_42
  · skip
    have c_2 := (cq_eq (nI_toInt (by omega)) (show (2 : Int32).toInt = (2 : Int) from by decide)).mp c_2
    refine lv_iconst (v := (-1)) hx hb dX1_holeOfLead_10 (by decide) ?_
    exact ret_i (σ, γ) hx hb hr rfl hK hlocks hP hD hS ⟨by rw [show hol σ ii = 0 from if_pos (by omega)]; exact mI_0.symm, rfl⟩ dX1_holeOfLead_11

set_option maxHeartbeats 4000000 in
set_option maxRecDepth 100000 in
theorem c_X1_isWrong (l : Launch) (cI cZ : ClassId) (D : va_G) (ad pl : Nat → Nat) (tb sz : Nat) (σ γ : Sg) (ii : Nat) (hI : Inv σ) (hi : ii < 250) : CtI l yX1_isWrong wsX1_isWrong ({ frames := 1, cells := 0, slots := 0, locals := 21 }) cI cZ D ad pl tb sz (WC cI cZ ad) (σ, γ) [.ref (ad 0), .int (nI ii)] (fun r u => r = pI (wr σ ii) ∧ u = (σ, γ)) := by
  refine Met.ofW (cc := cX1_isWrong) (maxL := 3) (ret := (some .boolean)) (by decide) rfl ?_
  intro p e s m args below meth c s₁ B hml hv
  obtain ⟨rfl, hsz, hP, hK, hD0, hZ⟩ := hv
  have hx := B.exec
  have hb := B.bytes
  have hr := B.returns
  have hts := atoms_spec (ws := wsX1_isWrong) B.pre
  have hown : s.vm.findClass RX1 = some m.cls := findClass_of_methodNamed B.named
  have hlocks := B.notSynchronized
  have hin : ∀ w ∈ wsX10, w ∈ wsX1_isWrong := fun w h => List.mem_cons_of_mem _ (List.mem_append_right _ h)
  subst hsz
  have hD : va_D (AC ad s.heap.size) (WC cI cZ ad (σ, γ)) := AC_self WAd_c hD0
  have hA : ∀ q : Nat, s.heap.size ≤ q → AC ad s.heap.size q := fun q h => Or.inr h
  have hS : va_S (AC ad s.heap.size) s.heap s.heap [] := va_S.rf
  have hl := lv_entry ([.ref (ad 0), .int (nI ii)]) (n := 3) (Nat.le_of_ble_eq_true rfl)
  rw [lg_entry_eq]
  generalize (lg_sl ([.ref (ad 0), .int (nI ii)]) ++ List.replicate (3 - (lg_sl ([.ref (ad 0), .int (nI ii)])).length) Slot.unset).toArray = ls at hl ⊢
  have hl : lv_has ls 3 [(0, .ref (ad 0)), (1, .int (nI ii))] := hl
  refine lv_aload_n hx hb dX1_isWrong_0 rfl (lv_at hl 0 rfl) ?_
  refine lv_iload_n hx hb dX1_isWrong_1 rfl (lv_at hl 1 rfl) ?_
  refine call_i (As := [.int (nI ii)]) (rest := []) WAd_c ⟨hx, hb, hml, hown, hts⟩ (c_X1_holeOfLead l cI cZ D ad pl tb _ σ γ ii hI (by omega)) (cwV 1 hts gX1_isWrong_X1_holeOfLead rfl rfl rfl (by decide +kernel) ⟨Nat.le_of_ble_eq_true rfl, Nat.le_of_ble_eq_true rfl⟩) (va_recv hK hP (ci := 0) (q0 := 0) rfl rfl) hK hP hD hS hA hZ rfl rfl (Nat.le_of_ble_eq_true rfl) hl.1 dX1_isWrong_2 ⟨Nat.zero_le _, Nat.zero_le _⟩ (fun r u H locs hq hP hD hS => ?_)
  obtain ⟨rfl, rfl⟩ := hq
  have b_1 := hol_le hI ii
  refine lv_istore_n (lv' := [(2, .int (mI (hol σ ii))), (0, .ref (ad 0)), (1, .int (nI ii))]) hx hb dX1_isWrong_5 rfl hl (by decide) rfl (fun ls hl => ?_)
  refine lv_iload_n hx hb dX1_isWrong_6 rfl (lv_at hl 0 rfl) ?_
  refine lv_iconst (v := (-1)) hx hb dX1_isWrong_7 (by decide) ?_
  refine lv_icmp_eq (tgt := 30) hx hb dX1_isWrong_8 (by decide) (fun c_2 => ?_) (fun c_2 => ?_)
  · skip
    have c_2 := (cq_eq (mI_toInt (by omega)) (show (-1 : Int32).toInt = (-1 : Int) from by decide)).mp c_2
    refine lv_iconst (v := 0) hx hb dX1_isWrong_30 (by decide) ?_
    exact ret_i (σ, γ) hx hb hr rfl hK hlocks hP hD hS ⟨pI_f (show ¬ (hol σ ii ≠ 0 ∧ hol σ ii ≠ σ 2 (σ 6 ii)) from by omega), rfl⟩ dX1_isWrong_31
  · skip
    have c_2 := mt (cq_eq (mI_toInt (by omega)) (show (-1 : Int32).toInt = (-1 : Int) from by decide)).mpr c_2
    refine lv_iload_n hx hb dX1_isWrong_11 rfl (lv_at hl 0 rfl) ?_
    refine lv_aload_n hx hb dX1_isWrong_12 rfl (lv_at hl 1 rfl) ?_
    refine va_get (D := D) (ci := 0) (v := .ref (ad 2)) (C := RX1) (T := TX1) (N := 15) hx hb hts hin hown hK hP 0 rfl rfl 2 (by decide) (hts (.fieldLink RX1 13 "HandCases" "holeOf" "[I") (by decide +kernel)) (fun _ h9 => h9) rfl dX1_isWrong_13 ?_
    refine lv_aload_n hx hb dX1_isWrong_16 rfl (lv_at hl 1 rfl) ?_
    refine va_get (D := D) (ci := 0) (v := .ref (ad 5)) (C := RX1) (T := TX1) (N := 15) hx hb hts hin hown hK hP 0 rfl rfl 6 (by decide) (hts (.fieldLink RX1 27 "HandCases" "numberOf" "[I") (by decide +kernel)) (fun _ h9 => h9) rfl dX1_isWrong_17 ?_
    refine lv_iload_n hx hb dX1_isWrong_20 rfl (lv_at hl 2 rfl) ?_
    have b_3 := b6 hI ii
    refine q_iald (v := nI (σ 6 ii)) hx hb hK hP 5 0 rfl rfl ii (nI_toInt (by omega)) (by omega) rfl dX1_isWrong_21 ?_
    have b_4 := b2 hI (σ 6 ii)
    refine q_iald (v := mI (σ 2 (σ 6 ii))) hx hb hK hP 2 0 rfl rfl (σ 6 ii) (nI_toInt (by omega)) (by omega) rfl dX1_isWrong_22 ?_
    refine lv_icmp_eq (tgt := 30) hx hb dX1_isWrong_23 (by decide) (fun c_5 => ?_) (fun c_5 => ?_)
    · skip
      have c_5 := (cq_eq (mI_toInt (by omega)) (mI_toInt (by omega))).mp c_5
      refine lv_iconst (v := 0) hx hb dX1_isWrong_30 (by decide) ?_
      exact ret_i (σ, γ) hx hb hr rfl hK hlocks hP hD hS ⟨pI_f (show ¬ (hol σ ii ≠ 0 ∧ hol σ ii ≠ σ 2 (σ 6 ii)) from by omega), rfl⟩ dX1_isWrong_31
    · skip
      have c_5 := mt (cq_eq (mI_toInt (by omega)) (mI_toInt (by omega))).mpr c_5
      refine lv_iconst (v := 1) hx hb dX1_isWrong_26 (by decide) ?_
      refine lv_goto (tgt := 31) hx hb dX1_isWrong_27 (by decide) ?_
      exact ret_i (σ, γ) hx hb hr rfl hK hlocks hP hD hS ⟨pI_t (show (hol σ ii ≠ 0 ∧ hol σ ii ≠ σ 2 (σ 6 ii)) from by omega), rfl⟩ dX1_isWrong_31

set_option maxHeartbeats 4000000 in
set_option maxRecDepth 100000 in
theorem c_X1_wrongOnes (l : Launch) (cI cZ : ClassId) (D : va_G) (ad pl : Nat → Nat) (tb sz : Nat) (σ γ : Sg)  (hI : Inv σ) : CtI l yX1_wrongOnes wsX1_wrongOnes ({ frames := 2, cells := 0, slots := 0, locals := 43 }) cI cZ D ad pl tb sz (WC cI cZ ad) (σ, γ) [.ref (ad 0)] (fun r u => r = nI (sumN (wrF σ) (σ 11 0)) ∧ u = (σ, γ)) := by
  refine Met.ofW (cc := cX1_wrongOnes) (maxL := 3) (ret := (some .int)) (by decide) rfl ?_
  intro p e s m args below meth c s₁ B hml hv
  obtain ⟨rfl, hsz, hP, hK, hD0, hZ⟩ := hv
  have hx := B.exec
  have hb := B.bytes
  have hr := B.returns
  have hts := atoms_spec (ws := wsX1_wrongOnes) B.pre
  have hown : s.vm.findClass RX1 = some m.cls := findClass_of_methodNamed B.named
  have hlocks := B.notSynchronized
  have hin : ∀ w ∈ wsX10, w ∈ wsX1_wrongOnes := fun w h => List.mem_cons_of_mem _ (List.mem_append_right _ h)
  subst hsz
  have hD : va_D (AC ad s.heap.size) (WC cI cZ ad (σ, γ)) := AC_self WAd_c hD0
  have hA : ∀ q : Nat, s.heap.size ≤ q → AC ad s.heap.size q := fun q h => Or.inr h
  have hS : va_S (AC ad s.heap.size) s.heap s.heap [] := va_S.rf
  have hl := lv_entry ([.ref (ad 0)]) (n := 3) (Nat.le_of_ble_eq_true rfl)
  rw [lg_entry_eq]
  generalize (lg_sl ([.ref (ad 0)]) ++ List.replicate (3 - (lg_sl ([.ref (ad 0)])).length) Slot.unset).toArray = ls at hl ⊢
  have hl : lv_has ls 3 [(0, .ref (ad 0))] := hl
  refine lv_iconst (v := 0) hx hb dX1_wrongOnes_0 (by decide) ?_
  refine lv_istore_n (lv' := [(1, .int 0), (0, .ref (ad 0))]) hx hb dX1_wrongOnes_1 rfl hl (by decide) rfl (fun ls hl => ?_)
  refine lv_iconst (v := 0) hx hb dX1_wrongOnes_2 (by decide) ?_
  refine lv_istore_n (lv' := [(2, .int 0), (1, .int 0), (0, .ref (ad 0))]) hx hb dX1_wrongOnes_3 rfl hl (by decide) rfl (fun ls hl => ?_)
  refine W_loop (ι := Nat) 4 (fun (i : Nat) H locs ls => (i ≤ σ 11 0) ∧ va_P D vwCl (WC cI cZ ad (σ, γ)) H ∧ va_D (AC ad s.heap.size) (WC cI cZ ad (σ, γ)) ∧ va_S (AC ad s.heap.size) s.heap H locs ∧ lv_has ls 3 [(0, .ref (ad 0)), (1, .int (nI (sumN (wrF σ) i))), (2, .int (nI i))]) (fun (i : Nat) => σ 11 0 - i) ?_ 0 _ _ _ ⟨by omega, hP, hD, hS, lv_as (lv_sub hl [2, 1, 0] rfl) (lv_c rfl (lv_c (congrArg Value.int (by rfl)) (lv_c (congrArg Value.int (by rfl)) rfl)))⟩
  intro i H locs ls ⟨h1, hP, hD, hS, hl⟩ ih
  have b_i := b11 hI
  refine lv_iload_n hx hb dX1_wrongOnes_4 rfl (lv_at hl 2 rfl) ?_
  refine lv_aload_n hx hb dX1_wrongOnes_5 rfl (lv_at hl 0 rfl) ?_
  refine va_get (D := D) (ci := 0) (v := .int (nI (σ 11 0))) (C := RX1) (T := TX1) (N := 15) hx hb hts hin hown hK hP 0 rfl rfl 11 (by decide) (hts (.fieldLink RX1 42 "HandCases" "items" "I") (by decide +kernel)) (fun _ h9 => h9) rfl dX1_wrongOnes_6 ?_
  have b_1 := b11 hI
  refine lv_icmp_ge (tgt := 37) hx hb dX1_wrongOnes_9 (by decide) (fun c_2 => ?_) (fun c_2 => ?_)
  · skip
    have c_2 := (cq_le (nI_toInt (by omega)) (nI_toInt (by omega))).mp c_2
    refine lv_iload_n hx hb dX1_wrongOnes_37 rfl (lv_at hl 1 rfl) ?_
    exact ret_i (σ, γ) hx hb hr rfl hK hlocks hP hD hS ⟨congrArg nI (congrArg (sumN (wrF σ)) (by omega)), rfl⟩ dX1_wrongOnes_38
  · skip
    have c_2 := mt (cq_le (nI_toInt (by omega)) (nI_toInt (by omega))).mpr c_2
    refine lv_aload_n hx hb dX1_wrongOnes_12 rfl (lv_at hl 0 rfl) ?_
    refine lv_iload_n hx hb dX1_wrongOnes_13 rfl (lv_at hl 2 rfl) ?_
    refine call_i (As := [.int (nI i)]) (rest := []) WAd_c ⟨hx, hb, hml, hown, hts⟩ (c_X1_leads l cI cZ D ad pl tb _ σ γ i hI (by omega)) (cwV 1 hts gX1_wrongOnes_X1_leads rfl rfl rfl (by decide +kernel) ⟨Nat.le_of_ble_eq_true rfl, Nat.le_of_ble_eq_true rfl⟩) (va_recv hK hP (ci := 0) (q0 := 0) rfl rfl) hK hP hD hS hA hZ rfl rfl (Nat.le_of_ble_eq_true rfl) hl.1 dX1_wrongOnes_14 ⟨Nat.zero_le _, Nat.zero_le _⟩ (fun r u H locs hq hP hD hS => ?_)
    obtain ⟨rfl, rfl⟩ := hq
    refine lv_if_eq (tgt := 31) hx hb dX1_wrongOnes_17 (by decide) (fun c_3 => ?_) (fun c_3 => ?_)
    · skip
      have c_3 : ¬ (σ 9 i = 0) := pI_0.mp c_3
      refine lv_iinc (v := nI (i + 1)) (lv' := [(2, .int (nI (i + 1))), (0, .ref (ad 0)), (1, .int (nI (sumN (wrF σ) i)))]) hx hb dX1_wrongOnes_31 hl (k := 2) rfl (nI_add i 1) (by decide) rfl (fun ls hl => ?_)
      refine lv_goto (tgt := 4) hx hb dX1_wrongOnes_34 (by decide) ?_
      exact ih (i + 1) _ _ _ ⟨by omega, hP, hD, hS, lv_as (lv_sub hl [1, 2, 0] rfl) (lv_c rfl (lv_c (congrArg Value.int (congrArg nI (by have e9 : wrF σ i = 0 := if_neg (by omega); show _ = sumN (wrF σ) i + wrF σ i; omega))) (lv_c rfl rfl)))⟩ (by omega)
    · skip
      have c_3 : σ 9 i = 0 := Decidable.not_not.mp (mt pI_0.mpr c_3)
      refine lv_aload_n hx hb dX1_wrongOnes_20 rfl (lv_at hl 0 rfl) ?_
      refine lv_iload_n hx hb dX1_wrongOnes_21 rfl (lv_at hl 2 rfl) ?_
      refine call_i (As := [.int (nI i)]) (rest := []) WAd_c ⟨hx, hb, hml, hown, hts⟩ (c_X1_isWrong l cI cZ D ad pl tb _ σ γ i hI (by omega)) (cwV 1 hts gX1_wrongOnes_X1_isWrong rfl rfl rfl (by decide +kernel) ⟨Nat.le_of_ble_eq_true rfl, Nat.le_of_ble_eq_true rfl⟩) (va_recv hK hP (ci := 0) (q0 := 0) rfl rfl) hK hP hD hS hA hZ rfl rfl (Nat.le_of_ble_eq_true rfl) hl.1 dX1_wrongOnes_22 ⟨Nat.zero_le _, Nat.zero_le _⟩ (fun r u H locs hq hP hD hS => ?_)
      obtain ⟨rfl, rfl⟩ := hq
      refine lv_if_eq (tgt := 31) hx hb dX1_wrongOnes_25 (by decide) (fun c_4 => ?_) (fun c_4 => ?_)
      · skip
        have c_4 : ¬ (hol σ i ≠ 0 ∧ hol σ i ≠ σ 2 (σ 6 i)) := pI_0.mp c_4
        refine lv_iinc (v := nI (i + 1)) (lv' := [(2, .int (nI (i + 1))), (0, .ref (ad 0)), (1, .int (nI (sumN (wrF σ) i)))]) hx hb dX1_wrongOnes_31 hl (k := 2) rfl (nI_add i 1) (by decide) rfl (fun ls hl => ?_)
        refine lv_goto (tgt := 4) hx hb dX1_wrongOnes_34 (by decide) ?_
        exact ih (i + 1) _ _ _ ⟨by omega, hP, hD, hS, lv_as (lv_sub hl [1, 2, 0] rfl) (lv_c rfl (lv_c (congrArg Value.int (congrArg nI (by have e9 : wrF σ i = 0 := if_neg (by omega); show _ = sumN (wrF σ) i + wrF σ i; omega))) (lv_c rfl rfl)))⟩ (by omega)
      · skip
        have c_4 : hol σ i ≠ 0 ∧ hol σ i ≠ σ 2 (σ 6 i) := Decidable.not_not.mp (mt pI_0.mpr c_4)
        refine lv_iinc (v := nI ((sumN (wrF σ) i) + 1)) (lv' := [(1, .int (nI ((sumN (wrF σ) i) + 1))), (0, .ref (ad 0)), (2, .int (nI i))]) hx hb dX1_wrongOnes_28 hl (k := 1) rfl (nI_add (sumN (wrF σ) i) 1) (by decide) rfl (fun ls hl => ?_)
        refine lv_iinc (v := nI (i + 1)) (lv' := [(2, .int (nI (i + 1))), (1, .int (nI ((sumN (wrF σ) i) + 1))), (0, .ref (ad 0))]) hx hb dX1_wrongOnes_31 hl (k := 2) rfl (nI_add i 1) (by decide) rfl (fun ls hl => ?_)
        refine lv_goto (tgt := 4) hx hb dX1_wrongOnes_34 (by decide) ?_
        exact ih (i + 1) _ _ _ ⟨by omega, hP, hD, hS, lv_as (lv_sub hl [2, 1, 0] rfl) (lv_c rfl (lv_c (congrArg Value.int (congrArg nI (by have e9 : wrF σ i = 1 := if_pos (by omega); show _ = sumN (wrF σ) i + wrF σ i; omega))) (lv_c rfl rfl)))⟩ (by omega)

set_option maxHeartbeats 4000000 in
set_option maxRecDepth 100000 in
theorem c_X1_placeOf (l : Launch) (cI cZ : ClassId) (D : va_G) (ad pl : Nat → Nat) (tb sz : Nat) (σ γ : Sg) (ii : Nat) (hI : Inv σ) (hi : ii < 250) : CtE l yX1_placeOf wsX1_placeOf ({ frames := 2, cells := 0, slots := 0, locals := 43 }) cI cZ D ad pl tb sz (WC cI cZ ad) (σ, γ) [.ref (ad 0), .int (nI ii)] (fun r u => r = some (plc σ ii) ∧ u = (σ, γ)) := by
  refine Met.ofW (cc := cX1_placeOf) (maxL := 4) (ret := (some (.object "HandCases$Place"))) (by decide) rfl ?_
  intro p e s m args below meth c s₁ B hml hv
  obtain ⟨rfl, hsz, hP, hK, hD0, hZ⟩ := hv
  have hx := B.exec
  have hb := B.bytes
  have hr := B.returns
  have hts := atoms_spec (ws := wsX1_placeOf) B.pre
  have hown : s.vm.findClass RX1 = some m.cls := findClass_of_methodNamed B.named
  have hlocks := B.notSynchronized
  have hin : ∀ w ∈ wsX10, w ∈ wsX1_placeOf := fun w h => List.mem_cons_of_mem _ (List.mem_append_right _ h)
  subst hsz
  have hD : va_D (AC ad s.heap.size) (WC cI cZ ad (σ, γ)) := AC_self WAd_c hD0
  have hA : ∀ q : Nat, s.heap.size ≤ q → AC ad s.heap.size q := fun q h => Or.inr h
  have hS : va_S (AC ad s.heap.size) s.heap s.heap [] := va_S.rf
  have hl := lv_entry ([.ref (ad 0), .int (nI ii)]) (n := 4) (Nat.le_of_ble_eq_true rfl)
  rw [lg_entry_eq]
  generalize (lg_sl ([.ref (ad 0), .int (nI ii)]) ++ List.replicate (4 - (lg_sl ([.ref (ad 0), .int (nI ii)])).length) Slot.unset).toArray = ls at hl ⊢
  have hl : lv_has ls 4 [(0, .ref (ad 0)), (1, .int (nI ii))] := hl
  have b_5 := b5 hI
  refine lv_aload_n hx hb dX1_placeOf_0 rfl (lv_at hl 0 rfl) ?_
  refine va_get (D := D) (ci := 0) (v := .ref (ad 5)) (C := RX1) (T := TX1) (N := 15) hx hb hts hin hown hK hP 0 rfl rfl 6 (by decide) (hts (.fieldLink RX1 27 "HandCases" "numberOf" "[I") (by decide +kernel)) (fun _ h9 => h9) rfl dX1_placeOf_1 ?_
  refine lv_iload_n hx hb dX1_placeOf_4 rfl (lv_at hl 1 rfl) ?_
  have b_1 := b6 hI ii
  refine q_iald (v := nI (σ 6 ii)) hx hb hK hP 5 0 rfl rfl ii (nI_toInt (by omega)) (by omega) rfl dX1_placeOf_5 ?_
  refine lv_istore_n (lv' := [(2, .int (nI (σ 6 ii))), (0, .ref (ad 0)), (1, .int (nI ii))]) hx hb dX1_placeOf_6 rfl hl (by decide) rfl (fun ls hl => ?_)
  refine lv_aload_n hx hb dX1_placeOf_7 rfl (lv_at hl 1 rfl) ?_
  refine va_get (D := D) (ci := 0) (v := .ref (ad 6)) (C := RX1) (T := TX1) (N := 15) hx hb hts hin hown hK hP 0 rfl rfl 7 (by decide) (hts (.fieldLink RX1 30 "HandCases" "kindOf" "[I") (by decide +kernel)) (fun _ h9 => h9) rfl dX1_placeOf_8 ?_
  refine lv_iload_n hx hb dX1_placeOf_11 rfl (lv_at hl 2 rfl) ?_
  have b_2 := b7 hI ii
  refine q_iald (v := nI (σ 7 ii)) hx hb hK hP 6 0 rfl rfl ii (nI_toInt (by omega)) (by omega) rfl dX1_placeOf_12 ?_
  refine lv_iconst (v := 2) hx hb dX1_placeOf_13 (by decide) ?_
  refine lv_icmp_ne (tgt := 48) hx hb dX1_placeOf_14 (by decide) (fun c_3 => ?_) (fun c_3 => ?_)
  · skip
    have c_3 := mt (cq_eq (nI_toInt (by omega)) (show (2 : Int32).toInt = (2 : Int) from by decide)).mpr c_3
    refine lv_aload_n hx hb dX1_placeOf_48 rfl (lv_at hl 1 rfl) ?_
    refine lv_iload_n hx hb dX1_placeOf_49 rfl (lv_at hl 2 rfl) ?_
    refine call_i (As := [.int (nI ii)]) (rest := []) WAd_c ⟨hx, hb, hml, hown, hts⟩ (c_X1_holeOfLead l cI cZ D ad pl tb _ σ γ ii hI (by omega)) (cwV 1 hts gX1_placeOf_X1_holeOfLead rfl rfl rfl (by decide +kernel) ⟨Nat.le_of_ble_eq_true rfl, Nat.le_of_ble_eq_true rfl⟩) (va_recv hK hP (ci := 0) (q0 := 0) rfl rfl) hK hP hD hS hA hZ rfl rfl (Nat.le_of_ble_eq_true rfl) hl.1 dX1_placeOf_50 ⟨Nat.zero_le _, Nat.zero_le _⟩ (fun r u H locs hq hP hD hS => ?_)
    obtain ⟨rfl, rfl⟩ := hq
    have b_4 := hol_le hI ii
    refine lv_istore_n (lv' := [(3, .int (mI (hol σ ii))), (2, .int (nI (σ 6 ii))), (0, .ref (ad 0)), (1, .int (nI ii))]) hx hb dX1_placeOf_53 rfl hl (by decide) rfl (fun ls hl => ?_)
    refine lv_iload_n hx hb dX1_placeOf_54 rfl (lv_at hl 0 rfl) ?_
    refine lv_iconst (v := (-1)) hx hb dX1_placeOf_55 (by decide) ?_
    refine lv_icmp_ne (tgt := 63) hx hb dX1_placeOf_56 (by decide) (fun c_5 => ?_) (fun c_5 => ?_)
    · skip
      have c_5 := mt (cq_eq (mI_toInt (by omega)) (show (-1 : Int32).toInt = (-1 : Int) from by decide)).mpr c_5
      have hl : lv_has ls 4 [(3, .int (nI (hol σ ii - 1))), (2, .int (nI (σ 6 ii))), (0, .ref (ad 0)), (1, .int (nI ii))] := lv_as hl (lv_c (congrArg Value.int (mI_pos (by omega))) (lv_c rfl (lv_c rfl (lv_c rfl rfl))))
      refine lv_aload_n hx hb dX1_placeOf_63 rfl (lv_at hl 2 rfl) ?_
      refine lv_iload_n hx hb dX1_placeOf_64 rfl (lv_at hl 3 rfl) ?_
      refine call_i (As := [.int (nI ii)]) (rest := []) WAd_c ⟨hx, hb, hml, hown, hts⟩ (c_X1_isWrong l cI cZ D ad pl tb _ σ γ ii hI (by omega)) (cwV 1 hts gX1_placeOf_X1_isWrong rfl rfl rfl (by decide +kernel) ⟨Nat.le_of_ble_eq_true rfl, Nat.le_of_ble_eq_true rfl⟩) (va_recv hK hP (ci := 0) (q0 := 0) rfl rfl) hK hP hD hS hA hZ rfl rfl (Nat.le_of_ble_eq_true rfl) hl.1 dX1_placeOf_65 ⟨Nat.zero_le _, Nat.zero_le _⟩ (fun r u H locs hq hP hD hS => ?_)
      obtain ⟨rfl, rfl⟩ := hq
      refine lv_if_eq (tgt := 90) hx hb dX1_placeOf_68 (by decide) (fun c_6 => ?_) (fun c_6 => ?_)
      · skip
        have c_6 : ¬ (hol σ ii ≠ 0 ∧ hol σ ii ≠ σ 2 (σ 6 ii)) := pI_0.mp c_6
        refine lv_aload_n hx hb dX1_placeOf_90 rfl (lv_at hl 2 rfl) ?_
        refine va_get (D := D) (ci := 0) (v := .ref (ad 3)) (C := RX1) (T := TX1) (N := 15) hx hb hts hin hown hK hP 0 rfl rfl 3 (by decide) (hts (.fieldLink RX1 16 "HandCases" "held" "[Z") (by decide +kernel)) (fun _ h9 => h9) rfl dX1_placeOf_91 ?_
        refine lv_iload_n hx hb dX1_placeOf_94 rfl (lv_at hl 1 rfl) ?_
        have b_7 := b3 hI (σ 6 ii)
        refine q_zald (v := nI (σ 3 (σ 6 ii))) hx hb hK hP 3 1 rfl rfl (σ 6 ii) (nI_toInt (by omega)) (by omega) rfl dX1_placeOf_95 ?_
        refine lv_if_eq (tgt := 105) hx hb dX1_placeOf_96 (by decide) (fun c_8 => ?_) (fun c_8 => ?_)
        · skip
          have c_8 := (cq_eq (nI_toInt (by omega)) (show (0 : Int32).toInt = (0 : Int) from by decide)).mp c_8
          refine va_gets hx hb hZ.2.2.2.2.1 hS hown (hts (.fieldLink RX1 196 "HandCases$Place" "FRAME" "LHandCases$Place;") (by decide +kernel)) (fun _ h9 => h9) dX1_placeOf_105 ?_
          exact ret_e 4 (σ, γ) hx hb hr hK hlocks hP hD hS ⟨congrArg some (by unfold plc; repeat (first | rw [if_pos (by omega)] | rw [if_neg (by omega)])), rfl⟩ dX1_placeOf_108
        · skip
          have c_8 := mt (cq_eq (nI_toInt (by omega)) (show (0 : Int32).toInt = (0 : Int) from by decide)).mpr c_8
          refine va_gets hx hb hZ.2.2.1 hS hown (hts (.fieldLink RX1 150 "HandCases$Place" "DRAWER" "LHandCases$Place;") (by decide +kernel)) (fun _ h9 => h9) dX1_placeOf_99 ?_
          refine lv_goto (tgt := 108) hx hb dX1_placeOf_102 (by decide) ?_
          exact ret_e 2 (σ, γ) hx hb hr hK hlocks hP hD hS ⟨congrArg some (by unfold plc; repeat (first | rw [if_pos (by omega)] | rw [if_neg (by omega)])), rfl⟩ dX1_placeOf_108
      · skip
        have c_6 : hol σ ii ≠ 0 ∧ hol σ ii ≠ σ 2 (σ 6 ii) := Decidable.not_not.mp (mt pI_0.mpr c_6)
        refine lv_aload_n hx hb dX1_placeOf_71 rfl (lv_at hl 2 rfl) ?_
        refine lv_iload_n hx hb dX1_placeOf_72 rfl (lv_at hl 0 rfl) ?_
        refine call_i (As := [.int (nI (hol σ ii - 1))]) (rest := []) WAd_c ⟨hx, hb, hml, hown, hts⟩ (c_X1_leastCarrierAt l cI cZ D ad pl tb _ σ γ (hol σ ii - 1) hI (by omega)) (cwV 1 hts gX1_placeOf_X1_leastCarrierAt rfl rfl rfl (by decide +kernel) ⟨Nat.le_of_ble_eq_true rfl, Nat.le_of_ble_eq_true rfl⟩) (va_recv hK hP (ci := 0) (q0 := 0) rfl rfl) hK hP hD hS hA hZ rfl rfl (Nat.le_of_ble_eq_true rfl) hl.1 dX1_placeOf_73 ⟨Nat.zero_le _, Nat.zero_le _⟩ (fun r u H locs hq hP hD hS => ?_)
        obtain ⟨rfl, rfl⟩ := hq
        have b_9 := leastN_le hI (hol σ ii - 1) (σ 5 0)
        refine lv_iconst (v := (-1)) hx hb dX1_placeOf_76 (by decide) ?_
        refine lv_icmp_ne (tgt := 86) hx hb dX1_placeOf_77 (by decide) (fun c_10 => ?_) (fun c_10 => ?_)
        · skip
          have c_10 := mt (cq_eq (mI_toInt (by omega)) (show (-1 : Int32).toInt = (-1 : Int) from by decide)).mpr c_10
          refine va_gets hx hb hZ.2.1 hS hown (hts (.fieldLink RX1 193 "HandCases$Place" "ASTRAY" "LHandCases$Place;") (by decide +kernel)) (fun _ h9 => h9) dX1_placeOf_86 ?_
          exact ret_e 1 (σ, γ) hx hb hr hK hlocks hP hD hS ⟨congrArg some (by unfold plc; repeat (first | rw [if_pos (by omega)] | rw [if_neg (by omega)])), rfl⟩ dX1_placeOf_89
        · skip
          have c_10 := (cq_eq (mI_toInt (by omega)) (show (-1 : Int32).toInt = (-1 : Int) from by decide)).mp c_10
          refine va_gets hx hb hZ.1 hS hown (hts (.fieldLink RX1 163 "HandCases$Place" "STRAY" "LHandCases$Place;") (by decide +kernel)) (fun _ h9 => h9) dX1_placeOf_80 ?_
          refine lv_goto (tgt := 89) hx hb dX1_placeOf_83 (by decide) ?_
          exact ret_e 0 (σ, γ) hx hb hr hK hlocks hP hD hS ⟨congrArg some (by unfold plc; repeat (first | rw [if_pos (by omega)] | rw [if_neg (by omega)])), rfl⟩ dX1_placeOf_89
    · skip
      have c_5 := (cq_eq (mI_toInt (by omega)) (show (-1 : Int32).toInt = (-1 : Int) from by decide)).mp c_5
      refine va_gets hx hb hZ.1 hS hown (hts (.fieldLink RX1 163 "HandCases$Place" "STRAY" "LHandCases$Place;") (by decide +kernel)) (fun _ h9 => h9) dX1_placeOf_59 ?_
      exact ret_e 0 (σ, γ) hx hb hr hK hlocks hP hD hS ⟨congrArg some (by unfold plc; repeat (first | rw [if_pos (by omega)] | rw [if_neg (by omega)])), rfl⟩ dX1_placeOf_62
  · skip
    have c_3 := (cq_eq (nI_toInt (by omega)) (show (2 : Int32).toInt = (2 : Int) from by decide)).mp c_3
    refine lv_aload_n hx hb dX1_placeOf_17 rfl (lv_at hl 1 rfl) ?_
    refine lv_iload_n hx hb dX1_placeOf_18 rfl (lv_at hl 0 rfl) ?_
    refine call_i (As := [.int (nI (σ 6 ii))]) (rest := []) WAd_c ⟨hx, hb, hml, hown, hts⟩ (c_X1_isHouse l cI cZ D ad pl tb _ σ γ (nI (σ 6 ii)) hI) (cwV 1 hts gX1_placeOf_X1_isHouse rfl rfl rfl (by decide +kernel) ⟨Nat.le_of_ble_eq_true rfl, Nat.le_of_ble_eq_true rfl⟩) (va_recv hK hP (ci := 0) (q0 := 0) rfl rfl) hK hP hD hS hA hZ rfl rfl (Nat.le_of_ble_eq_true rfl) hl.1 dX1_placeOf_19 ⟨Nat.zero_le _, Nat.zero_le _⟩ (fun r u H locs hq hP hD hS => ?_)
    obtain ⟨rfl, rfl⟩ := hq
    refine lv_if_ne (tgt := 29) hx hb dX1_placeOf_22 (by decide) (fun c_11 => ?_) (fun c_11 => ?_)
    · skip
      have c_11 : 0 ≤ (nI (σ 6 ii)).toInt ∧ (nI (σ 6 ii)).toInt < 200 ∧ σ 1 (nI (σ 6 ii)).toInt.toNat ≠ 0 := Decidable.not_not.mp (mt pI_0.mpr c_11)
      have c_11 : σ 1 (σ 6 ii) ≠ 0 := (isH_n (by omega)).mp c_11
      refine lv_aload_n hx hb dX1_placeOf_29 rfl (lv_at hl 1 rfl) ?_
      refine va_get (D := D) (ci := 0) (v := .ref (ad 3)) (C := RX1) (T := TX1) (N := 15) hx hb hts hin hown hK hP 0 rfl rfl 3 (by decide) (hts (.fieldLink RX1 16 "HandCases" "held" "[Z") (by decide +kernel)) (fun _ h9 => h9) rfl dX1_placeOf_30 ?_
      refine lv_iload_n hx hb dX1_placeOf_33 rfl (lv_at hl 0 rfl) ?_
      have b_12 := b3 hI (σ 6 ii)
      refine q_zald (v := nI (σ 3 (σ 6 ii))) hx hb hK hP 3 1 rfl rfl (σ 6 ii) (nI_toInt (by omega)) (by omega) rfl dX1_placeOf_34 ?_
      refine lv_if_eq (tgt := 44) hx hb dX1_placeOf_35 (by decide) (fun c_13 => ?_) (fun c_13 => ?_)
      · skip
        have c_13 := (cq_eq (nI_toInt (by omega)) (show (0 : Int32).toInt = (0 : Int) from by decide)).mp c_13
        refine va_gets hx hb hZ.2.2.2.1 hS hown (hts (.fieldLink RX1 138 "HandCases$Place" "LIST" "LHandCases$Place;") (by decide +kernel)) (fun _ h9 => h9) dX1_placeOf_44 ?_
        exact ret_e 3 (σ, γ) hx hb hr hK hlocks hP hD hS ⟨congrArg some (by unfold plc; repeat (first | rw [if_pos (by omega)] | rw [if_neg (by omega)])), rfl⟩ dX1_placeOf_47
      · skip
        have c_13 := mt (cq_eq (nI_toInt (by omega)) (show (0 : Int32).toInt = (0 : Int) from by decide)).mpr c_13
        refine va_gets hx hb hZ.2.2.1 hS hown (hts (.fieldLink RX1 150 "HandCases$Place" "DRAWER" "LHandCases$Place;") (by decide +kernel)) (fun _ h9 => h9) dX1_placeOf_38 ?_
        refine lv_goto (tgt := 47) hx hb dX1_placeOf_41 (by decide) ?_
        exact ret_e 2 (σ, γ) hx hb hr hK hlocks hP hD hS ⟨congrArg some (by unfold plc; repeat (first | rw [if_pos (by omega)] | rw [if_neg (by omega)])), rfl⟩ dX1_placeOf_47
    · skip
      have c_11 : ¬ (0 ≤ (nI (σ 6 ii)).toInt ∧ (nI (σ 6 ii)).toInt < 200 ∧ σ 1 (nI (σ 6 ii)).toInt.toNat ≠ 0) := pI_0.mp c_11
      have c_11 : ¬ (σ 1 (σ 6 ii) ≠ 0) := mt (isH_n (by omega)).mpr c_11
      refine va_gets hx hb hZ.1 hS hown (hts (.fieldLink RX1 163 "HandCases$Place" "STRAY" "LHandCases$Place;") (by decide +kernel)) (fun _ h9 => h9) dX1_placeOf_25 ?_
      exact ret_e 0 (σ, γ) hx hb hr hK hlocks hP hD hS ⟨congrArg some (by unfold plc; repeat (first | rw [if_pos (by omega)] | rw [if_neg (by omega)])), rfl⟩ dX1_placeOf_28

set_option maxHeartbeats 4000000 in
set_option maxRecDepth 100000 in
theorem c_X1_itemsAt (l : Launch) (cI cZ : ClassId) (D : va_G) (ad pl : Nat → Nat) (tb sz : Nat) (σ γ : Sg) (q : Nat) (hI : Inv σ) (hq5 : q < 5) : CtI l yX1_itemsAt wsX1_itemsAt ({ frames := 3, cells := 0, slots := 0, locals := 66 }) cI cZ D ad pl tb sz (WC cI cZ ad) (σ, γ) [.ref (ad 0), .ref (pl q)] (fun r u => r = nI (sumN (atF σ q) (σ 11 0)) ∧ u = (σ, γ)) := by
  refine Met.ofW (cc := cX1_itemsAt) (maxL := 4) (ret := (some .int)) (by decide) rfl ?_
  intro p e s m args below meth c s₁ B hml hv
  obtain ⟨rfl, hsz, hP, hK, hD0, hZ⟩ := hv
  have hx := B.exec
  have hb := B.bytes
  have hr := B.returns
  have hts := atoms_spec (ws := wsX1_itemsAt) B.pre
  have hown : s.vm.findClass RX1 = some m.cls := findClass_of_methodNamed B.named
  have hlocks := B.notSynchronized
  have hin : ∀ w ∈ wsX10, w ∈ wsX1_itemsAt := fun w h => List.mem_cons_of_mem _ (List.mem_append_right _ h)
  subst hsz
  have hD : va_D (AC ad s.heap.size) (WC cI cZ ad (σ, γ)) := AC_self WAd_c hD0
  have hA : ∀ q : Nat, s.heap.size ≤ q → AC ad s.heap.size q := fun q h => Or.inr h
  have hS : va_S (AC ad s.heap.size) s.heap s.heap [] := va_S.rf
  have hl := lv_entry ([.ref (ad 0), .ref (pl q)]) (n := 4) (Nat.le_of_ble_eq_true rfl)
  rw [lg_entry_eq]
  generalize (lg_sl ([.ref (ad 0), .ref (pl q)]) ++ List.replicate (4 - (lg_sl ([.ref (ad 0), .ref (pl q)])).length) Slot.unset).toArray = ls at hl ⊢
  have hl : lv_has ls 4 [(0, .ref (ad 0)), (1, .ref (pl q))] := hl
  refine lv_iconst (v := 0) hx hb dX1_itemsAt_0 (by decide) ?_
  refine lv_istore_n (lv' := [(2, .int 0), (0, .ref (ad 0)), (1, .ref (pl q))]) hx hb dX1_itemsAt_1 rfl hl (by decide) rfl (fun ls hl => ?_)
  refine lv_iconst (v := 0) hx hb dX1_itemsAt_2 (by decide) ?_
  refine lv_istore_n (lv' := [(3, .int 0), (2, .int 0), (0, .ref (ad 0)), (1, .ref (pl q))]) hx hb dX1_itemsAt_3 rfl hl (by decide) rfl (fun ls hl => ?_)
  refine W_loop (ι := Nat) 4 (fun (i : Nat) H locs ls => (i ≤ σ 11 0) ∧ va_P D vwCl (WC cI cZ ad (σ, γ)) H ∧ va_D (AC ad s.heap.size) (WC cI cZ ad (σ, γ)) ∧ va_S (AC ad s.heap.size) s.heap H locs ∧ lv_has ls 4 [(0, .ref (ad 0)), (1, .ref (pl q)), (2, .int (nI (sumN (atF σ q) i))), (3, .int (nI i))]) (fun (i : Nat) => σ 11 0 - i) ?_ 0 _ _ _ ⟨by omega, hP, hD, hS, lv_as (lv_sub hl [2, 3, 1, 0] rfl) (lv_c rfl (lv_c rfl (lv_c (congrArg Value.int (by rfl)) (lv_c (congrArg Value.int (by rfl)) rfl))))⟩
  intro i H locs ls ⟨h1, hP, hD, hS, hl⟩ ih
  have b_i := b11 hI
  refine lv_iload_n hx hb dX1_itemsAt_4 rfl (lv_at hl 3 rfl) ?_
  refine lv_aload_n hx hb dX1_itemsAt_5 rfl (lv_at hl 0 rfl) ?_
  refine va_get (D := D) (ci := 0) (v := .int (nI (σ 11 0))) (C := RX1) (T := TX1) (N := 15) hx hb hts hin hown hK hP 0 rfl rfl 11 (by decide) (hts (.fieldLink RX1 42 "HandCases" "items" "I") (by decide +kernel)) (fun _ h9 => h9) rfl dX1_itemsAt_6 ?_
  have b_1 := b11 hI
  refine lv_icmp_ge (tgt := 43) hx hb dX1_itemsAt_9 (by decide) (fun c_2 => ?_) (fun c_2 => ?_)
  · skip
    have c_2 := (cq_le (nI_toInt (by omega)) (nI_toInt (by omega))).mp c_2
    refine lv_iload_n hx hb dX1_itemsAt_43 rfl (lv_at hl 2 rfl) ?_
    exact ret_i (σ, γ) hx hb hr rfl hK hlocks hP hD hS ⟨congrArg nI (congrArg (sumN (atF σ q)) (by omega)), rfl⟩ dX1_itemsAt_44
  · skip
    have c_2 := mt (cq_le (nI_toInt (by omega)) (nI_toInt (by omega))).mpr c_2
    refine lv_aload_n hx hb dX1_itemsAt_12 rfl (lv_at hl 0 rfl) ?_
    refine lv_iload_n hx hb dX1_itemsAt_13 rfl (lv_at hl 3 rfl) ?_
    refine call_i (As := [.int (nI i)]) (rest := []) WAd_c ⟨hx, hb, hml, hown, hts⟩ (c_X1_leads l cI cZ D ad pl tb _ σ γ i hI (by omega)) (cwV 1 hts gX1_itemsAt_X1_leads rfl rfl rfl (by decide +kernel) ⟨Nat.le_of_ble_eq_true rfl, Nat.le_of_ble_eq_true rfl⟩) (va_recv hK hP (ci := 0) (q0 := 0) rfl rfl) hK hP hD hS hA hZ rfl rfl (Nat.le_of_ble_eq_true rfl) hl.1 dX1_itemsAt_14 ⟨Nat.zero_le _, Nat.zero_le _⟩ (fun r u H locs hq hP hD hS => ?_)
    obtain ⟨rfl, rfl⟩ := hq
    refine lv_if_eq (tgt := 37) hx hb dX1_itemsAt_17 (by decide) (fun c_3 => ?_) (fun c_3 => ?_)
    · skip
      have c_3 : ¬ (σ 9 i = 0) := pI_0.mp c_3
      refine lv_iinc (v := nI (i + 1)) (lv' := [(3, .int (nI (i + 1))), (0, .ref (ad 0)), (1, .ref (pl q)), (2, .int (nI (sumN (atF σ q) i)))]) hx hb dX1_itemsAt_37 hl (k := 3) rfl (nI_add i 1) (by decide) rfl (fun ls hl => ?_)
      refine lv_goto (tgt := 4) hx hb dX1_itemsAt_40 (by decide) ?_
      exact ih (i + 1) _ _ _ ⟨by omega, hP, hD, hS, lv_as (lv_sub hl [1, 2, 3, 0] rfl) (lv_c rfl (lv_c rfl (lv_c (congrArg Value.int (congrArg nI (by have e9 : atF σ q i = 0 := if_neg (by omega); show _ = sumN (atF σ q) i + atF σ q i; omega))) (lv_c rfl rfl))))⟩ (by omega)
    · skip
      have c_3 : σ 9 i = 0 := Decidable.not_not.mp (mt pI_0.mpr c_3)
      refine lv_aload_n hx hb dX1_itemsAt_20 rfl (lv_at hl 0 rfl) ?_
      refine lv_iload_n hx hb dX1_itemsAt_21 rfl (lv_at hl 3 rfl) ?_
      refine call_e (As := [.int (nI i)]) (rest := []) WAd_c ⟨hx, hb, hml, hown, hts⟩ (c_X1_placeOf l cI cZ D ad pl tb _ σ γ i hI (by omega)) (cwV 1 hts gX1_itemsAt_X1_placeOf rfl rfl rfl (by decide +kernel) ⟨Nat.le_of_ble_eq_true rfl, Nat.le_of_ble_eq_true rfl⟩) (va_recv hK hP (ci := 0) (q0 := 0) rfl rfl) hK hP hD hS hA hZ rfl rfl (Nat.le_of_ble_eq_true rfl) hl.1 dX1_itemsAt_22 ⟨Nat.zero_le _, Nat.zero_le _⟩ (fun r u H locs hq hP hD hS => ?_)
      obtain ⟨rfl, rfl⟩ := hq
      have b_4 := plc_lt σ i
      refine lv_aload_n hx hb dX1_itemsAt_25 rfl (lv_at hl 1 rfl) ?_
      refine lv_acmp_ne (rx := some (pl (plc σ i))) (ry := some (pl q)) (tgt := 37) hx hb dX1_itemsAt_26 (by decide) (fun c_5 => ?_) (fun c_5 => ?_)
      · skip
        have c_5 : plc σ i ≠ q := fun q => c_5 (by rw [q])
        refine lv_iinc (v := nI (i + 1)) (lv' := [(3, .int (nI (i + 1))), (0, .ref (ad 0)), (1, .ref (pl q)), (2, .int (nI (sumN (atF σ q) i)))]) hx hb dX1_itemsAt_37 hl (k := 3) rfl (nI_add i 1) (by decide) rfl (fun ls hl => ?_)
        refine lv_goto (tgt := 4) hx hb dX1_itemsAt_40 (by decide) ?_
        exact ih (i + 1) _ _ _ ⟨by omega, hP, hD, hS, lv_as (lv_sub hl [1, 2, 3, 0] rfl) (lv_c rfl (lv_c rfl (lv_c (congrArg Value.int (congrArg nI (by have e9 : atF σ q i = 0 := if_neg (by omega); show _ = sumN (atF σ q) i + atF σ q i; omega))) (lv_c rfl rfl))))⟩ (by omega)
      · skip
        have c_5 : plc σ i = q := hZ.2.2.2.2.2.2.2 _ _ (by omega) (by omega) (Option.some.inj c_5)
        refine lv_iload_n hx hb dX1_itemsAt_29 rfl (lv_at hl 2 rfl) ?_
        refine lv_aload_n hx hb dX1_itemsAt_30 rfl (lv_at hl 0 rfl) ?_
        refine lv_iload_n hx hb dX1_itemsAt_31 rfl (lv_at hl 3 rfl) ?_
        refine call_i (As := [.int (nI i)]) (rest := [.int (nI (sumN (atF σ q) i))]) WAd_c ⟨hx, hb, hml, hown, hts⟩ (c_X1_sizeOfBundle l cI cZ D ad pl tb _ σ γ i hI (by omega)) (cwV 1 hts gX1_itemsAt_X1_sizeOfBundle rfl rfl rfl (by decide +kernel) ⟨Nat.le_of_ble_eq_true rfl, Nat.le_of_ble_eq_true rfl⟩) (va_recv hK hP (ci := 0) (q0 := 0) rfl rfl) hK hP hD hS hA hZ rfl rfl (Nat.le_of_ble_eq_true rfl) hl.1 dX1_itemsAt_32 ⟨Nat.zero_le _, Nat.zero_le _⟩ (fun r u H locs hq hP hD hS => ?_)
        obtain ⟨rfl, rfl⟩ := hq
        refine lv_iadd hx hb dX1_itemsAt_35 ?_
        refine q_topi (nI ((sumN (atF σ q) i) + (len σ i))) (nI_add (sumN (atF σ q) i) (len σ i)) ?_
        refine lv_istore_n (lv' := [(2, .int (nI ((sumN (atF σ q) i) + (len σ i)))), (0, .ref (ad 0)), (1, .ref (pl q)), (3, .int (nI i))]) hx hb dX1_itemsAt_36 rfl hl (by decide) rfl (fun ls hl => ?_)
        refine lv_iinc (v := nI (i + 1)) (lv' := [(3, .int (nI (i + 1))), (2, .int (nI ((sumN (atF σ q) i) + (len σ i)))), (0, .ref (ad 0)), (1, .ref (pl q))]) hx hb dX1_itemsAt_37 hl (k := 3) rfl (nI_add i 1) (by decide) rfl (fun ls hl => ?_)
        refine lv_goto (tgt := 4) hx hb dX1_itemsAt_40 (by decide) ?_
        exact ih (i + 1) _ _ _ ⟨by omega, hP, hD, hS, lv_as (lv_sub hl [2, 3, 1, 0] rfl) (lv_c rfl (lv_c rfl (lv_c (congrArg Value.int (congrArg nI (by have e9 : atF σ q i = len σ i := if_pos (by omega); show _ = sumN (atF σ q) i + atF σ q i; omega))) (lv_c rfl rfl))))⟩ (by omega)

set_option maxHeartbeats 4000000 in
set_option maxRecDepth 100000 in
theorem c_X1_itemsInFrames (l : Launch) (cI cZ : ClassId) (D : va_G) (ad pl : Nat → Nat) (tb sz : Nat) (σ γ : Sg)  (hI : Inv σ) : CtI l yX1_itemsInFrames wsX1_itemsInFrames ({ frames := 4, cells := 0, slots := 0, locals := 89 }) cI cZ D ad pl tb sz (WC cI cZ ad) (σ, γ) [.ref (ad 0)] (fun r u => r = nI (sumN (atF σ 4) (σ 11 0) + sumN (atF σ 1) (σ 11 0)) ∧ u = (σ, γ)) := by
  refine Met.ofW (cc := cX1_itemsInFrames) (maxL := 1) (ret := (some .int)) (by decide) rfl ?_
  intro p e s m args below meth c s₁ B hml hv
  obtain ⟨rfl, hsz, hP, hK, hD0, hZ⟩ := hv
  have hx := B.exec
  have hb := B.bytes
  have hr := B.returns
  have hts := atoms_spec (ws := wsX1_itemsInFrames) B.pre
  have hown : s.vm.findClass RX1 = some m.cls := findClass_of_methodNamed B.named
  have hlocks := B.notSynchronized
  subst hsz
  have hD : va_D (AC ad s.heap.size) (WC cI cZ ad (σ, γ)) := AC_self WAd_c hD0
  have hA : ∀ q : Nat, s.heap.size ≤ q → AC ad s.heap.size q := fun q h => Or.inr h
  have hS : va_S (AC ad s.heap.size) s.heap s.heap [] := va_S.rf
  have hl := lv_entry ([.ref (ad 0)]) (n := 1) (Nat.le_of_ble_eq_true rfl)
  rw [lg_entry_eq]
  generalize (lg_sl ([.ref (ad 0)]) ++ List.replicate (1 - (lg_sl ([.ref (ad 0)])).length) Slot.unset).toArray = ls at hl ⊢
  have hl : lv_has ls 1 [(0, .ref (ad 0))] := hl
  refine lv_aload_n hx hb dX1_itemsInFrames_0 rfl (lv_at hl 0 rfl) ?_
  refine va_gets hx hb hZ.2.2.2.2.1 hS hown (hts (.fieldLink RX1 196 "HandCases$Place" "FRAME" "LHandCases$Place;") (by decide +kernel)) (fun _ h9 => h9) dX1_itemsInFrames_1 ?_
  refine call_i (As := [.ref (pl 4)]) (rest := []) WAd_c ⟨hx, hb, hml, hown, hts⟩ (c_X1_itemsAt l cI cZ D ad pl tb _ σ γ 4 hI (by omega)) (cwV 1 hts gX1_itemsInFrames_X1_itemsAt rfl rfl rfl (by decide +kernel) ⟨Nat.le_of_ble_eq_true rfl, Nat.le_of_ble_eq_true rfl⟩) (va_recv hK hP (ci := 0) (q0 := 0) rfl rfl) hK hP hD hS hA hZ rfl rfl (Nat.le_of_ble_eq_true rfl) hl.1 dX1_itemsInFrames_4 ⟨Nat.zero_le _, Nat.zero_le _⟩ (fun r u H locs hq hP hD hS => ?_)
  obtain ⟨rfl, rfl⟩ := hq
  refine lv_aload_n hx hb dX1_itemsInFrames_7 rfl (lv_at hl 0 rfl) ?_
  refine va_gets hx hb hZ.2.1 hS hown (hts (.fieldLink RX1 193 "HandCases$Place" "ASTRAY" "LHandCases$Place;") (by decide +kernel)) (fun _ h9 => h9) dX1_itemsInFrames_8 ?_
  refine call_i (As := [.ref (pl 1)]) (rest := [.int (nI (sumN (atF σ 4) (σ 11 0)))]) WAd_c ⟨hx, hb, hml, hown, hts⟩ (c_X1_itemsAt l cI cZ D ad pl tb _ σ γ 1 hI (by omega)) (cwV 1 hts gX1_itemsInFrames_X1_itemsAt rfl rfl rfl (by decide +kernel) ⟨Nat.le_of_ble_eq_true rfl, Nat.le_of_ble_eq_true rfl⟩) (va_recv hK hP (ci := 0) (q0 := 0) rfl rfl) hK hP hD hS hA hZ rfl rfl (Nat.le_of_ble_eq_true rfl) hl.1 dX1_itemsInFrames_11 ⟨Nat.zero_le _, Nat.zero_le _⟩ (fun r u H locs hq hP hD hS => ?_)
  obtain ⟨rfl, rfl⟩ := hq
  refine lv_iadd hx hb dX1_itemsInFrames_14 ?_
  refine q_topi (nI ((sumN (atF σ 4) (σ 11 0)) + (sumN (atF σ 1) (σ 11 0)))) (nI_add (sumN (atF σ 4) (σ 11 0)) (sumN (atF σ 1) (σ 11 0))) ?_
  exact ret_i (σ, γ) hx hb hr rfl hK hlocks hP hD hS ⟨rfl, rfl⟩ dX1_itemsInFrames_15

