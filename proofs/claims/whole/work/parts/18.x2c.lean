set_option maxHeartbeats 4000000 in
set_option maxRecDepth 100000 in
theorem c_X2_framed (l : Launch) (cI cZ : ClassId) (D : va_G) (ad pl : Nat → Nat) (tb sz : Nat) (σ δ : Sg) (w0 : Int32)  (hI : Inv σ) : CtI l yX2_framed wsX2_framed ({ frames := 7, cells := 0, slots := 0, locals := 155 }) cI cZ D ad pl tb sz (WM cI cZ ad) (σ, δ, w0) [.ref (ad 0)] (fun r u => ∃ δ1 w1, u = (σ, δ1, w1) ∧ r = nI (sumN (atF σ 4) (σ 11 0) + sumN (atF σ 1) (σ 11 0)) ∧ δ1 0 0 = δ 0 0) := by
  refine Met.ofW (cc := cX2_framed) (maxL := 3) (ret := (some .int)) (by decide) rfl ?_
  intro p e s m args below meth c s₁ B hml hv
  obtain ⟨rfl, hsz, hP, hK, hD0, hZ⟩ := hv
  have hx := B.exec
  have hb := B.bytes
  have hr := B.returns
  have hts := atoms_spec (ws := wsX2_framed) B.pre
  have hown : s.vm.findClass RX2 = some m.cls := findClass_of_methodNamed B.named
  have hlocks := B.notSynchronized
  have hin : ∀ w ∈ wsX20, w ∈ wsX2_framed := fun w h => List.mem_cons_of_mem _ (List.mem_append_right _ h)
  subst hsz
  have hD : va_D (AC ad s.heap.size) (WM cI cZ ad (σ, δ, w0)) := AC_self WAd_m hD0
  have hA : ∀ q : Nat, s.heap.size ≤ q → AC ad s.heap.size q := fun q h => Or.inr h
  have hS : va_S (AC ad s.heap.size) s.heap s.heap [] := va_S.rf
  have hl := lv_entry ([.ref (ad 0)]) (n := 3) (Nat.le_of_ble_eq_true rfl)
  rw [lg_entry_eq]
  generalize (lg_sl ([.ref (ad 0)]) ++ List.replicate (3 - (lg_sl ([.ref (ad 0)])).length) Slot.unset).toArray = ls at hl ⊢
  have hl : lv_has ls 3 [(0, .ref (ad 0))] := hl
  refine lv_iconst (v := 0) hx hb dX2_framed_0 (by decide) ?_
  refine lv_istore_n (lv' := [(1, .int 0), (0, .ref (ad 0))]) hx hb dX2_framed_1 rfl hl (by decide) rfl (fun ls hl => ?_)
  refine lv_iconst (v := 0) hx hb dX2_framed_2 (by decide) ?_
  refine lv_istore_n (lv' := [(2, .int 0), (1, .int 0), (0, .ref (ad 0))]) hx hb dX2_framed_3 rfl hl (by decide) rfl (fun ls hl => ?_)
  refine W_loop (ι := Nat × Sg × Int32) 4 (fun (x : Nat × Sg × Int32) H locs ls => (x.1 ≤ 4) ∧ (x.2.1 0 0 = δ 0 0) ∧ va_P D vwCl (WM cI cZ ad (σ, x.2.1, x.2.2)) H ∧ va_D (AC ad s.heap.size) (WM cI cZ ad (σ, x.2.1, x.2.2)) ∧ va_S (AC ad s.heap.size) s.heap H locs ∧ lv_has ls 3 [(0, .ref (ad 0)), (1, .int (nI (sumN (frF σ) x.1))), (2, .int (nI x.1))]) (fun (x : Nat × Sg × Int32) => 4 - x.1) ?_ (0, δ, w0) _ _ _ ⟨by (try dsimp only); omega, rfl, hP, hD, hS, lv_as (lv_sub hl [2, 1, 0] rfl) (lv_c rfl (lv_c (congrArg Value.int (by rfl)) (lv_c (congrArg Value.int (by rfl)) rfl)))⟩
  intro ⟨i, δ1, w1⟩ H locs ls ⟨h1, h2, hP, hD, hS, hl⟩ ih
  dsimp only at h1 h2 hP hD hl ih
  refine lv_iload_n hx hb dX2_framed_4 rfl (lv_at hl 2 rfl) ?_
  refine lv_iconst (v := 4) hx hb dX2_framed_5 (by decide) ?_
  refine lv_icmp_ge (tgt := 28) hx hb dX2_framed_6 (by decide) (fun c_1 => ?_) (fun c_1 => ?_)
  · skip
    have c_1 := (cq_le (show (4 : Int32).toInt = (4 : Int) from by decide) (nI_toInt (by omega))).mp c_1
    refine lv_iload_n hx hb dX2_framed_28 rfl (lv_at hl 1 rfl) ?_
    exact ret_i (σ, δ1, w1) hx hb hr rfl hK hlocks hP hD hS ⟨δ1, w1, rfl, by rw [show i = 4 from by omega]; exact congrArg nI (P_framed hI), h2⟩ dX2_framed_29
  · skip
    have c_1 := mt (cq_le (show (4 : Int32).toInt = (4 : Int) from by decide) (nI_toInt (by omega))).mpr c_1
    refine lv_aload_n hx hb dX2_framed_9 rfl (lv_at hl 0 rfl) ?_
    refine lv_iload_n hx hb dX2_framed_10 rfl (lv_at hl 2 rfl) ?_
    refine lv_iconst (v := (-1)) hx hb dX2_framed_11 (by decide) ?_
    refine call_v (As := [.int (nI i), .int (-1)]) (rest := []) WAd_m ⟨hx, hb, hml, hown, hts⟩ (c_X2_passFrame l cI cZ D ad pl tb _ σ δ1 w1 i (-1) hI (by omega)) (cwV 2 hts gX2_framed_X2_passFrame rfl rfl rfl (by decide +kernel) ⟨Nat.le_of_ble_eq_true rfl, Nat.le_of_ble_eq_true rfl⟩) (va_recv hK hP (ci := 1) (q0 := 0) rfl rfl) hK hP hD hS hA hZ rfl rfl (Nat.le_of_ble_eq_true rfl) hl.1 dX2_framed_12 ⟨Nat.zero_le _, Nat.zero_le _⟩ (fun u H locs hq hP hD hS => ?_)
    obtain ⟨δ_2, rfl, hPs, hf0⟩ := hq
    refine lv_iload_n hx hb dX2_framed_15 rfl (lv_at hl 1 rfl) ?_
    refine lv_aload_n hx hb dX2_framed_16 rfl (lv_at hl 0 rfl) ?_
    refine va_get (D := D) (ci := 1) (v := .int (nI (δ_2 2 0))) (C := RX2) (T := TX2) (N := 19) hx hb hts hin hown hK hP 0 rfl rfl 15 (by decide) (hts (.fieldLink RX2 82 "HandCasesModel" "seen" "I") (by decide +kernel)) (fun _ h9 => h9) rfl dX2_framed_17 ?_
    refine lv_iadd hx hb dX2_framed_20 ?_
    refine q_topi (nI ((sumN (frF σ) i) + (δ_2 2 0))) (nI_add (sumN (frF σ) i) (δ_2 2 0)) ?_
    refine lv_istore_n (lv' := [(1, .int (nI ((sumN (frF σ) i) + (δ_2 2 0)))), (0, .ref (ad 0)), (2, .int (nI i))]) hx hb dX2_framed_21 rfl hl (by decide) rfl (fun ls hl => ?_)
    refine lv_iinc (v := nI (i + 1)) (lv' := [(2, .int (nI (i + 1))), (1, .int (nI ((sumN (frF σ) i) + (δ_2 2 0)))), (0, .ref (ad 0))]) hx hb dX2_framed_22 hl (k := 2) rfl (nI_add i 1) (by decide) rfl (fun ls hl => ?_)
    refine lv_goto (tgt := 4) hx hb dX2_framed_25 (by decide) ?_
    exact ih (i + 1, δ_2, (-1)) _ _ _ ⟨by (try dsimp only); omega, hf0.trans h2, hP, hD, hS, lv_as (lv_sub hl [2, 1, 0] rfl) (lv_c rfl (lv_c (congrArg Value.int (congrArg nI (by rw [hPs.1]; rfl))) (lv_c rfl rfl)))⟩ (by show 4 - (i + 1) < 4 - i; omega)

set_option maxHeartbeats 4000000 in
set_option maxRecDepth 100000 in
theorem c_X2_sort (l : Launch) (cI cZ : ClassId) (D : va_G) (ad pl : Nat → Nat) (tb sz : Nat) (σ δ : Sg) (w0 : Int32)  (hI : Inv σ) : CtI l yX2_sort wsX2_sort ({ frames := 8, cells := 0, slots := 0, locals := 177 }) cI cZ D ad pl tb sz (WM cI cZ ad) (σ, δ, w0) [.ref (ad 0)] (fun r u => ∃ δ1 w1, u = (σ, δ1, w1) ∧ r = nI (sumN (atF σ 4) (σ 11 0) + sumN (atF σ 1) (σ 11 0))) := by
  refine Met.ofW (cc := cX2_sort) (maxL := 1) (ret := (some .int)) (by decide) rfl ?_
  intro p e s m args below meth c s₁ B hml hv
  obtain ⟨rfl, hsz, hP, hK, hD0, hZ⟩ := hv
  have hx := B.exec
  have hb := B.bytes
  have hr := B.returns
  have hts := atoms_spec (ws := wsX2_sort) B.pre
  have hown : s.vm.findClass RX2 = some m.cls := findClass_of_methodNamed B.named
  have hlocks := B.notSynchronized
  have hin : ∀ w ∈ wsX20, w ∈ wsX2_sort := fun w h => List.mem_cons_of_mem _ (List.mem_append_right _ h)
  subst hsz
  have hD : va_D (AC ad s.heap.size) (WM cI cZ ad (σ, δ, w0)) := AC_self WAd_m hD0
  have hA : ∀ q : Nat, s.heap.size ≤ q → AC ad s.heap.size q := fun q h => Or.inr h
  have hS : va_S (AC ad s.heap.size) s.heap s.heap [] := va_S.rf
  have hl := lv_entry ([.ref (ad 0)]) (n := 1) (Nat.le_of_ble_eq_true rfl)
  rw [lg_entry_eq]
  generalize (lg_sl ([.ref (ad 0)]) ++ List.replicate (1 - (lg_sl ([.ref (ad 0)])).length) Slot.unset).toArray = ls at hl ⊢
  have hl : lv_has ls 1 [(0, .ref (ad 0))] := hl
  refine lv_aload_n hx hb dX2_sort_0 rfl (lv_at hl 0 rfl) ?_
  refine lv_iconst (v := 0) hx hb dX2_sort_1 (by decide) ?_
  refine va_put (D := D) (ci := 1) (v := .int 0) (ty := .int) (C := RX2) (T := TX2) (N := 19) hx hb hts hin tyX2 tyX2_ok nmX2 hown hK hP hD hS 0 rfl rfl 1 (by decide) (hts (.fieldLink RX2 48 "HandCasesModel" "fault" "I") (by decide +kernel)) (fun _ h9 => h9) rfl (by decide +kernel) rfl rfl (Nat.le_of_ble_eq_true rfl) dX2_sort_2 (fun H locs hP hD hS => ?_)
  have hP : va_P D vwCl (WM cI cZ ad (σ, setA δ 0 0 0, w0)) H := hP
  have hD : va_D (AC ad s.heap.size) (WM cI cZ ad (σ, setA δ 0 0 0, w0)) := hD
  refine lv_aload_n hx hb dX2_sort_5 rfl (lv_at hl 0 rfl) ?_
  refine call_i (As := []) (rest := []) WAd_m ⟨hx, hb, hml, hown, hts⟩ (c_X2_framed l cI cZ D ad pl tb _ σ (setA δ 0 0 0) w0 hI) (cwV 0 hts gX2_sort_X2_framed rfl rfl rfl (by decide +kernel) ⟨Nat.le_of_ble_eq_true rfl, Nat.le_of_ble_eq_true rfl⟩) (va_recv hK hP (ci := 1) (q0 := 0) rfl rfl) hK hP hD hS hA hZ rfl rfl (Nat.le_of_ble_eq_true rfl) hl.1 dX2_sort_6 ⟨Nat.zero_le _, Nat.zero_le _⟩ (fun r u H locs hq hP hD hS => ?_)
  obtain ⟨δ_1, w_1, rfl, rfl, hf0⟩ := hq
  exact ret_i (σ, δ_1, w_1) hx hb hr rfl hK hlocks hP hD hS ⟨δ_1, w_1, rfl, rfl⟩ dX2_sort_9

set_option maxHeartbeats 4000000 in
set_option maxRecDepth 100000 in
theorem c_X2_drawer (l : Launch) (cI cZ : ClassId) (D : va_G) (ad pl : Nat → Nat) (tb sz : Nat) (σ δ : Sg) (w0 : Int32) (p0 p1 : Int32) (hI : Inv σ) : CtI l yX2_drawer wsX2_drawer ({ frames := 6, cells := 0, slots := 0, locals := 131 }) cI cZ D ad pl tb sz (WM cI cZ ad) (σ, δ, w0) [.ref (ad 0), .int p0, .int p1] (fun r u => ∃ δ1 w1, u = (σ, δ1, w1) ∧ r = pickI p1 (hL σ (dH p0) 2)) := by
  refine Met.ofW (cc := cX2_drawer) (maxL := 3) (ret := (some .int)) (by decide) rfl ?_
  intro p e s m args below meth c s₁ B hml hv
  obtain ⟨rfl, hsz, hP, hK, hD0, hZ⟩ := hv
  have hx := B.exec
  have hb := B.bytes
  have hr := B.returns
  have hts := atoms_spec (ws := wsX2_drawer) B.pre
  have hown : s.vm.findClass RX2 = some m.cls := findClass_of_methodNamed B.named
  have hlocks := B.notSynchronized
  have hin : ∀ w ∈ wsX20, w ∈ wsX2_drawer := fun w h => List.mem_cons_of_mem _ (List.mem_append_right _ h)
  subst hsz
  have hD : va_D (AC ad s.heap.size) (WM cI cZ ad (σ, δ, w0)) := AC_self WAd_m hD0
  have hA : ∀ q : Nat, s.heap.size ≤ q → AC ad s.heap.size q := fun q h => Or.inr h
  have hS : va_S (AC ad s.heap.size) s.heap s.heap [] := va_S.rf
  have hl := lv_entry ([.ref (ad 0), .int p0, .int p1]) (n := 3) (Nat.le_of_ble_eq_true rfl)
  rw [lg_entry_eq]
  generalize (lg_sl ([.ref (ad 0), .int p0, .int p1]) ++ List.replicate (3 - (lg_sl ([.ref (ad 0), .int p0, .int p1])).length) Slot.unset).toArray = ls at hl ⊢
  have hl : lv_has ls 3 [(0, .ref (ad 0)), (1, .int p0), (2, .int p1)] := hl
  refine lv_aload_n hx hb dX2_drawer_0 rfl (lv_at hl 0 rfl) ?_
  refine lv_iconst (v := 0) hx hb dX2_drawer_1 (by decide) ?_
  refine va_put (D := D) (ci := 1) (v := .int 0) (ty := .int) (C := RX2) (T := TX2) (N := 19) hx hb hts hin tyX2 tyX2_ok nmX2 hown hK hP hD hS 0 rfl rfl 1 (by decide) (hts (.fieldLink RX2 48 "HandCasesModel" "fault" "I") (by decide +kernel)) (fun _ h9 => h9) rfl (by decide +kernel) rfl rfl (Nat.le_of_ble_eq_true rfl) dX2_drawer_2 (fun H locs hP hD hS => ?_)
  have hP : va_P D vwCl (WM cI cZ ad (σ, setA δ 0 0 0, w0)) H := hP
  have hD : va_D (AC ad s.heap.size) (WM cI cZ ad (σ, setA δ 0 0 0, w0)) := hD
  refine lv_aload_n hx hb dX2_drawer_5 rfl (lv_at hl 0 rfl) ?_
  refine lv_iload_n hx hb dX2_drawer_6 rfl (lv_at hl 2 rfl) ?_
  refine call_v (As := [.int p1]) (rest := []) WAd_m ⟨hx, hb, hml, hown, hts⟩ (c_X2_begin l cI cZ D ad pl tb _ σ (setA δ 0 0 0) w0 p1) (cwV 1 hts gX2_drawer_X2_begin rfl rfl rfl (by decide +kernel) ⟨Nat.le_of_ble_eq_true rfl, Nat.le_of_ble_eq_true rfl⟩) (va_recv hK hP (ci := 1) (q0 := 0) rfl rfl) hK hP hD hS hA hZ rfl rfl (Nat.le_of_ble_eq_true rfl) hl.1 dX2_drawer_7 ⟨Nat.zero_le _, Nat.zero_le _⟩ (fun u H locs hq hP hD hS => ?_)
  obtain ⟨δ_1, rfl, hPs, hf0⟩ := hq
  refine lv_aload_n hx hb dX2_drawer_10 rfl (lv_at hl 0 rfl) ?_
  refine lv_iload_n hx hb dX2_drawer_11 rfl (lv_at hl 1 rfl) ?_
  refine call_i (As := [.int p0]) (rest := []) WAd_m ⟨hx, hb, hml, hown, hts⟩ (c_X2_isHouse l cI cZ D ad pl tb _ σ δ_1 p1 p0 hI) (cwV 1 hts gX2_drawer_X2_isHouse rfl rfl rfl (by decide +kernel) ⟨Nat.le_of_ble_eq_true rfl, Nat.le_of_ble_eq_true rfl⟩) (va_recv hK hP (ci := 1) (q0 := 0) rfl rfl) hK hP hD hS hA hZ rfl rfl (Nat.le_of_ble_eq_true rfl) hl.1 dX2_drawer_12 ⟨Nat.zero_le _, Nat.zero_le _⟩ (fun r u H locs hq hP hD hS => ?_)
  obtain ⟨rfl, rfl⟩ := hq
  refine lv_if_eq (tgt := 24) hx hb dX2_drawer_15 (by decide) (fun c_2 => ?_) (fun c_2 => ?_)
  · skip
    have c_2 : ¬ (0 ≤ p0.toInt ∧ p0.toInt < 200 ∧ σ 1 p0.toInt.toNat ≠ 0) := pI_0.mp c_2
    refine lv_aload_n hx hb dX2_drawer_24 rfl (lv_at hl 0 rfl) ?_
    refine va_get (D := D) (ci := 1) (v := .int (mI (δ_1 4 0))) (C := RX2) (T := TX2) (N := 19) hx hb hts hin hown hK hP 0 rfl rfl 18 (by decide) (hts (.fieldLink RX2 88 "HandCasesModel" "found" "I") (by decide +kernel)) (fun _ h9 => h9) rfl dX2_drawer_25 ?_
    exact ret_i (σ, δ_1, p1) hx hb hr rfl hK hlocks hP hD hS ⟨δ_1, p1, rfl, (by rw [hL_no hI (dH_no hI (by omega)), hPs.2.2, pickM_I])⟩ dX2_drawer_28
  · skip
    have c_2 : 0 ≤ p0.toInt ∧ p0.toInt < 200 ∧ σ 1 p0.toInt.toNat ≠ 0 := Decidable.not_not.mp (mt pI_0.mpr c_2)
    obtain ⟨h0, e_h0, -, rfl⟩ := i_nat (p := p0) (by omega)
    refine lv_aload_n hx hb dX2_drawer_18 rfl (lv_at hl 0 rfl) ?_
    refine lv_iload_n hx hb dX2_drawer_19 rfl (lv_at hl 1 rfl) ?_
    refine lv_iconst (v := 3) hx hb dX2_drawer_20 (by decide) ?_
    refine call_v (As := [.int (nI h0), .int 3]) (rest := []) WAd_m ⟨hx, hb, hml, hown, hts⟩ (c_X2_passHouse l cI cZ D ad pl tb _ σ δ_1 p1 h0 3 2 ([]) hI (by omega) goe_3 hPs (by simp)) (cwV 2 hts gX2_drawer_X2_passHouse rfl rfl rfl (by decide +kernel) ⟨Nat.le_of_ble_eq_true rfl, Nat.le_of_ble_eq_true rfl⟩) (va_recv hK hP (ci := 1) (q0 := 0) rfl rfl) hK hP hD hS hA hZ rfl rfl (Nat.le_of_ble_eq_true rfl) hl.1 dX2_drawer_21 ⟨Nat.zero_le _, Nat.zero_le _⟩ (fun u H locs hq hP hD hS => ?_)
    obtain ⟨δ_3, rfl, hPs, hf0⟩ := hq
    refine lv_aload_n hx hb dX2_drawer_24 rfl (lv_at hl 0 rfl) ?_
    refine va_get (D := D) (ci := 1) (v := .int (mI (δ_3 4 0))) (C := RX2) (T := TX2) (N := 19) hx hb hts hin hown hK hP 0 rfl rfl 18 (by decide) (hts (.fieldLink RX2 88 "HandCasesModel" "found" "I") (by decide +kernel)) (fun _ h9 => h9) rfl dX2_drawer_25 ?_
    exact ret_i (σ, δ_3, p1) hx hb hr rfl hK hlocks hP hD hS ⟨δ_3, p1, rfl, (by have e9 : dH (nI h0) = h0 := (by unfold dH; rw [e_h0]; rw [if_pos (by omega)]; omega); rw [e9, hPs.2.2, pickM_I]; rfl)⟩ dX2_drawer_28

set_option maxHeartbeats 4000000 in
set_option maxRecDepth 100000 in
theorem c_X2_stray (l : Launch) (cI cZ : ClassId) (D : va_G) (ad pl : Nat → Nat) (tb sz : Nat) (σ δ : Sg) (w0 : Int32) (p0 : Int32) (hI : Inv σ) : CtI l yX2_stray wsX2_stray ({ frames := 6, cells := 0, slots := 0, locals := 130 }) cI cZ D ad pl tb sz (WM cI cZ ad) (σ, δ, w0) [.ref (ad 0), .int p0] (fun r u => ∃ δ1 w1, u = (σ, δ1, w1) ∧ r = pickI p0 (stL σ)) := by
  refine Met.ofW (cc := cX2_stray) (maxL := 2) (ret := (some .int)) (by decide) rfl ?_
  intro p e s m args below meth c s₁ B hml hv
  obtain ⟨rfl, hsz, hP, hK, hD0, hZ⟩ := hv
  have hx := B.exec
  have hb := B.bytes
  have hr := B.returns
  have hts := atoms_spec (ws := wsX2_stray) B.pre
  have hown : s.vm.findClass RX2 = some m.cls := findClass_of_methodNamed B.named
  have hlocks := B.notSynchronized
  have hin : ∀ w ∈ wsX20, w ∈ wsX2_stray := fun w h => List.mem_cons_of_mem _ (List.mem_append_right _ h)
  subst hsz
  have hD : va_D (AC ad s.heap.size) (WM cI cZ ad (σ, δ, w0)) := AC_self WAd_m hD0
  have hA : ∀ q : Nat, s.heap.size ≤ q → AC ad s.heap.size q := fun q h => Or.inr h
  have hS : va_S (AC ad s.heap.size) s.heap s.heap [] := va_S.rf
  have hl := lv_entry ([.ref (ad 0), .int p0]) (n := 2) (Nat.le_of_ble_eq_true rfl)
  rw [lg_entry_eq]
  generalize (lg_sl ([.ref (ad 0), .int p0]) ++ List.replicate (2 - (lg_sl ([.ref (ad 0), .int p0])).length) Slot.unset).toArray = ls at hl ⊢
  have hl : lv_has ls 2 [(0, .ref (ad 0)), (1, .int p0)] := hl
  refine lv_aload_n hx hb dX2_stray_0 rfl (lv_at hl 0 rfl) ?_
  refine lv_iconst (v := 0) hx hb dX2_stray_1 (by decide) ?_
  refine va_put (D := D) (ci := 1) (v := .int 0) (ty := .int) (C := RX2) (T := TX2) (N := 19) hx hb hts hin tyX2 tyX2_ok nmX2 hown hK hP hD hS 0 rfl rfl 1 (by decide) (hts (.fieldLink RX2 48 "HandCasesModel" "fault" "I") (by decide +kernel)) (fun _ h9 => h9) rfl (by decide +kernel) rfl rfl (Nat.le_of_ble_eq_true rfl) dX2_stray_2 (fun H locs hP hD hS => ?_)
  have hP : va_P D vwCl (WM cI cZ ad (σ, setA δ 0 0 0, w0)) H := hP
  have hD : va_D (AC ad s.heap.size) (WM cI cZ ad (σ, setA δ 0 0 0, w0)) := hD
  refine lv_aload_n hx hb dX2_stray_5 rfl (lv_at hl 0 rfl) ?_
  refine lv_iload_n hx hb dX2_stray_6 rfl (lv_at hl 1 rfl) ?_
  refine call_v (As := [.int p0]) (rest := []) WAd_m ⟨hx, hb, hml, hown, hts⟩ (c_X2_passStray l cI cZ D ad pl tb _ σ (setA δ 0 0 0) w0 p0 hI) (cwV 1 hts gX2_stray_X2_passStray rfl rfl rfl (by decide +kernel) ⟨Nat.le_of_ble_eq_true rfl, Nat.le_of_ble_eq_true rfl⟩) (va_recv hK hP (ci := 1) (q0 := 0) rfl rfl) hK hP hD hS hA hZ rfl rfl (Nat.le_of_ble_eq_true rfl) hl.1 dX2_stray_7 ⟨Nat.zero_le _, Nat.zero_le _⟩ (fun u H locs hq hP hD hS => ?_)
  obtain ⟨δ_1, rfl, hPs, hf0⟩ := hq
  refine lv_aload_n hx hb dX2_stray_10 rfl (lv_at hl 0 rfl) ?_
  refine va_get (D := D) (ci := 1) (v := .int (mI (δ_1 4 0))) (C := RX2) (T := TX2) (N := 19) hx hb hts hin hown hK hP 0 rfl rfl 18 (by decide) (hts (.fieldLink RX2 88 "HandCasesModel" "found" "I") (by decide +kernel)) (fun _ h9 => h9) rfl dX2_stray_11 ?_
  exact ret_i (σ, δ_1, p0) hx hb hr rfl hK hlocks hP hD hS ⟨δ_1, p0, rfl, (by rw [hPs.2.2, pickM_I])⟩ dX2_stray_14

set_option maxHeartbeats 4000000 in
set_option maxRecDepth 100000 in
theorem c_X2_lies (l : Launch) (cI cZ : ClassId) (D : va_G) (ad pl : Nat → Nat) (tb sz : Nat) (σ δ : Sg) (w0 : Int32) (p0 : Int32) (hI : Inv σ) : CtI l yX2_lies wsX2_lies ({ frames := 3, cells := 0, slots := 0, locals := 64 }) cI cZ D ad pl tb sz (WM cI cZ ad) (σ, δ, w0) [.ref (ad 0), .int p0] (fun r u => ∃ δ1 w1, u = (σ, δ1, w1) ∧ r = oLies σ p0) := by
  refine Met.ofW (cc := cX2_lies) (maxL := 2) (ret := (some .int)) (by decide) rfl ?_
  intro p e s m args below meth c s₁ B hml hv
  obtain ⟨rfl, hsz, hP, hK, hD0, hZ⟩ := hv
  have hx := B.exec
  have hb := B.bytes
  have hr := B.returns
  have hts := atoms_spec (ws := wsX2_lies) B.pre
  have hown : s.vm.findClass RX2 = some m.cls := findClass_of_methodNamed B.named
  have hlocks := B.notSynchronized
  have hin : ∀ w ∈ wsX20, w ∈ wsX2_lies := fun w h => List.mem_cons_of_mem _ (List.mem_append_right _ h)
  subst hsz
  have hD : va_D (AC ad s.heap.size) (WM cI cZ ad (σ, δ, w0)) := AC_self WAd_m hD0
  have hA : ∀ q : Nat, s.heap.size ≤ q → AC ad s.heap.size q := fun q h => Or.inr h
  have hS : va_S (AC ad s.heap.size) s.heap s.heap [] := va_S.rf
  have hl := lv_entry ([.ref (ad 0), .int p0]) (n := 2) (Nat.le_of_ble_eq_true rfl)
  rw [lg_entry_eq]
  generalize (lg_sl ([.ref (ad 0), .int p0]) ++ List.replicate (2 - (lg_sl ([.ref (ad 0), .int p0])).length) Slot.unset).toArray = ls at hl ⊢
  have hl : lv_has ls 2 [(0, .ref (ad 0)), (1, .int p0)] := hl
  refine lv_aload_n hx hb dX2_lies_0 rfl (lv_at hl 0 rfl) ?_
  refine lv_iconst (v := 0) hx hb dX2_lies_1 (by decide) ?_
  refine va_put (D := D) (ci := 1) (v := .int 0) (ty := .int) (C := RX2) (T := TX2) (N := 19) hx hb hts hin tyX2 tyX2_ok nmX2 hown hK hP hD hS 0 rfl rfl 1 (by decide) (hts (.fieldLink RX2 48 "HandCasesModel" "fault" "I") (by decide +kernel)) (fun _ h9 => h9) rfl (by decide +kernel) rfl rfl (Nat.le_of_ble_eq_true rfl) dX2_lies_2 (fun H locs hP hD hS => ?_)
  have hP : va_P D vwCl (WM cI cZ ad (σ, setA δ 0 0 0, w0)) H := hP
  have hD : va_D (AC ad s.heap.size) (WM cI cZ ad (σ, setA δ 0 0 0, w0)) := hD
  refine lv_aload_n hx hb dX2_lies_5 rfl (lv_at hl 0 rfl) ?_
  refine lv_iload_n hx hb dX2_lies_6 rfl (lv_at hl 1 rfl) ?_
  refine call_i (As := [.int p0]) (rest := []) WAd_m ⟨hx, hb, hml, hown, hts⟩ (c_X2_isItem l cI cZ D ad pl tb _ σ (setA δ 0 0 0) w0 p0 hI) (cwV 1 hts gX2_lies_X2_isItem rfl rfl rfl (by decide +kernel) ⟨Nat.le_of_ble_eq_true rfl, Nat.le_of_ble_eq_true rfl⟩) (va_recv hK hP (ci := 1) (q0 := 0) rfl rfl) hK hP hD hS hA hZ rfl rfl (Nat.le_of_ble_eq_true rfl) hl.1 dX2_lies_7 ⟨Nat.zero_le _, Nat.zero_le _⟩ (fun r u H locs hq hP hD hS => ?_)
  obtain ⟨rfl, rfl⟩ := hq
  refine lv_if_eq (tgt := 25) hx hb dX2_lies_10 (by decide) (fun c_1 => ?_) (fun c_1 => ?_)
  · skip
    have c_1 : ¬ (0 ≤ p0.toInt ∧ p0.toInt < (σ 11 0 : Nat)) := pI_0.mp c_1
    refine lv_iconst (v := (-1)) hx hb dX2_lies_25 (by decide) ?_
    exact ret_i (σ, setA δ 0 0 0, w0) hx hb hr rfl hK hlocks hP hD hS ⟨setA δ 0 0 0, w0, rfl, by unfold oLies; rw [if_neg (by omega)]⟩ dX2_lies_26
  · skip
    have c_1 : 0 ≤ p0.toInt ∧ p0.toInt < (σ 11 0 : Nat) := Decidable.not_not.mp (mt pI_0.mpr c_1)
    obtain ⟨i0, e_i0, -, rfl⟩ := i_nat (p := p0) (by omega)
    have b_i := b11 hI
    refine lv_aload_n hx hb dX2_lies_13 rfl (lv_at hl 0 rfl) ?_
    refine lv_aload_n hx hb dX2_lies_14 rfl (lv_at hl 0 rfl) ?_
    refine lv_iload_n hx hb dX2_lies_15 rfl (lv_at hl 1 rfl) ?_
    refine call_i (As := [.int (nI i0)]) (rest := [.ref (ad 0)]) WAd_m ⟨hx, hb, hml, hown, hts⟩ (c_X2_leader l cI cZ D ad pl tb _ σ (setA δ 0 0 0) w0 i0 hI (by omega)) (cwV 1 hts gX2_lies_X2_leader rfl rfl rfl (by decide +kernel) ⟨Nat.le_of_ble_eq_true rfl, Nat.le_of_ble_eq_true rfl⟩) (va_recv hK hP (ci := 1) (q0 := 0) rfl rfl) hK hP hD hS hA hZ rfl rfl (Nat.le_of_ble_eq_true rfl) hl.1 dX2_lies_16 ⟨Nat.zero_le _, Nat.zero_le _⟩ (fun r u H locs hq hP hD hS => ?_)
    obtain ⟨rfl, rfl⟩ := hq
    have b_2 := (I_lead hI (i := i0) (by omega)).1
    have b_3 := b11 hI
    refine call_i (As := [.int (nI (leadN σ 250 i0))]) (rest := []) WAd_m ⟨hx, hb, hml, hown, hts⟩ (c_X2_holeOfLeader l cI cZ D ad pl tb _ σ (setA δ 0 0 0) w0 (leadN σ 250 i0) hI (by omega)) (cwV 1 hts gX2_lies_X2_holeOfLeader rfl rfl rfl (by decide +kernel) ⟨Nat.le_of_ble_eq_true rfl, Nat.le_of_ble_eq_true rfl⟩) (va_recv hK hP (ci := 1) (q0 := 0) rfl rfl) hK hP hD hS hA hZ rfl rfl (Nat.le_of_ble_eq_true rfl) hl.1 dX2_lies_19 ⟨Nat.zero_le _, Nat.zero_le _⟩ (fun r u H locs hq hP hD hS => ?_)
    obtain ⟨rfl, rfl⟩ := hq
    have b_4 := hol_le hI (leadN σ 250 i0)
    refine lv_goto (tgt := 26) hx hb dX2_lies_22 (by decide) ?_
    exact ret_i (σ, setA δ 0 0 0, w0) hx hb hr rfl hK hlocks hP hD hS ⟨setA δ 0 0 0, w0, rfl, by unfold oLies; simp only [e_i0, Int.toNat_natCast]; rw [if_pos (by omega)]⟩ dX2_lies_26

set_option maxHeartbeats 4000000 in
set_option maxRecDepth 100000 in
theorem c_X2_frame (l : Launch) (cI cZ : ClassId) (D : va_G) (ad pl : Nat → Nat) (tb sz : Nat) (σ δ : Sg) (w0 : Int32) (p0 p1 : Int32) (hI : Inv σ) : CtI l yX2_frame wsX2_frame ({ frames := 7, cells := 0, slots := 0, locals := 155 }) cI cZ D ad pl tb sz (WM cI cZ ad) (σ, δ, w0) [.ref (ad 0), .int p0, .int p1] (fun r u => ∃ δ1 w1, u = (σ, δ1, w1) ∧ r = (oRow (frL σ) p0 p1).2 ∧ δ1 0 0 = (oRow (frL σ) p0 p1).1) := by
  refine Met.ofW (cc := cX2_frame) (maxL := 3) (ret := (some .int)) (by decide) rfl ?_
  intro p e s m args below meth c s₁ B hml hv
  obtain ⟨rfl, hsz, hP, hK, hD0, hZ⟩ := hv
  have hx := B.exec
  have hb := B.bytes
  have hr := B.returns
  have hts := atoms_spec (ws := wsX2_frame) B.pre
  have hown : s.vm.findClass RX2 = some m.cls := findClass_of_methodNamed B.named
  have hlocks := B.notSynchronized
  have hin : ∀ w ∈ wsX20, w ∈ wsX2_frame := fun w h => List.mem_cons_of_mem _ (List.mem_append_right _ h)
  subst hsz
  have hD : va_D (AC ad s.heap.size) (WM cI cZ ad (σ, δ, w0)) := AC_self WAd_m hD0
  have hA : ∀ q : Nat, s.heap.size ≤ q → AC ad s.heap.size q := fun q h => Or.inr h
  have hS : va_S (AC ad s.heap.size) s.heap s.heap [] := va_S.rf
  have hl := lv_entry ([.ref (ad 0), .int p0, .int p1]) (n := 3) (Nat.le_of_ble_eq_true rfl)
  rw [lg_entry_eq]
  generalize (lg_sl ([.ref (ad 0), .int p0, .int p1]) ++ List.replicate (3 - (lg_sl ([.ref (ad 0), .int p0, .int p1])).length) Slot.unset).toArray = ls at hl ⊢
  have hl : lv_has ls 3 [(0, .ref (ad 0)), (1, .int p0), (2, .int p1)] := hl
  refine lv_aload_n hx hb dX2_frame_0 rfl (lv_at hl 0 rfl) ?_
  refine lv_iload_n hx hb dX2_frame_1 rfl (lv_at hl 1 rfl) ?_
  refine lv_iconst (v := 0) hx hb dX2_frame_2 (by decide) ?_
  refine lv_iconst (v := 3) hx hb dX2_frame_3 (by decide) ?_
  refine call_si (As := [.int p0, .int 0, .int 3]) (rest := [.ref (ad 0)]) WAd_m ⟨hx, hb, hml, hown, hts⟩ (c_X2_in l cI cZ D ad pl tb _ σ δ w0 p0 0 3) (va_cwS 3 hts gX2_frame_X2_in rfl rfl rfl (by decide +kernel) ⟨Nat.le_of_ble_eq_true rfl, Nat.le_of_ble_eq_true rfl⟩) hK hP hD hS hA hZ rfl rfl (Nat.le_of_ble_eq_true rfl) hl.1 dX2_frame_4 ⟨Nat.zero_le _, Nat.zero_le _⟩ (fun r u H locs hq hP hD hS => ?_)
  obtain ⟨rfl, rfl⟩ := hq
  refine lv_if_eq (tgt := 14) hx hb dX2_frame_7 (by decide) (fun c_1 => ?_) (fun c_1 => ?_)
  · skip
    have c_1 : ¬ ((0 : Int32).toInt ≤ (p0 : Int32).toInt ∧ (p0 : Int32).toInt ≤ (3 : Int32).toInt) := pI_0.mp c_1
    have c_1 : ¬ ((0 : Int) ≤ p0.toInt ∧ p0.toInt ≤ (3 : Int)) := mt (in_c rfl (show (0 : Int32).toInt = (0 : Int) from by decide) (show (3 : Int32).toInt = (3 : Int) from by decide)).mpr c_1
    refine lv_iconst (v := 1) hx hb dX2_frame_14 (by decide) ?_
    refine va_put (D := D) (ci := 1) (v := .int 1) (ty := .int) (C := RX2) (T := TX2) (N := 19) hx hb hts hin tyX2 tyX2_ok nmX2 hown hK hP hD hS 0 rfl rfl 1 (by decide) (hts (.fieldLink RX2 48 "HandCasesModel" "fault" "I") (by decide +kernel)) (fun _ h9 => h9) rfl (by decide +kernel) rfl rfl (Nat.le_of_ble_eq_true rfl) dX2_frame_15 (fun H locs hP hD hS => ?_)
    have hP : va_P D vwCl (WM cI cZ ad (σ, setA δ 0 0 1, w0)) H := hP
    have hD : va_D (AC ad s.heap.size) (WM cI cZ ad (σ, setA δ 0 0 1, w0)) := hD
    refine lv_aload_n hx hb dX2_frame_18 rfl (lv_at hl 0 rfl) ?_
    refine va_get (D := D) (ci := 1) (v := .int (nI 1)) (C := RX2) (T := TX2) (N := 19) hx hb hts hin hown hK hP 0 rfl rfl 1 (by decide) (hts (.fieldLink RX2 48 "HandCasesModel" "fault" "I") (by decide +kernel)) (fun _ h9 => h9) rfl dX2_frame_19 ?_
    refine lv_if_ne (tgt := 47) hx hb dX2_frame_22 (by decide) (fun c_2 => ?_) (fun c_2 => ?_)
    · skip
      have c_2 := mt (cq_eq (nI_toInt (by omega)) (show (0 : Int32).toInt = (0 : Int) from by decide)).mpr c_2
      refine lv_aload_n hx hb dX2_frame_47 rfl (lv_at hl 0 rfl) ?_
      refine va_get (D := D) (ci := 1) (v := .int (nI 1)) (C := RX2) (T := TX2) (N := 19) hx hb hts hin hown hK hP 0 rfl rfl 1 (by decide) (hts (.fieldLink RX2 48 "HandCasesModel" "fault" "I") (by decide +kernel)) (fun _ h9 => h9) rfl dX2_frame_48 ?_
      refine lv_if_le (tgt := 58) hx hb dX2_frame_51 (by decide) (fun c_3 => ?_) (fun c_3 => ?_)
      · skip
        have c_3 := (cq_le (nI_toInt (by omega)) (show (0 : Int32).toInt = (0 : Int) from by decide)).mp c_3
        exfalso; omega
      · skip
        have c_3 := mt (cq_le (nI_toInt (by omega)) (show (0 : Int32).toInt = (0 : Int) from by decide)).mpr c_3
        refine lv_iconst (v := 0) hx hb dX2_frame_54 (by decide) ?_
        refine lv_goto (tgt := 62) hx hb dX2_frame_55 (by decide) ?_
        have eo : oRow (frL σ) p0 p1 = (1, 0) := by unfold oRow; rw [if_pos (by omega)]
        exact ret_i (σ, setA δ 0 0 1, w0) hx hb hr rfl hK hlocks hP hD hS ⟨setA δ 0 0 1, w0, rfl, by rw [eo], by rw [eo]; rfl⟩ dX2_frame_62
    · skip
      have c_2 := (cq_eq (nI_toInt (by omega)) (show (0 : Int32).toInt = (0 : Int) from by decide)).mp c_2
      exfalso; omega
  · skip
    have c_1 : (0 : Int32).toInt ≤ (p0 : Int32).toInt ∧ (p0 : Int32).toInt ≤ (3 : Int32).toInt := Decidable.not_not.mp (mt pI_0.mpr c_1)
    have c_1 : (0 : Int) ≤ p0.toInt ∧ p0.toInt ≤ (3 : Int) := (in_c rfl (show (0 : Int32).toInt = (0 : Int) from by decide) (show (3 : Int32).toInt = (3 : Int) from by decide)).mp c_1
    refine lv_iconst (v := 0) hx hb dX2_frame_10 (by decide) ?_
    refine lv_goto (tgt := 15) hx hb dX2_frame_11 (by decide) ?_
    refine va_put (D := D) (ci := 1) (v := .int 0) (ty := .int) (C := RX2) (T := TX2) (N := 19) hx hb hts hin tyX2 tyX2_ok nmX2 hown hK hP hD hS 0 rfl rfl 1 (by decide) (hts (.fieldLink RX2 48 "HandCasesModel" "fault" "I") (by decide +kernel)) (fun _ h9 => h9) rfl (by decide +kernel) rfl rfl (Nat.le_of_ble_eq_true rfl) dX2_frame_15 (fun H locs hP hD hS => ?_)
    have hP : va_P D vwCl (WM cI cZ ad (σ, setA δ 0 0 0, w0)) H := hP
    have hD : va_D (AC ad s.heap.size) (WM cI cZ ad (σ, setA δ 0 0 0, w0)) := hD
    refine lv_aload_n hx hb dX2_frame_18 rfl (lv_at hl 0 rfl) ?_
    refine va_get (D := D) (ci := 1) (v := .int (nI 0)) (C := RX2) (T := TX2) (N := 19) hx hb hts hin hown hK hP 0 rfl rfl 1 (by decide) (hts (.fieldLink RX2 48 "HandCasesModel" "fault" "I") (by decide +kernel)) (fun _ h9 => h9) rfl dX2_frame_19 ?_
    refine lv_if_ne (tgt := 47) hx hb dX2_frame_22 (by decide) (fun c_4 => ?_) (fun c_4 => ?_)
    · skip
      have c_4 := mt (cq_eq (nI_toInt (by omega)) (show (0 : Int32).toInt = (0 : Int) from by decide)).mpr c_4
      exfalso; omega
    · skip
      have c_4 := (cq_eq (nI_toInt (by omega)) (show (0 : Int32).toInt = (0 : Int) from by decide)).mp c_4
      obtain ⟨c0, e_c0, -, rfl⟩ := i_nat (p := p0) (by omega)
      refine lv_aload_n hx hb dX2_frame_25 rfl (lv_at hl 0 rfl) ?_
      refine lv_iload_n hx hb dX2_frame_26 rfl (lv_at hl 1 rfl) ?_
      refine lv_iload_n hx hb dX2_frame_27 rfl (lv_at hl 2 rfl) ?_
      refine call_v (As := [.int (nI c0), .int p1]) (rest := []) WAd_m ⟨hx, hb, hml, hown, hts⟩ (c_X2_passFrame l cI cZ D ad pl tb _ σ (setA δ 0 0 0) w0 c0 p1 hI (by omega)) (cwV 2 hts gX2_frame_X2_passFrame rfl rfl rfl (by decide +kernel) ⟨Nat.le_of_ble_eq_true rfl, Nat.le_of_ble_eq_true rfl⟩) (va_recv hK hP (ci := 1) (q0 := 0) rfl rfl) hK hP hD hS hA hZ rfl rfl (Nat.le_of_ble_eq_true rfl) hl.1 dX2_frame_28 ⟨Nat.zero_le _, Nat.zero_le _⟩ (fun u H locs hq hP hD hS => ?_)
      obtain ⟨δ_5, rfl, hPs, hf0⟩ := hq
      have b_f := pick_bd hPs (fun x hx => Nat.lt_of_lt_of_le (frL_mem hI hx) (b11 hI))
      refine lv_aload_n hx hb dX2_frame_31 rfl (lv_at hl 0 rfl) ?_
      refine lv_aload_n hx hb dX2_frame_32 rfl (lv_at hl 0 rfl) ?_
      refine va_get (D := D) (ci := 1) (v := .int (mI (δ_5 4 0))) (C := RX2) (T := TX2) (N := 19) hx hb hts hin hown hK hP 0 rfl rfl 18 (by decide) (hts (.fieldLink RX2 88 "HandCasesModel" "found" "I") (by decide +kernel)) (fun _ h9 => h9) rfl dX2_frame_33 ?_
      refine lv_if_ge (tgt := 43) hx hb dX2_frame_36 (by decide) (fun c_6 => ?_) (fun c_6 => ?_)
      · skip
        have c_6 := (cq_le (show (0 : Int32).toInt = (0 : Int) from by decide) (mI_toInt (by omega))).mp c_6
        refine lv_iconst (v := 0) hx hb dX2_frame_43 (by decide) ?_
        refine va_put (D := D) (ci := 1) (v := .int 0) (ty := .int) (C := RX2) (T := TX2) (N := 19) hx hb hts hin tyX2 tyX2_ok nmX2 hown hK hP hD hS 0 rfl rfl 1 (by decide) (hts (.fieldLink RX2 48 "HandCasesModel" "fault" "I") (by decide +kernel)) (fun _ h9 => h9) rfl (by decide +kernel) rfl rfl (Nat.le_of_ble_eq_true rfl) dX2_frame_44 (fun H locs hP hD hS => ?_)
        have hP : va_P D vwCl (WM cI cZ ad (σ, setA δ_5 0 0 0, p1)) H := hP
        have hD : va_D (AC ad s.heap.size) (WM cI cZ ad (σ, setA δ_5 0 0 0, p1)) := hD
        refine lv_aload_n hx hb dX2_frame_47 rfl (lv_at hl 0 rfl) ?_
        refine va_get (D := D) (ci := 1) (v := .int (nI 0)) (C := RX2) (T := TX2) (N := 19) hx hb hts hin hown hK hP 0 rfl rfl 1 (by decide) (hts (.fieldLink RX2 48 "HandCasesModel" "fault" "I") (by decide +kernel)) (fun _ h9 => h9) rfl dX2_frame_48 ?_
        refine lv_if_le (tgt := 58) hx hb dX2_frame_51 (by decide) (fun c_7 => ?_) (fun c_7 => ?_)
        · skip
          have c_7 := (cq_le (nI_toInt (by omega)) (show (0 : Int32).toInt = (0 : Int) from by decide)).mp c_7
          refine lv_aload_n hx hb dX2_frame_58 rfl (lv_at hl 0 rfl) ?_
          refine va_get (D := D) (ci := 1) (v := .int (mI (δ_5 4 0))) (C := RX2) (T := TX2) (N := 19) hx hb hts hin hown hK hP 0 rfl rfl 18 (by decide) (hts (.fieldLink RX2 88 "HandCasesModel" "found" "I") (by decide +kernel)) (fun _ h9 => h9) rfl dX2_frame_59 ?_
          have eo : oRow (frL σ) (nI c0) p1 = (0, mI (δ_5 4 0)) := by unfold oRow; simp only [e_c0, Int.toNat_natCast]; rw [if_neg (by omega), if_pos (pickM_yes (by rw [← hPs.2.2]; omega)), hPs.2.2, pickM_I]; unfold pickI; rw [if_pos (pickM_yes (by rw [← hPs.2.2]; omega))]
          exact ret_i (σ, setA δ_5 0 0 0, p1) hx hb hr rfl hK hlocks hP hD hS ⟨setA δ_5 0 0 0, p1, rfl, by rw [eo], by rw [eo]; rfl⟩ dX2_frame_62
        · skip
          have c_7 := mt (cq_le (nI_toInt (by omega)) (show (0 : Int32).toInt = (0 : Int) from by decide)).mpr c_7
          exfalso; omega
      · skip
        have c_6 := mt (cq_le (show (0 : Int32).toInt = (0 : Int) from by decide) (mI_toInt (by omega))).mpr c_6
        refine lv_iconst (v := 2) hx hb dX2_frame_39 (by decide) ?_
        refine lv_goto (tgt := 44) hx hb dX2_frame_40 (by decide) ?_
        refine va_put (D := D) (ci := 1) (v := .int 2) (ty := .int) (C := RX2) (T := TX2) (N := 19) hx hb hts hin tyX2 tyX2_ok nmX2 hown hK hP hD hS 0 rfl rfl 1 (by decide) (hts (.fieldLink RX2 48 "HandCasesModel" "fault" "I") (by decide +kernel)) (fun _ h9 => h9) rfl (by decide +kernel) rfl rfl (Nat.le_of_ble_eq_true rfl) dX2_frame_44 (fun H locs hP hD hS => ?_)
        have hP : va_P D vwCl (WM cI cZ ad (σ, setA δ_5 0 0 2, p1)) H := hP
        have hD : va_D (AC ad s.heap.size) (WM cI cZ ad (σ, setA δ_5 0 0 2, p1)) := hD
        refine lv_aload_n hx hb dX2_frame_47 rfl (lv_at hl 0 rfl) ?_
        refine va_get (D := D) (ci := 1) (v := .int (nI 2)) (C := RX2) (T := TX2) (N := 19) hx hb hts hin hown hK hP 0 rfl rfl 1 (by decide) (hts (.fieldLink RX2 48 "HandCasesModel" "fault" "I") (by decide +kernel)) (fun _ h9 => h9) rfl dX2_frame_48 ?_
        refine lv_if_le (tgt := 58) hx hb dX2_frame_51 (by decide) (fun c_8 => ?_) (fun c_8 => ?_)
        · skip
          have c_8 := (cq_le (nI_toInt (by omega)) (show (0 : Int32).toInt = (0 : Int) from by decide)).mp c_8
          exfalso; omega
        · skip
          have c_8 := mt (cq_le (nI_toInt (by omega)) (show (0 : Int32).toInt = (0 : Int) from by decide)).mpr c_8
          refine lv_iconst (v := 0) hx hb dX2_frame_54 (by decide) ?_
          refine lv_goto (tgt := 62) hx hb dX2_frame_55 (by decide) ?_
          have eo : oRow (frL σ) (nI c0) p1 = (2, 0) := by unfold oRow; simp only [e_c0, Int.toNat_natCast]; rw [if_neg (by omega), if_neg (pickM_no (by rw [← hPs.2.2]; omega))]
          exact ret_i (σ, setA δ_5 0 0 2, p1) hx hb hr rfl hK hlocks hP hD hS ⟨setA δ_5 0 0 2, p1, rfl, by rw [eo], by rw [eo]; rfl⟩ dX2_frame_62

set_option maxHeartbeats 4000000 in
set_option maxRecDepth 100000 in
theorem c_X2_list (l : Launch) (cI cZ : ClassId) (D : va_G) (ad pl : Nat → Nat) (tb sz : Nat) (σ δ : Sg) (w0 : Int32) (p0 p1 : Int32) (hI : Inv σ) : CtI l yX2_list wsX2_list ({ frames := 7, cells := 0, slots := 0, locals := 154 }) cI cZ D ad pl tb sz (WM cI cZ ad) (σ, δ, w0) [.ref (ad 0), .int p0, .int p1] (fun r u => ∃ δ1 w1, u = (σ, δ1, w1) ∧ r = (oRow (fun c => roL σ c 3) p0 p1).2 ∧ δ1 0 0 = (oRow (fun c => roL σ c 3) p0 p1).1) := by
  refine Met.ofW (cc := cX2_list) (maxL := 3) (ret := (some .int)) (by decide) rfl ?_
  intro p e s m args below meth c s₁ B hml hv
  obtain ⟨rfl, hsz, hP, hK, hD0, hZ⟩ := hv
  have hx := B.exec
  have hb := B.bytes
  have hr := B.returns
  have hts := atoms_spec (ws := wsX2_list) B.pre
  have hown : s.vm.findClass RX2 = some m.cls := findClass_of_methodNamed B.named
  have hlocks := B.notSynchronized
  have hin : ∀ w ∈ wsX20, w ∈ wsX2_list := fun w h => List.mem_cons_of_mem _ (List.mem_append_right _ h)
  subst hsz
  have hD : va_D (AC ad s.heap.size) (WM cI cZ ad (σ, δ, w0)) := AC_self WAd_m hD0
  have hA : ∀ q : Nat, s.heap.size ≤ q → AC ad s.heap.size q := fun q h => Or.inr h
  have hS : va_S (AC ad s.heap.size) s.heap s.heap [] := va_S.rf
  have hl := lv_entry ([.ref (ad 0), .int p0, .int p1]) (n := 3) (Nat.le_of_ble_eq_true rfl)
  rw [lg_entry_eq]
  generalize (lg_sl ([.ref (ad 0), .int p0, .int p1]) ++ List.replicate (3 - (lg_sl ([.ref (ad 0), .int p0, .int p1])).length) Slot.unset).toArray = ls at hl ⊢
  have hl : lv_has ls 3 [(0, .ref (ad 0)), (1, .int p0), (2, .int p1)] := hl
  refine lv_aload_n hx hb dX2_list_0 rfl (lv_at hl 0 rfl) ?_
  refine lv_iload_n hx hb dX2_list_1 rfl (lv_at hl 1 rfl) ?_
  refine lv_iconst (v := 0) hx hb dX2_list_2 (by decide) ?_
  refine lv_iconst (v := 3) hx hb dX2_list_3 (by decide) ?_
  refine call_si (As := [.int p0, .int 0, .int 3]) (rest := [.ref (ad 0)]) WAd_m ⟨hx, hb, hml, hown, hts⟩ (c_X2_in l cI cZ D ad pl tb _ σ δ w0 p0 0 3) (va_cwS 3 hts gX2_list_X2_in rfl rfl rfl (by decide +kernel) ⟨Nat.le_of_ble_eq_true rfl, Nat.le_of_ble_eq_true rfl⟩) hK hP hD hS hA hZ rfl rfl (Nat.le_of_ble_eq_true rfl) hl.1 dX2_list_4 ⟨Nat.zero_le _, Nat.zero_le _⟩ (fun r u H locs hq hP hD hS => ?_)
  obtain ⟨rfl, rfl⟩ := hq
  refine lv_if_eq (tgt := 14) hx hb dX2_list_7 (by decide) (fun c_1 => ?_) (fun c_1 => ?_)
  · skip
    have c_1 : ¬ ((0 : Int32).toInt ≤ (p0 : Int32).toInt ∧ (p0 : Int32).toInt ≤ (3 : Int32).toInt) := pI_0.mp c_1
    have c_1 : ¬ ((0 : Int) ≤ p0.toInt ∧ p0.toInt ≤ (3 : Int)) := mt (in_c rfl (show (0 : Int32).toInt = (0 : Int) from by decide) (show (3 : Int32).toInt = (3 : Int) from by decide)).mpr c_1
    refine lv_iconst (v := 1) hx hb dX2_list_14 (by decide) ?_
    refine va_put (D := D) (ci := 1) (v := .int 1) (ty := .int) (C := RX2) (T := TX2) (N := 19) hx hb hts hin tyX2 tyX2_ok nmX2 hown hK hP hD hS 0 rfl rfl 1 (by decide) (hts (.fieldLink RX2 48 "HandCasesModel" "fault" "I") (by decide +kernel)) (fun _ h9 => h9) rfl (by decide +kernel) rfl rfl (Nat.le_of_ble_eq_true rfl) dX2_list_15 (fun H locs hP hD hS => ?_)
    have hP : va_P D vwCl (WM cI cZ ad (σ, setA δ 0 0 1, w0)) H := hP
    have hD : va_D (AC ad s.heap.size) (WM cI cZ ad (σ, setA δ 0 0 1, w0)) := hD
    refine lv_aload_n hx hb dX2_list_18 rfl (lv_at hl 0 rfl) ?_
    refine va_get (D := D) (ci := 1) (v := .int (nI 1)) (C := RX2) (T := TX2) (N := 19) hx hb hts hin hown hK hP 0 rfl rfl 1 (by decide) (hts (.fieldLink RX2 48 "HandCasesModel" "fault" "I") (by decide +kernel)) (fun _ h9 => h9) rfl dX2_list_19 ?_
    refine lv_if_ne (tgt := 47) hx hb dX2_list_22 (by decide) (fun c_2 => ?_) (fun c_2 => ?_)
    · skip
      have c_2 := mt (cq_eq (nI_toInt (by omega)) (show (0 : Int32).toInt = (0 : Int) from by decide)).mpr c_2
      refine lv_aload_n hx hb dX2_list_47 rfl (lv_at hl 0 rfl) ?_
      refine va_get (D := D) (ci := 1) (v := .int (nI 1)) (C := RX2) (T := TX2) (N := 19) hx hb hts hin hown hK hP 0 rfl rfl 1 (by decide) (hts (.fieldLink RX2 48 "HandCasesModel" "fault" "I") (by decide +kernel)) (fun _ h9 => h9) rfl dX2_list_48 ?_
      refine lv_if_le (tgt := 58) hx hb dX2_list_51 (by decide) (fun c_3 => ?_) (fun c_3 => ?_)
      · skip
        have c_3 := (cq_le (nI_toInt (by omega)) (show (0 : Int32).toInt = (0 : Int) from by decide)).mp c_3
        exfalso; omega
      · skip
        have c_3 := mt (cq_le (nI_toInt (by omega)) (show (0 : Int32).toInt = (0 : Int) from by decide)).mpr c_3
        refine lv_iconst (v := 0) hx hb dX2_list_54 (by decide) ?_
        refine lv_goto (tgt := 62) hx hb dX2_list_55 (by decide) ?_
        have eo : oRow (fun c => roL σ c 3) p0 p1 = (1, 0) := by unfold oRow; rw [if_pos (by omega)]
        exact ret_i (σ, setA δ 0 0 1, w0) hx hb hr rfl hK hlocks hP hD hS ⟨setA δ 0 0 1, w0, rfl, by rw [eo], by rw [eo]; rfl⟩ dX2_list_62
    · skip
      have c_2 := (cq_eq (nI_toInt (by omega)) (show (0 : Int32).toInt = (0 : Int) from by decide)).mp c_2
      exfalso; omega
  · skip
    have c_1 : (0 : Int32).toInt ≤ (p0 : Int32).toInt ∧ (p0 : Int32).toInt ≤ (3 : Int32).toInt := Decidable.not_not.mp (mt pI_0.mpr c_1)
    have c_1 : (0 : Int) ≤ p0.toInt ∧ p0.toInt ≤ (3 : Int) := (in_c rfl (show (0 : Int32).toInt = (0 : Int) from by decide) (show (3 : Int32).toInt = (3 : Int) from by decide)).mp c_1
    refine lv_iconst (v := 0) hx hb dX2_list_10 (by decide) ?_
    refine lv_goto (tgt := 15) hx hb dX2_list_11 (by decide) ?_
    refine va_put (D := D) (ci := 1) (v := .int 0) (ty := .int) (C := RX2) (T := TX2) (N := 19) hx hb hts hin tyX2 tyX2_ok nmX2 hown hK hP hD hS 0 rfl rfl 1 (by decide) (hts (.fieldLink RX2 48 "HandCasesModel" "fault" "I") (by decide +kernel)) (fun _ h9 => h9) rfl (by decide +kernel) rfl rfl (Nat.le_of_ble_eq_true rfl) dX2_list_15 (fun H locs hP hD hS => ?_)
    have hP : va_P D vwCl (WM cI cZ ad (σ, setA δ 0 0 0, w0)) H := hP
    have hD : va_D (AC ad s.heap.size) (WM cI cZ ad (σ, setA δ 0 0 0, w0)) := hD
    refine lv_aload_n hx hb dX2_list_18 rfl (lv_at hl 0 rfl) ?_
    refine va_get (D := D) (ci := 1) (v := .int (nI 0)) (C := RX2) (T := TX2) (N := 19) hx hb hts hin hown hK hP 0 rfl rfl 1 (by decide) (hts (.fieldLink RX2 48 "HandCasesModel" "fault" "I") (by decide +kernel)) (fun _ h9 => h9) rfl dX2_list_19 ?_
    refine lv_if_ne (tgt := 47) hx hb dX2_list_22 (by decide) (fun c_4 => ?_) (fun c_4 => ?_)
    · skip
      have c_4 := mt (cq_eq (nI_toInt (by omega)) (show (0 : Int32).toInt = (0 : Int) from by decide)).mpr c_4
      exfalso; omega
    · skip
      have c_4 := (cq_eq (nI_toInt (by omega)) (show (0 : Int32).toInt = (0 : Int) from by decide)).mp c_4
      obtain ⟨c0, e_c0, -, rfl⟩ := i_nat (p := p0) (by omega)
      refine lv_aload_n hx hb dX2_list_25 rfl (lv_at hl 0 rfl) ?_
      refine lv_iload_n hx hb dX2_list_26 rfl (lv_at hl 1 rfl) ?_
      refine lv_iload_n hx hb dX2_list_27 rfl (lv_at hl 2 rfl) ?_
      refine call_v (As := [.int (nI c0), .int p1]) (rest := []) WAd_m ⟨hx, hb, hml, hown, hts⟩ (c_X2_passList l cI cZ D ad pl tb _ σ (setA δ 0 0 0) w0 c0 p1 hI (by omega)) (cwV 2 hts gX2_list_X2_passList rfl rfl rfl (by decide +kernel) ⟨Nat.le_of_ble_eq_true rfl, Nat.le_of_ble_eq_true rfl⟩) (va_recv hK hP (ci := 1) (q0 := 0) rfl rfl) hK hP hD hS hA hZ rfl rfl (Nat.le_of_ble_eq_true rfl) hl.1 dX2_list_28 ⟨Nat.zero_le _, Nat.zero_le _⟩ (fun u H locs hq hP hD hS => ?_)
      obtain ⟨δ_5, rfl, hPs, hf0⟩ := hq
      have b_f := pick_bd hPs (fun x hx => Nat.lt_of_lt_of_le (roL_mem hI hx) (b11 hI))
      refine lv_aload_n hx hb dX2_list_31 rfl (lv_at hl 0 rfl) ?_
      refine lv_aload_n hx hb dX2_list_32 rfl (lv_at hl 0 rfl) ?_
      refine va_get (D := D) (ci := 1) (v := .int (mI (δ_5 4 0))) (C := RX2) (T := TX2) (N := 19) hx hb hts hin hown hK hP 0 rfl rfl 18 (by decide) (hts (.fieldLink RX2 88 "HandCasesModel" "found" "I") (by decide +kernel)) (fun _ h9 => h9) rfl dX2_list_33 ?_
      refine lv_if_ge (tgt := 43) hx hb dX2_list_36 (by decide) (fun c_6 => ?_) (fun c_6 => ?_)
      · skip
        have c_6 := (cq_le (show (0 : Int32).toInt = (0 : Int) from by decide) (mI_toInt (by omega))).mp c_6
        refine lv_iconst (v := 0) hx hb dX2_list_43 (by decide) ?_
        refine va_put (D := D) (ci := 1) (v := .int 0) (ty := .int) (C := RX2) (T := TX2) (N := 19) hx hb hts hin tyX2 tyX2_ok nmX2 hown hK hP hD hS 0 rfl rfl 1 (by decide) (hts (.fieldLink RX2 48 "HandCasesModel" "fault" "I") (by decide +kernel)) (fun _ h9 => h9) rfl (by decide +kernel) rfl rfl (Nat.le_of_ble_eq_true rfl) dX2_list_44 (fun H locs hP hD hS => ?_)
        have hP : va_P D vwCl (WM cI cZ ad (σ, setA δ_5 0 0 0, p1)) H := hP
        have hD : va_D (AC ad s.heap.size) (WM cI cZ ad (σ, setA δ_5 0 0 0, p1)) := hD
        refine lv_aload_n hx hb dX2_list_47 rfl (lv_at hl 0 rfl) ?_
        refine va_get (D := D) (ci := 1) (v := .int (nI 0)) (C := RX2) (T := TX2) (N := 19) hx hb hts hin hown hK hP 0 rfl rfl 1 (by decide) (hts (.fieldLink RX2 48 "HandCasesModel" "fault" "I") (by decide +kernel)) (fun _ h9 => h9) rfl dX2_list_48 ?_
        refine lv_if_le (tgt := 58) hx hb dX2_list_51 (by decide) (fun c_7 => ?_) (fun c_7 => ?_)
        · skip
          have c_7 := (cq_le (nI_toInt (by omega)) (show (0 : Int32).toInt = (0 : Int) from by decide)).mp c_7
          refine lv_aload_n hx hb dX2_list_58 rfl (lv_at hl 0 rfl) ?_
          refine va_get (D := D) (ci := 1) (v := .int (mI (δ_5 4 0))) (C := RX2) (T := TX2) (N := 19) hx hb hts hin hown hK hP 0 rfl rfl 18 (by decide) (hts (.fieldLink RX2 88 "HandCasesModel" "found" "I") (by decide +kernel)) (fun _ h9 => h9) rfl dX2_list_59 ?_
          have eo : oRow (fun c => roL σ c 3) (nI c0) p1 = (0, mI (δ_5 4 0)) := by unfold oRow; simp only [e_c0, Int.toNat_natCast]; rw [if_neg (by omega), if_pos (pickM_yes (by rw [← hPs.2.2]; omega)), hPs.2.2, pickM_I]; unfold pickI; rw [if_pos (pickM_yes (by rw [← hPs.2.2]; omega))]
          exact ret_i (σ, setA δ_5 0 0 0, p1) hx hb hr rfl hK hlocks hP hD hS ⟨setA δ_5 0 0 0, p1, rfl, by rw [eo], by rw [eo]; rfl⟩ dX2_list_62
        · skip
          have c_7 := mt (cq_le (nI_toInt (by omega)) (show (0 : Int32).toInt = (0 : Int) from by decide)).mpr c_7
          exfalso; omega
      · skip
        have c_6 := mt (cq_le (show (0 : Int32).toInt = (0 : Int) from by decide) (mI_toInt (by omega))).mpr c_6
        refine lv_iconst (v := 2) hx hb dX2_list_39 (by decide) ?_
        refine lv_goto (tgt := 44) hx hb dX2_list_40 (by decide) ?_
        refine va_put (D := D) (ci := 1) (v := .int 2) (ty := .int) (C := RX2) (T := TX2) (N := 19) hx hb hts hin tyX2 tyX2_ok nmX2 hown hK hP hD hS 0 rfl rfl 1 (by decide) (hts (.fieldLink RX2 48 "HandCasesModel" "fault" "I") (by decide +kernel)) (fun _ h9 => h9) rfl (by decide +kernel) rfl rfl (Nat.le_of_ble_eq_true rfl) dX2_list_44 (fun H locs hP hD hS => ?_)
        have hP : va_P D vwCl (WM cI cZ ad (σ, setA δ_5 0 0 2, p1)) H := hP
        have hD : va_D (AC ad s.heap.size) (WM cI cZ ad (σ, setA δ_5 0 0 2, p1)) := hD
        refine lv_aload_n hx hb dX2_list_47 rfl (lv_at hl 0 rfl) ?_
        refine va_get (D := D) (ci := 1) (v := .int (nI 2)) (C := RX2) (T := TX2) (N := 19) hx hb hts hin hown hK hP 0 rfl rfl 1 (by decide) (hts (.fieldLink RX2 48 "HandCasesModel" "fault" "I") (by decide +kernel)) (fun _ h9 => h9) rfl dX2_list_48 ?_
        refine lv_if_le (tgt := 58) hx hb dX2_list_51 (by decide) (fun c_8 => ?_) (fun c_8 => ?_)
        · skip
          have c_8 := (cq_le (nI_toInt (by omega)) (show (0 : Int32).toInt = (0 : Int) from by decide)).mp c_8
          exfalso; omega
        · skip
          have c_8 := mt (cq_le (nI_toInt (by omega)) (show (0 : Int32).toInt = (0 : Int) from by decide)).mpr c_8
          refine lv_iconst (v := 0) hx hb dX2_list_54 (by decide) ?_
          refine lv_goto (tgt := 62) hx hb dX2_list_55 (by decide) ?_
          have eo : oRow (fun c => roL σ c 3) (nI c0) p1 = (2, 0) := by unfold oRow; simp only [e_c0, Int.toNat_natCast]; rw [if_neg (by omega), if_neg (pickM_no (by rw [← hPs.2.2]; omega))]
          exact ret_i (σ, setA δ_5 0 0 2, p1) hx hb hr rfl hK hlocks hP hD hS ⟨setA δ_5 0 0 2, p1, rfl, by rw [eo], by rw [eo]; rfl⟩ dX2_list_62

set_option maxHeartbeats 4000000 in
set_option maxRecDepth 100000 in
theorem c_X2_minutes (l : Launch) (cI cZ : ClassId) (D : va_G) (ad pl : Nat → Nat) (tb sz : Nat) (σ δ : Sg) (w0 : Int32) (p0 : Int32) (hI : Inv σ) : CtI l yX2_minutes wsX2_minutes ({ frames := 7, cells := 0, slots := 0, locals := 155 }) cI cZ D ad pl tb sz (WM cI cZ ad) (σ, δ, w0) [.ref (ad 0), .int p0] (fun r u => ∃ δ1 w1, u = (σ, δ1, w1) ∧ r = (oMin σ p0).2 ∧ δ1 0 0 = (oMin σ p0).1) := by
  refine Met.ofW (cc := cX2_minutes) (maxL := 4) (ret := (some .int)) (by decide) rfl ?_
  intro p e s m args below meth c s₁ B hml hv
  obtain ⟨rfl, hsz, hP, hK, hD0, hZ⟩ := hv
  have hx := B.exec
  have hb := B.bytes
  have hr := B.returns
  have hts := atoms_spec (ws := wsX2_minutes) B.pre
  have hown : s.vm.findClass RX2 = some m.cls := findClass_of_methodNamed B.named
  have hlocks := B.notSynchronized
  have hin : ∀ w ∈ wsX20, w ∈ wsX2_minutes := fun w h => List.mem_cons_of_mem _ (List.mem_append_right _ h)
  subst hsz
  have hD : va_D (AC ad s.heap.size) (WM cI cZ ad (σ, δ, w0)) := AC_self WAd_m hD0
  have hA : ∀ q : Nat, s.heap.size ≤ q → AC ad s.heap.size q := fun q h => Or.inr h
  have hS : va_S (AC ad s.heap.size) s.heap s.heap [] := va_S.rf
  have hl := lv_entry ([.ref (ad 0), .int p0]) (n := 4) (Nat.le_of_ble_eq_true rfl)
  rw [lg_entry_eq]
  generalize (lg_sl ([.ref (ad 0), .int p0]) ++ List.replicate (4 - (lg_sl ([.ref (ad 0), .int p0])).length) Slot.unset).toArray = ls at hl ⊢
  have hl : lv_has ls 4 [(0, .ref (ad 0)), (1, .int p0)] := hl
  refine lv_aload_n hx hb dX2_minutes_0 rfl (lv_at hl 0 rfl) ?_
  refine lv_iload_n hx hb dX2_minutes_1 rfl (lv_at hl 1 rfl) ?_
  refine lv_iconst (v := 0) hx hb dX2_minutes_2 (by decide) ?_
  refine lv_iconst (v := 3) hx hb dX2_minutes_3 (by decide) ?_
  refine call_si (As := [.int p0, .int 0, .int 3]) (rest := [.ref (ad 0)]) WAd_m ⟨hx, hb, hml, hown, hts⟩ (c_X2_in l cI cZ D ad pl tb _ σ δ w0 p0 0 3) (va_cwS 3 hts gX2_minutes_X2_in rfl rfl rfl (by decide +kernel) ⟨Nat.le_of_ble_eq_true rfl, Nat.le_of_ble_eq_true rfl⟩) hK hP hD hS hA hZ rfl rfl (Nat.le_of_ble_eq_true rfl) hl.1 dX2_minutes_4 ⟨Nat.zero_le _, Nat.zero_le _⟩ (fun r u H locs hq hP hD hS => ?_)
  obtain ⟨rfl, rfl⟩ := hq
  refine lv_if_eq (tgt := 14) hx hb dX2_minutes_7 (by decide) (fun c_1 => ?_) (fun c_1 => ?_)
  · skip
    have c_1 : ¬ ((0 : Int32).toInt ≤ (p0 : Int32).toInt ∧ (p0 : Int32).toInt ≤ (3 : Int32).toInt) := pI_0.mp c_1
    have c_1 : ¬ ((0 : Int) ≤ p0.toInt ∧ p0.toInt ≤ (3 : Int)) := mt (in_c rfl (show (0 : Int32).toInt = (0 : Int) from by decide) (show (3 : Int32).toInt = (3 : Int) from by decide)).mpr c_1
    refine lv_iconst (v := 1) hx hb dX2_minutes_14 (by decide) ?_
    refine va_put (D := D) (ci := 1) (v := .int 1) (ty := .int) (C := RX2) (T := TX2) (N := 19) hx hb hts hin tyX2 tyX2_ok nmX2 hown hK hP hD hS 0 rfl rfl 1 (by decide) (hts (.fieldLink RX2 48 "HandCasesModel" "fault" "I") (by decide +kernel)) (fun _ h9 => h9) rfl (by decide +kernel) rfl rfl (Nat.le_of_ble_eq_true rfl) dX2_minutes_15 (fun H locs hP hD hS => ?_)
    have hP : va_P D vwCl (WM cI cZ ad (σ, setA δ 0 0 1, w0)) H := hP
    have hD : va_D (AC ad s.heap.size) (WM cI cZ ad (σ, setA δ 0 0 1, w0)) := hD
    refine lv_aload_n hx hb dX2_minutes_18 rfl (lv_at hl 0 rfl) ?_
    refine va_get (D := D) (ci := 1) (v := .int (nI 1)) (C := RX2) (T := TX2) (N := 19) hx hb hts hin hown hK hP 0 rfl rfl 1 (by decide) (hts (.fieldLink RX2 48 "HandCasesModel" "fault" "I") (by decide +kernel)) (fun _ h9 => h9) rfl dX2_minutes_19 ?_
    refine lv_if_le (tgt := 27) hx hb dX2_minutes_22 (by decide) (fun c_2 => ?_) (fun c_2 => ?_)
    · skip
      have c_2 := (cq_le (nI_toInt (by omega)) (show (0 : Int32).toInt = (0 : Int) from by decide)).mp c_2
      exfalso; omega
    · skip
      have c_2 := mt (cq_le (nI_toInt (by omega)) (show (0 : Int32).toInt = (0 : Int) from by decide)).mpr c_2
      refine lv_iconst (v := 0) hx hb dX2_minutes_25 (by decide) ?_
      have eo : oMin σ p0 = (1, 0) := by unfold oMin; rw [if_pos (by omega)]
      exact ret_i (σ, setA δ 0 0 1, w0) hx hb hr rfl hK hlocks hP hD hS ⟨setA δ 0 0 1, w0, rfl, by rw [eo], by rw [eo]; rfl⟩ dX2_minutes_26
  · skip
    have c_1 : (0 : Int32).toInt ≤ (p0 : Int32).toInt ∧ (p0 : Int32).toInt ≤ (3 : Int32).toInt := Decidable.not_not.mp (mt pI_0.mpr c_1)
    have c_1 : (0 : Int) ≤ p0.toInt ∧ p0.toInt ≤ (3 : Int) := (in_c rfl (show (0 : Int32).toInt = (0 : Int) from by decide) (show (3 : Int32).toInt = (3 : Int) from by decide)).mp c_1
    refine lv_iconst (v := 0) hx hb dX2_minutes_10 (by decide) ?_
    refine lv_goto (tgt := 15) hx hb dX2_minutes_11 (by decide) ?_
    refine va_put (D := D) (ci := 1) (v := .int 0) (ty := .int) (C := RX2) (T := TX2) (N := 19) hx hb hts hin tyX2 tyX2_ok nmX2 hown hK hP hD hS 0 rfl rfl 1 (by decide) (hts (.fieldLink RX2 48 "HandCasesModel" "fault" "I") (by decide +kernel)) (fun _ h9 => h9) rfl (by decide +kernel) rfl rfl (Nat.le_of_ble_eq_true rfl) dX2_minutes_15 (fun H locs hP hD hS => ?_)
    have hP : va_P D vwCl (WM cI cZ ad (σ, setA δ 0 0 0, w0)) H := hP
    have hD : va_D (AC ad s.heap.size) (WM cI cZ ad (σ, setA δ 0 0 0, w0)) := hD
    refine lv_aload_n hx hb dX2_minutes_18 rfl (lv_at hl 0 rfl) ?_
    refine va_get (D := D) (ci := 1) (v := .int (nI 0)) (C := RX2) (T := TX2) (N := 19) hx hb hts hin hown hK hP 0 rfl rfl 1 (by decide) (hts (.fieldLink RX2 48 "HandCasesModel" "fault" "I") (by decide +kernel)) (fun _ h9 => h9) rfl dX2_minutes_19 ?_
    refine lv_if_le (tgt := 27) hx hb dX2_minutes_22 (by decide) (fun c_3 => ?_) (fun c_3 => ?_)
    · skip
      have c_3 := (cq_le (nI_toInt (by omega)) (show (0 : Int32).toInt = (0 : Int) from by decide)).mp c_3
      obtain ⟨c0, e_c0, -, rfl⟩ := i_nat (p := p0) (by omega)
      have b_s := I_rs hI (c := c0) (by omega)
      have b_5 := b5 hI
      refine lv_aload_n hx hb dX2_minutes_27 rfl (lv_at hl 0 rfl) ?_
      refine lv_iload_n hx hb dX2_minutes_28 rfl (lv_at hl 1 rfl) ?_
      refine lv_iconst (v := (-1)) hx hb dX2_minutes_29 (by decide) ?_
      refine call_v (As := [.int (nI c0), .int (-1)]) (rest := []) WAd_m ⟨hx, hb, hml, hown, hts⟩ (c_X2_passFrame l cI cZ D ad pl tb _ σ (setA δ 0 0 0) w0 c0 (-1) hI (by omega)) (cwV 2 hts gX2_minutes_X2_passFrame rfl rfl rfl (by decide +kernel) ⟨Nat.le_of_ble_eq_true rfl, Nat.le_of_ble_eq_true rfl⟩) (va_recv hK hP (ci := 1) (q0 := 0) rfl rfl) hK hP hD hS hA hZ rfl rfl (Nat.le_of_ble_eq_true rfl) hl.1 dX2_minutes_30 ⟨Nat.zero_le _, Nat.zero_le _⟩ (fun u H locs hq hP hD hS => ?_)
      obtain ⟨δ_4, rfl, hPs, hf0⟩ := hq
      have hfA := hf0
      refine lv_aload_n hx hb dX2_minutes_33 rfl (lv_at hl 0 rfl) ?_
      refine va_get (D := D) (ci := 1) (v := .int (nI (δ_4 3 0))) (C := RX2) (T := TX2) (N := 19) hx hb hts hin hown hK hP 0 rfl rfl 16 (by decide) (hts (.fieldLink RX2 91 "HandCasesModel" "cost" "I") (by decide +kernel)) (fun _ h9 => h9) rfl dX2_minutes_34 ?_
      refine q_topi (nI (costL σ (frL σ c0))) (congrArg nI hPs.2.1) ?_
      refine lv_istore_n (lv' := [(2, .int (nI (costL σ (frL σ c0)))), (0, .ref (ad 0)), (1, .int (nI c0))]) hx hb dX2_minutes_37 rfl hl (by decide) rfl (fun ls hl => ?_)
      refine lv_aload_n hx hb dX2_minutes_38 rfl (lv_at hl 1 rfl) ?_
      refine lv_iload_n hx hb dX2_minutes_39 rfl (lv_at hl 2 rfl) ?_
      refine lv_iconst (v := (-1)) hx hb dX2_minutes_40 (by decide) ?_
      refine call_v (As := [.int (nI c0), .int (-1)]) (rest := []) WAd_m ⟨hx, hb, hml, hown, hts⟩ (c_X2_passList l cI cZ D ad pl tb _ σ δ_4 (-1) c0 (-1) hI (by omega)) (cwV 2 hts gX2_minutes_X2_passList rfl rfl rfl (by decide +kernel) ⟨Nat.le_of_ble_eq_true rfl, Nat.le_of_ble_eq_true rfl⟩) (va_recv hK hP (ci := 1) (q0 := 0) rfl rfl) hK hP hD hS hA hZ rfl rfl (Nat.le_of_ble_eq_true rfl) hl.1 dX2_minutes_41 ⟨Nat.zero_le _, Nat.zero_le _⟩ (fun u H locs hq hP hD hS => ?_)
      obtain ⟨δ_5, rfl, hPs, hf0⟩ := hq
      refine lv_iload_n hx hb dX2_minutes_44 rfl (lv_at hl 0 rfl) ?_
      refine lv_aload_n hx hb dX2_minutes_45 rfl (lv_at hl 1 rfl) ?_
      refine va_get (D := D) (ci := 1) (v := .int (nI (δ_5 3 0))) (C := RX2) (T := TX2) (N := 19) hx hb hts hin hown hK hP 0 rfl rfl 16 (by decide) (hts (.fieldLink RX2 91 "HandCasesModel" "cost" "I") (by decide +kernel)) (fun _ h9 => h9) rfl dX2_minutes_46 ?_
      refine q_topi (nI (costL σ (roL σ c0 3))) (congrArg nI hPs.2.1) ?_
      have hf9 := hf0
      refine lv_iadd hx hb dX2_minutes_49 ?_
      refine q_topi (nI (costL σ (frL σ c0) + costL σ (roL σ c0 3))) (nI_add _ _) ?_
      refine lv_istore_n (lv' := [(2, .int (nI (costL σ (frL σ c0) + costL σ (roL σ c0 3)))), (0, .ref (ad 0)), (1, .int (nI c0))]) hx hb dX2_minutes_50 rfl hl (by decide) rfl (fun ls hl => ?_)
      refine lv_iconst (v := 0) hx hb dX2_minutes_51 (by decide) ?_
      refine lv_istore_n (lv' := [(3, .int 0), (2, .int (nI (costL σ (frL σ c0) + costL σ (roL σ c0 3)))), (0, .ref (ad 0)), (1, .int (nI c0))]) hx hb dX2_minutes_52 rfl hl (by decide) rfl (fun ls hl => ?_)
      refine W_loop (ι := Nat × Sg × Int32) 53 (fun (x : Nat × Sg × Int32) H locs ls => (x.1 ≤ σ 13 c0) ∧ (x.2.1 0 0 = 0) ∧ va_P D vwCl (WM cI cZ ad (σ, x.2.1, x.2.2)) H ∧ va_D (AC ad s.heap.size) (WM cI cZ ad (σ, x.2.1, x.2.2)) ∧ va_S (AC ad s.heap.size) s.heap H locs ∧ lv_has ls 4 [(0, .ref (ad 0)), (1, .int (nI c0)), (2, .int (nI (costL σ (frL σ c0) + costL σ (roL σ c0 3) + sumN (f5F σ c0) x.1))), (3, .int (nI x.1))]) (fun (x : Nat × Sg × Int32) => σ 13 c0 - x.1) ?_ (0, δ_5, (-1)) _ _ _ ⟨by (try dsimp only); omega, hf9.trans hfA, hP, hD, hS, lv_as (lv_sub hl [2, 3, 1, 0] rfl) (lv_c rfl (lv_c rfl (lv_c (congrArg Value.int (congrArg nI (by rfl))) (lv_c (congrArg Value.int (by rfl)) rfl))))⟩
      intro ⟨k, δ1, w1⟩ H locs ls ⟨h1, h2, hP, hD, hS, hl⟩ ih
      dsimp only at h1 h2 hP hD hl ih
      refine lv_iload_n hx hb dX2_minutes_53 rfl (lv_at hl 3 rfl) ?_
      refine lv_aload_n hx hb dX2_minutes_54 rfl (lv_at hl 0 rfl) ?_
      refine va_get (D := D) (ci := 1) (v := .ref (ad 5)) (C := RX2) (T := TX2) (N := 19) hx hb hts hin hown hK hP 0 rfl rfl 7 (by decide) (hts (.fieldLink RX2 23 "HandCasesModel" "roundSize" "[I") (by decide +kernel)) (fun _ h9 => h9) rfl dX2_minutes_55 ?_
      refine lv_iload_n hx hb dX2_minutes_58 rfl (lv_at hl 1 rfl) ?_
      have b_6 := b13 hI c0
      refine q_iald (v := nI (σ 13 c0)) hx hb hK hP 5 0 rfl rfl c0 (nI_toInt (by omega)) (by omega) rfl dX2_minutes_59 ?_
      refine lv_icmp_ge (tgt := 121) hx hb dX2_minutes_60 (by decide) (fun c_7 => ?_) (fun c_7 => ?_)
      · skip
        have c_7 := (cq_le (nI_toInt (by omega)) (nI_toInt (by omega))).mp c_7
        refine lv_iload_n hx hb dX2_minutes_121 rfl (lv_at hl 2 rfl) ?_
        refine lv_bipush (v := 59) hx hb dX2_minutes_122 (by decide) ?_
        refine lv_iadd hx hb dX2_minutes_124 ?_
        refine q_topi (nI ((costL σ (frL σ c0) + costL σ (roL σ c0 3) + sumN (f5F σ c0) k) + 59)) (nI_add (costL σ (frL σ c0) + costL σ (roL σ c0 3) + sumN (f5F σ c0) k) 59) ?_
        refine lv_bipush (v := 60) hx hb dX2_minutes_125 (by decide) ?_
        refine lv_idiv hx hb dX2_minutes_127 (by decide) ?_
        refine q_topi (nI ((secL σ c0 + 59) / 60)) (by rw [show k = σ 13 c0 from by omega, P_min hI (by omega)]; exact pk_div (by have := secL_le hI c0; omega) (by decide) (by decide)) ?_
        have eo : oMin σ (nI c0) = (0, nI ((secL σ c0 + 59) / 60)) := by unfold oMin; simp only [e_c0, Int.toNat_natCast]; rw [if_neg (by omega)]
        exact ret_i (σ, δ1, w1) hx hb hr rfl hK hlocks hP hD hS ⟨δ1, w1, rfl, by rw [eo], by rw [eo]; exact h2⟩ dX2_minutes_128
      · skip
        have c_7 := mt (cq_le (nI_toInt (by omega)) (nI_toInt (by omega))).mpr c_7
        refine lv_aload_n hx hb dX2_minutes_63 rfl (lv_at hl 0 rfl) ?_
        refine lv_iconst (v := (-1)) hx hb dX2_minutes_64 (by decide) ?_
        refine call_v (As := [.int (-1)]) (rest := []) WAd_m ⟨hx, hb, hml, hown, hts⟩ (c_X2_begin l cI cZ D ad pl tb _ σ δ1 w1 (-1)) (cwV 1 hts gX2_minutes_X2_begin rfl rfl rfl (by decide +kernel) ⟨Nat.le_of_ble_eq_true rfl, Nat.le_of_ble_eq_true rfl⟩) (va_recv hK hP (ci := 1) (q0 := 0) rfl rfl) hK hP hD hS hA hZ rfl rfl (Nat.le_of_ble_eq_true rfl) hl.1 dX2_minutes_65 ⟨Nat.zero_le _, Nat.zero_le _⟩ (fun u H locs hq hP hD hS => ?_)
        obtain ⟨δ_8, rfl, hPs, hf0⟩ := hq
        have hfB := hf0
        refine lv_aload_n hx hb dX2_minutes_68 rfl (lv_at hl 0 rfl) ?_
        refine lv_aload_n hx hb dX2_minutes_69 rfl (lv_at hl 0 rfl) ?_
        refine va_get (D := D) (ci := 1) (v := .ref (ad 4)) (C := RX2) (T := TX2) (N := 19) hx hb hts hin hown hK hP 0 rfl rfl 6 (by decide) (hts (.fieldLink RX2 20 "HandCasesModel" "round" "[I") (by decide +kernel)) (fun _ h9 => h9) rfl dX2_minutes_70 ?_
        refine lv_bipush (v := 60) hx hb dX2_minutes_73 (by decide) ?_
        refine lv_iload_n hx hb dX2_minutes_75 rfl (lv_at hl 1 rfl) ?_
        refine lv_imul hx hb dX2_minutes_76 ?_
        refine q_topi (nI (60 * c0)) (pk_mul 60 c0) ?_
        refine lv_iload_n hx hb dX2_minutes_77 rfl (lv_at hl 3 rfl) ?_
        refine lv_iadd hx hb dX2_minutes_78 ?_
        refine q_topi (nI ((60 * c0) + k)) (nI_add (60 * c0) k) ?_
        have b_9 := b12 hI ((60 * c0) + k)
        refine q_iald (v := nI (σ 12 ((60 * c0) + k))) hx hb hK hP 4 0 rfl rfl ((60 * c0) + k) (nI_toInt (by omega)) (by omega) rfl dX2_minutes_79 ?_
        refine lv_iconst (v := 1) hx hb dX2_minutes_80 (by decide) ?_
        refine call_v (As := [.int (nI (σ 12 ((60 * c0) + k))), .int 1]) (rest := []) WAd_m ⟨hx, hb, hml, hown, hts⟩ (c_X2_passHouse l cI cZ D ad pl tb _ σ δ_8 (-1) (σ 12 ((60 * c0) + k)) 1 4 ([]) hI (by omega) goe_1 hPs (by simp)) (cwV 2 hts gX2_minutes_X2_passHouse rfl rfl rfl (by decide +kernel) ⟨Nat.le_of_ble_eq_true rfl, Nat.le_of_ble_eq_true rfl⟩) (va_recv hK hP (ci := 1) (q0 := 0) rfl rfl) hK hP hD hS hA hZ rfl rfl (Nat.le_of_ble_eq_true rfl) hl.1 dX2_minutes_81 ⟨Nat.zero_le _, Nat.zero_le _⟩ (fun u H locs hq hP hD hS => ?_)
        obtain ⟨δ_10, rfl, hPs, hf0⟩ := hq
        have hfC := hf0
        refine lv_aload_n hx hb dX2_minutes_84 rfl (lv_at hl 0 rfl) ?_
        refine lv_aload_n hx hb dX2_minutes_85 rfl (lv_at hl 0 rfl) ?_
        refine va_get (D := D) (ci := 1) (v := .ref (ad 4)) (C := RX2) (T := TX2) (N := 19) hx hb hts hin hown hK hP 0 rfl rfl 6 (by decide) (hts (.fieldLink RX2 20 "HandCasesModel" "round" "[I") (by decide +kernel)) (fun _ h9 => h9) rfl dX2_minutes_86 ?_
        refine lv_bipush (v := 60) hx hb dX2_minutes_89 (by decide) ?_
        refine lv_iload_n hx hb dX2_minutes_91 rfl (lv_at hl 1 rfl) ?_
        refine lv_imul hx hb dX2_minutes_92 ?_
        refine q_topi (nI (60 * c0)) (pk_mul 60 c0) ?_
        refine lv_iload_n hx hb dX2_minutes_93 rfl (lv_at hl 3 rfl) ?_
        refine lv_iadd hx hb dX2_minutes_94 ?_
        refine q_topi (nI ((60 * c0) + k)) (nI_add (60 * c0) k) ?_
        have b_11 := b12 hI ((60 * c0) + k)
        refine q_iald (v := nI (σ 12 ((60 * c0) + k))) hx hb hK hP 4 0 rfl rfl ((60 * c0) + k) (nI_toInt (by omega)) (by omega) rfl dX2_minutes_95 ?_
        refine lv_iconst (v := 4) hx hb dX2_minutes_96 (by decide) ?_
        refine call_v (As := [.int (nI (σ 12 ((60 * c0) + k))), .int 4]) (rest := []) WAd_m ⟨hx, hb, hml, hown, hts⟩ (c_X2_passHouse l cI cZ D ad pl tb _ σ δ_10 (-1) (σ 12 ((60 * c0) + k)) 4 3 ([] ++ hL σ (σ 12 (60 * c0 + k)) 4) hI (by omega) goe_4 hPs (by have e_q := hL_le hI (σ 12 (60 * c0 + k)) 4; rw [List.length_append, List.length_nil]; omega)) (cwV 2 hts gX2_minutes_X2_passHouse rfl rfl rfl (by decide +kernel) ⟨Nat.le_of_ble_eq_true rfl, Nat.le_of_ble_eq_true rfl⟩) (va_recv hK hP (ci := 1) (q0 := 0) rfl rfl) hK hP hD hS hA hZ rfl rfl (Nat.le_of_ble_eq_true rfl) hl.1 dX2_minutes_97 ⟨Nat.zero_le _, Nat.zero_le _⟩ (fun u H locs hq hP hD hS => ?_)
        obtain ⟨δ_12, rfl, hPs, hf0⟩ := hq
        have e_n := hPs.1
        rw [List.length_append, List.length_append, List.length_nil] at e_n
        have e_q1 := hL_le hI (σ 12 (60 * c0 + k)) 4
        have e_q2 := hL_le hI (σ 12 (60 * c0 + k)) 3
        refine lv_iload_n hx hb dX2_minutes_100 rfl (lv_at hl 2 rfl) ?_
        refine lv_aload_n hx hb dX2_minutes_101 rfl (lv_at hl 0 rfl) ?_
        refine va_get (D := D) (ci := 1) (v := .int (nI (δ_12 2 0))) (C := RX2) (T := TX2) (N := 19) hx hb hts hin hown hK hP 0 rfl rfl 15 (by decide) (hts (.fieldLink RX2 82 "HandCasesModel" "seen" "I") (by decide +kernel)) (fun _ h9 => h9) rfl dX2_minutes_102 ?_
        refine lv_if_le (tgt := 112) hx hb dX2_minutes_105 (by decide) (fun c_13 => ?_) (fun c_13 => ?_)
        · skip
          have c_13 := (cq_le (nI_toInt (by omega)) (show (0 : Int32).toInt = (0 : Int) from by decide)).mp c_13
          refine lv_iconst (v := 0) hx hb dX2_minutes_112 (by decide) ?_
          refine lv_iadd hx hb dX2_minutes_113 ?_
          refine q_topi (nI ((costL σ (frL σ c0) + costL σ (roL σ c0 3) + sumN (f5F σ c0) k) + 0)) (nI_add (costL σ (frL σ c0) + costL σ (roL σ c0 3) + sumN (f5F σ c0) k) 0) ?_
          refine lv_istore_n (lv' := [(2, .int (nI ((costL σ (frL σ c0) + costL σ (roL σ c0 3) + sumN (f5F σ c0) k) + 0))), (0, .ref (ad 0)), (1, .int (nI c0)), (3, .int (nI k))]) hx hb dX2_minutes_114 rfl hl (by decide) rfl (fun ls hl => ?_)
          refine lv_iinc (v := nI (k + 1)) (lv' := [(3, .int (nI (k + 1))), (2, .int (nI ((costL σ (frL σ c0) + costL σ (roL σ c0 3) + sumN (f5F σ c0) k) + 0))), (0, .ref (ad 0)), (1, .int (nI c0))]) hx hb dX2_minutes_115 hl (k := 3) rfl (nI_add k 1) (by decide) rfl (fun ls hl => ?_)
          refine lv_goto (tgt := 53) hx hb dX2_minutes_118 (by decide) ?_
          exact ih (k + 1, δ_12, (-1)) _ _ _ ⟨by (try dsimp only); omega, hf0.trans (hfC.trans (hfB.trans h2)), hP, hD, hS, lv_as (lv_sub hl [2, 3, 1, 0] rfl) (lv_c rfl (lv_c rfl (lv_c (congrArg Value.int (congrArg nI (by have e9 : f5F σ c0 k = 0 := if_neg (by omega); show _ = costL σ (frL σ c0) + costL σ (roL σ c0 3) + (sumN (f5F σ c0) k + f5F σ c0 k); omega))) (lv_c rfl rfl))))⟩ (by show σ 13 c0 - (k + 1) < σ 13 c0 - k; omega)
        · skip
          have c_13 := mt (cq_le (nI_toInt (by omega)) (show (0 : Int32).toInt = (0 : Int) from by decide)).mpr c_13
          refine lv_iconst (v := 5) hx hb dX2_minutes_108 (by decide) ?_
          refine lv_goto (tgt := 113) hx hb dX2_minutes_109 (by decide) ?_
          refine lv_iadd hx hb dX2_minutes_113 ?_
          refine q_topi (nI ((costL σ (frL σ c0) + costL σ (roL σ c0 3) + sumN (f5F σ c0) k) + 5)) (nI_add (costL σ (frL σ c0) + costL σ (roL σ c0 3) + sumN (f5F σ c0) k) 5) ?_
          refine lv_istore_n (lv' := [(2, .int (nI ((costL σ (frL σ c0) + costL σ (roL σ c0 3) + sumN (f5F σ c0) k) + 5))), (0, .ref (ad 0)), (1, .int (nI c0)), (3, .int (nI k))]) hx hb dX2_minutes_114 rfl hl (by decide) rfl (fun ls hl => ?_)
          refine lv_iinc (v := nI (k + 1)) (lv' := [(3, .int (nI (k + 1))), (2, .int (nI ((costL σ (frL σ c0) + costL σ (roL σ c0 3) + sumN (f5F σ c0) k) + 5))), (0, .ref (ad 0)), (1, .int (nI c0))]) hx hb dX2_minutes_115 hl (k := 3) rfl (nI_add k 1) (by decide) rfl (fun ls hl => ?_)
          refine lv_goto (tgt := 53) hx hb dX2_minutes_118 (by decide) ?_
          exact ih (k + 1, δ_12, (-1)) _ _ _ ⟨by (try dsimp only); omega, hf0.trans (hfC.trans (hfB.trans h2)), hP, hD, hS, lv_as (lv_sub hl [2, 3, 1, 0] rfl) (lv_c rfl (lv_c rfl (lv_c (congrArg Value.int (congrArg nI (by have e9 : f5F σ c0 k = 5 := if_pos (by omega); show _ = costL σ (frL σ c0) + costL σ (roL σ c0 3) + (sumN (f5F σ c0) k + f5F σ c0 k); omega))) (lv_c rfl rfl))))⟩ (by show σ 13 c0 - (k + 1) < σ 13 c0 - k; omega)
    · skip
      have c_3 := mt (cq_le (nI_toInt (by omega)) (show (0 : Int32).toInt = (0 : Int) from by decide)).mpr c_3
      exfalso; omega

set_option maxHeartbeats 4000000 in
set_option maxRecDepth 100000 in
theorem c_X2_teaching (l : Launch) (cI cZ : ClassId) (D : va_G) (ad pl : Nat → Nat) (tb sz : Nat) (σ δ : Sg) (w0 : Int32) (p0 p1 : Int32) (hI : Inv σ) : CtI l yX2_teaching wsX2_teaching ({ frames := 0, cells := 0, slots := 0, locals := 0 }) cI cZ D ad pl tb sz (WM cI cZ ad) (σ, δ, w0) [.ref (ad 0), .int p0, .int p1] (fun r u => ∃ δ1 w1, u = (σ, δ1, w1) ∧ r = oTeach σ p0 p1) := by
  refine Met.ofW (cc := cX2_teaching) (maxL := 8) (ret := (some .int)) (by decide) rfl ?_
  intro p e s m args below meth c s₁ B hml hv
  obtain ⟨rfl, hsz, hP, hK, hD0, hZ⟩ := hv
  have hx := B.exec
  have hb := B.bytes
  have hr := B.returns
  have hts := atoms_spec (ws := wsX2_teaching) B.pre
  have hown : s.vm.findClass RX2 = some m.cls := findClass_of_methodNamed B.named
  have hlocks := B.notSynchronized
  have hin : ∀ w ∈ wsX20, w ∈ wsX2_teaching := fun w h => List.mem_cons_of_mem _ (List.mem_append_right _ h)
  subst hsz
  have hD : va_D (AC ad s.heap.size) (WM cI cZ ad (σ, δ, w0)) := AC_self WAd_m hD0
  have hA : ∀ q : Nat, s.heap.size ≤ q → AC ad s.heap.size q := fun q h => Or.inr h
  have hS : va_S (AC ad s.heap.size) s.heap s.heap [] := va_S.rf
  have hl := lv_entry ([.ref (ad 0), .int p0, .int p1]) (n := 8) (Nat.le_of_ble_eq_true rfl)
  rw [lg_entry_eq]
  generalize (lg_sl ([.ref (ad 0), .int p0, .int p1]) ++ List.replicate (8 - (lg_sl ([.ref (ad 0), .int p0, .int p1])).length) Slot.unset).toArray = ls at hl ⊢
  have hl : lv_has ls 8 [(0, .ref (ad 0)), (1, .int p0), (2, .int p1)] := hl
  refine lv_aload_n hx hb dX2_teaching_0 rfl (lv_at hl 0 rfl) ?_
  refine lv_iconst (v := 0) hx hb dX2_teaching_1 (by decide) ?_
  refine va_put (D := D) (ci := 1) (v := .int 0) (ty := .int) (C := RX2) (T := TX2) (N := 19) hx hb hts hin tyX2 tyX2_ok nmX2 hown hK hP hD hS 0 rfl rfl 1 (by decide) (hts (.fieldLink RX2 48 "HandCasesModel" "fault" "I") (by decide +kernel)) (fun _ h9 => h9) rfl (by decide +kernel) rfl rfl (Nat.le_of_ble_eq_true rfl) dX2_teaching_2 (fun H locs hP hD hS => ?_)
  have hP : va_P D vwCl (WM cI cZ ad (σ, setA δ 0 0 0, w0)) H := hP
  have hD : va_D (AC ad s.heap.size) (WM cI cZ ad (σ, setA δ 0 0 0, w0)) := hD
  refine lv_iconst (v := 0) hx hb dX2_teaching_5 (by decide) ?_
  refine lv_istore_n (lv' := [(3, .int 0), (0, .ref (ad 0)), (1, .int p0), (2, .int p1)]) hx hb dX2_teaching_6 rfl hl (by decide) rfl (fun ls hl => ?_)
  refine lv_iconst (v := 0) hx hb dX2_teaching_7 (by decide) ?_
  refine lv_istore (lv' := [(4, .int 0), (3, .int 0), (0, .ref (ad 0)), (1, .int p0), (2, .int p1)]) hx hb dX2_teaching_8 hl (by decide) rfl (fun ls hl => ?_)
  refine W_loop (ι := Nat) 10 (fun (g : Nat) H locs ls => (g ≤ σ 0 0) ∧ (¬ (0 ≤ p0.toInt ∧ p0.toInt < ((catN (teG σ) g).length : Int))) ∧ va_P D vwCl (WM cI cZ ad (σ, setA δ 0 0 0, w0)) H ∧ va_D (AC ad s.heap.size) (WM cI cZ ad (σ, setA δ 0 0 0, w0)) ∧ va_S (AC ad s.heap.size) s.heap H locs ∧ lv_has ls 8 [(0, .ref (ad 0)), (1, .int p0), (2, .int p1), (3, .int (nI ((catN (teG σ) g).length))), (4, .int (nI g))]) (fun (g : Nat) => σ 0 0 - g) ?_ 0 _ _ _ ⟨by omega, by show ¬ (0 ≤ p0.toInt ∧ p0.toInt < (([] : List Nat).length : Int)); simp only [List.length_nil]; omega, hP, hD, hS, lv_as (lv_sub hl [2, 3, 4, 1, 0] rfl) (lv_c rfl (lv_c rfl (lv_c rfl (lv_c (congrArg Value.int (by rfl)) (lv_c (congrArg Value.int (by rfl)) rfl)))))⟩
  intro g H locs ls ⟨h1, h2, hP, hD, hS, hl⟩ ihg
  have b_0 := b0 hI
  refine lv_iload hx hb dX2_teaching_10 (lv_at hl 4 rfl) ?_
  refine lv_aload_n hx hb dX2_teaching_12 rfl (lv_at hl 0 rfl) ?_
  refine va_get (D := D) (ci := 1) (v := .int (nI (σ 0 0))) (C := RX2) (T := TX2) (N := 19) hx hb hts hin hown hK hP 0 rfl rfl 0 (by decide) (hts (.fieldLink RX2 44 "HandCasesModel" "holes" "I") (by decide +kernel)) (fun _ h9 => h9) rfl dX2_teaching_13 ?_
  have b_1 := b0 hI
  refine lv_icmp_ge (tgt := 131) hx hb dX2_teaching_16 (by decide) (fun c_2 => ?_) (fun c_2 => ?_)
  · skip
    have c_2 := (cq_le (nI_toInt (by omega)) (nI_toInt (by omega))).mp c_2
    refine lv_iconst (v := (-1)) hx hb dX2_teaching_131 (by decide) ?_
    exact ret_i (σ, setA δ 0 0 0, w0) hx hb hr rfl hK hlocks hP hD hS ⟨setA δ 0 0 0, w0, rfl, (by unfold oTeach; rw [if_neg (by rw [show teL σ = catN (teG σ) g from congrArg (catN (teG σ)) (by omega)]; exact h2)])⟩ dX2_teaching_132
  · skip
    have c_2 := mt (cq_le (nI_toInt (by omega)) (nI_toInt (by omega))).mpr c_2
    refine lv_iconst (v := 0) hx hb dX2_teaching_19 (by decide) ?_
    refine lv_istore (lv' := [(5, .int 0), (0, .ref (ad 0)), (1, .int p0), (2, .int p1), (3, .int (nI ((catN (teG σ) g).length))), (4, .int (nI g))]) hx hb dX2_teaching_20 hl (by decide) rfl (fun ls hl => ?_)
    refine W_loop (ι := Nat) 22 (fun (c : Nat) H locs ls => (c ≤ 4) ∧ (¬ (0 ≤ p0.toInt ∧ p0.toInt < ((catN (teG σ) g ++ catN (teC σ g) c).length : Int))) ∧ va_P D vwCl (WM cI cZ ad (σ, setA δ 0 0 0, w0)) H ∧ va_D (AC ad s.heap.size) (WM cI cZ ad (σ, setA δ 0 0 0, w0)) ∧ va_S (AC ad s.heap.size) s.heap H locs ∧ lv_has ls 8 [(0, .ref (ad 0)), (1, .int p0), (2, .int p1), (3, .int (nI ((catN (teG σ) g ++ catN (teC σ g) c).length))), (4, .int (nI g)), (5, .int (nI c))]) (fun (c : Nat) => 4 - c) ?_ 0 _ _ _ ⟨by omega, by show ¬ (0 ≤ p0.toInt ∧ p0.toInt < ((catN (teG σ) g ++ []).length : Int)); rw [List.append_nil]; exact h2, hP, hD, hS, lv_as (lv_sub hl [1, 2, 3, 4, 5, 0] rfl) (lv_c rfl (lv_c rfl (lv_c rfl (lv_c (congrArg Value.int (congrArg nI (by show _ = (catN (teG σ) g ++ []).length; rw [List.append_nil]))) (lv_c rfl (lv_c (congrArg Value.int (by rfl)) rfl))))))⟩
    intro c H locs ls ⟨h3, h4, hP, hD, hS, hl⟩ ihc
    refine lv_iload hx hb dX2_teaching_22 (lv_at hl 5 rfl) ?_
    refine lv_iconst (v := 4) hx hb dX2_teaching_24 (by decide) ?_
    refine lv_icmp_ge (tgt := 125) hx hb dX2_teaching_25 (by decide) (fun c_3 => ?_) (fun c_3 => ?_)
    · skip
      have c_3 := (cq_le (show (4 : Int32).toInt = (4 : Int) from by decide) (nI_toInt (by omega))).mp c_3
      refine lv_iinc (v := nI (g + 1)) (lv' := [(4, .int (nI (g + 1))), (0, .ref (ad 0)), (1, .int p0), (2, .int p1), (3, .int (nI ((catN (teG σ) g ++ catN (teC σ g) c).length))), (5, .int (nI c))]) hx hb dX2_teaching_125 hl (k := 4) rfl (nI_add g 1) (by decide) rfl (fun ls hl => ?_)
      refine lv_goto (tgt := 10) hx hb dX2_teaching_128 (by decide) ?_
      have hc4 : c = 4 := by omega
      exact ihg (g + 1) _ _ _ ⟨by omega, by subst hc4; exact h4, hP, hD, hS, lv_as (lv_sub hl [1, 2, 3, 4, 0] rfl) (lv_c rfl (lv_c rfl (lv_c rfl (lv_c (congrArg Value.int (congrArg nI (by subst hc4; rfl))) (lv_c rfl rfl)))))⟩ (by omega)
    · skip
      have c_3 := mt (cq_le (show (4 : Int32).toInt = (4 : Int) from by decide) (nI_toInt (by omega))).mpr c_3
      refine lv_iconst (v := 0) hx hb dX2_teaching_28 (by decide) ?_
      refine lv_istore (lv' := [(6, .int 0), (0, .ref (ad 0)), (1, .int p0), (2, .int p1), (3, .int (nI ((catN (teG σ) g ++ catN (teC σ g) c).length))), (4, .int (nI g)), (5, .int (nI c))]) hx hb dX2_teaching_29 hl (by decide) rfl (fun ls hl => ?_)
      refine W_loop (ι := Nat) 31 (fun (k : Nat) H locs ls => (k ≤ σ 13 c) ∧ (¬ (0 ≤ p0.toInt ∧ p0.toInt < ((catN (teG σ) g ++ catN (teC σ g) c ++ catN (tmK σ g c) k).length : Int))) ∧ va_P D vwCl (WM cI cZ ad (σ, setA δ 0 0 0, w0)) H ∧ va_D (AC ad s.heap.size) (WM cI cZ ad (σ, setA δ 0 0 0, w0)) ∧ va_S (AC ad s.heap.size) s.heap H locs ∧ lv_has ls 8 [(0, .ref (ad 0)), (1, .int p0), (2, .int p1), (3, .int (nI ((catN (teG σ) g ++ catN (teC σ g) c ++ catN (tmK σ g c) k).length))), (4, .int (nI g)), (5, .int (nI c)), (6, .int (nI k))]) (fun (k : Nat) => σ 13 c - k) ?_ 0 _ _ _ ⟨by omega, by show ¬ (0 ≤ p0.toInt ∧ p0.toInt < ((catN (teG σ) g ++ catN (teC σ g) c ++ []).length : Int)); rw [List.append_nil]; exact h4, hP, hD, hS, lv_as (lv_sub hl [1, 2, 3, 4, 5, 6, 0] rfl) (lv_c rfl (lv_c rfl (lv_c rfl (lv_c (congrArg Value.int (congrArg nI (by show _ = (catN (teG σ) g ++ catN (teC σ g) c ++ []).length; rw [List.append_nil]))) (lv_c rfl (lv_c rfl (lv_c (congrArg Value.int (by rfl)) rfl)))))))⟩
      intro k H locs ls ⟨h5, h6, hP, hD, hS, hl⟩ ihk
      have b_t := tm_bd hI g c k
      have b_r := b13 hI c
      have b_s := I_rs hI (c := c) (by omega)
      have b_5 := b5 hI
      refine lv_iload hx hb dX2_teaching_31 (lv_at hl 6 rfl) ?_
      refine lv_aload_n hx hb dX2_teaching_33 rfl (lv_at hl 0 rfl) ?_
      refine va_get (D := D) (ci := 1) (v := .ref (ad 5)) (C := RX2) (T := TX2) (N := 19) hx hb hts hin hown hK hP 0 rfl rfl 7 (by decide) (hts (.fieldLink RX2 23 "HandCasesModel" "roundSize" "[I") (by decide +kernel)) (fun _ h9 => h9) rfl dX2_teaching_34 ?_
      refine lv_iload hx hb dX2_teaching_37 (lv_at hl 5 rfl) ?_
      have b_4 := b13 hI c
      refine q_iald (v := nI (σ 13 c)) hx hb hK hP 5 0 rfl rfl c (nI_toInt (by omega)) (by omega) rfl dX2_teaching_39 ?_
      refine lv_icmp_ge (tgt := 119) hx hb dX2_teaching_40 (by decide) (fun c_5 => ?_) (fun c_5 => ?_)
      · skip
        have c_5 := (cq_le (nI_toInt (by omega)) (nI_toInt (by omega))).mp c_5
        refine lv_iinc (v := nI (c + 1)) (lv' := [(5, .int (nI (c + 1))), (0, .ref (ad 0)), (1, .int p0), (2, .int p1), (3, .int (nI ((catN (teG σ) g ++ catN (teC σ g) c ++ catN (tmK σ g c) k).length))), (4, .int (nI g)), (6, .int (nI k))]) hx hb dX2_teaching_119 hl (k := 5) rfl (nI_add c 1) (by decide) rfl (fun ls hl => ?_)
        refine lv_goto (tgt := 22) hx hb dX2_teaching_122 (by decide) ?_
        have hT5 : catN (tmK σ g c) k = teC σ g c := (congrArg (catN (tmK σ g c)) (by omega)).trans (P_te hI g (c := c) (by omega))
        exact ihc (c + 1) _ _ _ ⟨by omega, by rw [hT5, List.append_assoc] at h6; exact h6, hP, hD, hS, lv_as (lv_sub hl [1, 2, 3, 4, 5, 0] rfl) (lv_c rfl (lv_c rfl (lv_c rfl (lv_c (congrArg Value.int (congrArg nI (by rw [hT5]; show _ = (catN (teG σ) g ++ (catN (teC σ g) c ++ teC σ g c)).length; rw [List.append_assoc]))) (lv_c rfl (lv_c rfl rfl))))))⟩ (by omega)
      · skip
        have c_5 := mt (cq_le (nI_toInt (by omega)) (nI_toInt (by omega))).mpr c_5
        refine lv_aload_n hx hb dX2_teaching_43 rfl (lv_at hl 0 rfl) ?_
        refine va_get (D := D) (ci := 1) (v := .ref (ad 4)) (C := RX2) (T := TX2) (N := 19) hx hb hts hin hown hK hP 0 rfl rfl 6 (by decide) (hts (.fieldLink RX2 20 "HandCasesModel" "round" "[I") (by decide +kernel)) (fun _ h9 => h9) rfl dX2_teaching_44 ?_
        refine lv_bipush (v := 60) hx hb dX2_teaching_47 (by decide) ?_
        refine lv_iload hx hb dX2_teaching_49 (lv_at hl 5 rfl) ?_
        refine lv_imul hx hb dX2_teaching_51 ?_
        refine q_topi (nI (60 * c)) (pk_mul 60 c) ?_
        refine lv_iload hx hb dX2_teaching_52 (lv_at hl 6 rfl) ?_
        refine lv_iadd hx hb dX2_teaching_54 ?_
        refine q_topi (nI ((60 * c) + k)) (nI_add (60 * c) k) ?_
        have b_6 := b12 hI ((60 * c) + k)
        refine q_iald (v := nI (σ 12 ((60 * c) + k))) hx hb hK hP 4 0 rfl rfl ((60 * c) + k) (nI_toInt (by omega)) (by omega) rfl dX2_teaching_55 ?_
        refine lv_istore (lv' := [(7, .int (nI (σ 12 ((60 * c) + k)))), (0, .ref (ad 0)), (1, .int p0), (2, .int p1), (3, .int (nI ((catN (teG σ) g ++ catN (teC σ g) c ++ catN (tmK σ g c) k).length))), (4, .int (nI g)), (5, .int (nI c)), (6, .int (nI k))]) hx hb dX2_teaching_56 hl (by decide) rfl (fun ls hl => ?_)
        refine lv_aload_n hx hb dX2_teaching_58 rfl (lv_at hl 1 rfl) ?_
        refine va_get (D := D) (ci := 1) (v := .ref (ad 2)) (C := RX2) (T := TX2) (N := 19) hx hb hts hin hown hK hP 0 rfl rfl 4 (by decide) (hts (.fieldLink RX2 13 "HandCasesModel" "holeOf" "[I") (by decide +kernel)) (fun _ h9 => h9) rfl dX2_teaching_59 ?_
        refine lv_iload hx hb dX2_teaching_62 (lv_at hl 0 rfl) ?_
        have b_7 := b2 hI (σ 12 ((60 * c) + k))
        refine q_iald (v := mI (σ 2 (σ 12 ((60 * c) + k)))) hx hb hK hP 2 0 rfl rfl (σ 12 ((60 * c) + k)) (nI_toInt (by omega)) (by omega) rfl dX2_teaching_64 ?_
        refine lv_iload hx hb dX2_teaching_65 (lv_at hl 5 rfl) ?_
        refine lv_icmp_eq (tgt := 73) hx hb dX2_teaching_67 (by decide) (fun c_8 => ?_) (fun c_8 => ?_)
        · skip
          have c_8 := (cq_eq (mI_toInt (by omega)) (nI_toInt (by omega))).mp c_8
          refine lv_iload_n hx hb dX2_teaching_73 rfl (lv_at hl 4 rfl) ?_
          refine lv_iload_n hx hb dX2_teaching_74 rfl (lv_at hl 2 rfl) ?_
          refine lv_icmp_ne (tgt := 110) hx hb dX2_teaching_75 (by decide) (fun c_9 => ?_) (fun c_9 => ?_)
          · skip
            have c_9 := mt (cq_eq (nI_toInt (by omega)) rfl).mpr c_9
            refine lv_iinc (v := nI (((catN (teG σ) g ++ catN (teC σ g) c ++ catN (tmK σ g c) k).length) + 1)) (lv' := [(3, .int (nI (((catN (teG σ) g ++ catN (teC σ g) c ++ catN (tmK σ g c) k).length) + 1))), (7, .int (nI (σ 12 ((60 * c) + k)))), (0, .ref (ad 0)), (1, .int p0), (2, .int p1), (4, .int (nI g)), (5, .int (nI c)), (6, .int (nI k))]) hx hb dX2_teaching_110 hl (k := 4) rfl (nI_add ((catN (teG σ) g ++ catN (teC σ g) c ++ catN (tmK σ g c) k).length) 1) (by decide) rfl (fun ls hl => ?_)
            refine lv_iinc (v := nI (k + 1)) (lv' := [(6, .int (nI (k + 1))), (3, .int (nI (((catN (teG σ) g ++ catN (teC σ g) c ++ catN (tmK σ g c) k).length) + 1))), (7, .int (nI (σ 12 ((60 * c) + k)))), (0, .ref (ad 0)), (1, .int p0), (2, .int p1), (4, .int (nI g)), (5, .int (nI c))]) hx hb dX2_teaching_113 hl (k := 7) rfl (nI_add k 1) (by decide) rfl (fun ls hl => ?_)
            refine lv_goto (tgt := 31) hx hb dX2_teaching_116 (by decide) ?_
            exact ihk (k + 1) _ _ _ ⟨by omega, by rw [tmK_yes (by omega), ← List.append_assoc, List.length_append]; simp only [List.length_cons, List.length_nil]; omega, hP, hD, hS, lv_as (lv_sub hl [3, 4, 5, 1, 6, 7, 0] rfl) (lv_c rfl (lv_c rfl (lv_c rfl (lv_c (congrArg Value.int (congrArg nI (by rw [tmK_yes (by omega), ← List.append_assoc]; simp only [List.length_append, List.length_cons, List.length_nil, Nat.zero_add]))) (lv_c rfl (lv_c rfl (lv_c rfl rfl)))))))⟩ (by omega)
          · skip
            have c_9 := (cq_eq (nI_toInt (by omega)) rfl).mp c_9
            refine lv_iload_n hx hb dX2_teaching_78 rfl (lv_at hl 3 rfl) ?_
            refine lv_if_ne (tgt := 87) hx hb dX2_teaching_79 (by decide) (fun c_10 => ?_) (fun c_10 => ?_)
            · skip
              have c_10 := mt (cq_eq rfl (show (0 : Int32).toInt = (0 : Int) from by decide)).mpr c_10
              refine lv_iload_n hx hb dX2_teaching_87 rfl (lv_at hl 3 rfl) ?_
              refine lv_iconst (v := 1) hx hb dX2_teaching_88 (by decide) ?_
              refine lv_icmp_ne (tgt := 97) hx hb dX2_teaching_89 (by decide) (fun c_11 => ?_) (fun c_11 => ?_)
              · skip
                have c_11 := mt (cq_eq rfl (show (1 : Int32).toInt = (1 : Int) from by decide)).mpr c_11
                refine lv_iload_n hx hb dX2_teaching_97 rfl (lv_at hl 3 rfl) ?_
                refine lv_iconst (v := 2) hx hb dX2_teaching_98 (by decide) ?_
                refine lv_icmp_ne (tgt := 107) hx hb dX2_teaching_99 (by decide) (fun c_12 => ?_) (fun c_12 => ?_)
                · skip
                  have c_12 := mt (cq_eq rfl (show (2 : Int32).toInt = (2 : Int) from by decide)).mpr c_12
                  refine lv_bipush (v := (-2)) hx hb dX2_teaching_107 (by decide) ?_
                  exact ret_i (σ, setA δ 0 0 0, w0) hx hb hr rfl hK hlocks hP hD hS ⟨setA δ 0 0 0, w0, rfl, (by obtain ⟨r9, hr9⟩ := tm_split hI (g := g) (c := c) (k := k) (by omega) (by omega) (by omega) (by omega); unfold oTeach; rw [hr9, if_pos (by rw [List.length_append, List.length_append]; simp only [List.length_cons, List.length_nil]; omega), getD_at (by omega)]; unfold teV; first | done | ((repeat (first | rw [if_pos (by omega)] | rw [if_neg (by omega)])); first | done | rfl | (rfl)))⟩ dX2_teaching_109
                · skip
                  have c_12 := (cq_eq rfl (show (2 : Int32).toInt = (2 : Int) from by decide)).mp c_12
                  refine lv_iload hx hb dX2_teaching_102 (lv_at hl 6 rfl) ?_
                  refine lv_goto (tgt := 109) hx hb dX2_teaching_104 (by decide) ?_
                  exact ret_i (σ, setA δ 0 0 0, w0) hx hb hr rfl hK hlocks hP hD hS ⟨setA δ 0 0 0, w0, rfl, (by obtain ⟨r9, hr9⟩ := tm_split hI (g := g) (c := c) (k := k) (by omega) (by omega) (by omega) (by omega); unfold oTeach; rw [hr9, if_pos (by rw [List.length_append, List.length_append]; simp only [List.length_cons, List.length_nil]; omega), getD_at (by omega)]; unfold teV; first | done | ((repeat (first | rw [if_pos (by omega)] | rw [if_neg (by omega)])); first | done | rfl | (rw [I_rd hI (c := c) (k := k) (by omega) (by omega), mI_s])))⟩ dX2_teaching_109
              · skip
                have c_11 := (cq_eq rfl (show (1 : Int32).toInt = (1 : Int) from by decide)).mp c_11
                refine lv_iload hx hb dX2_teaching_92 (lv_at hl 5 rfl) ?_
                refine lv_goto (tgt := 109) hx hb dX2_teaching_94 (by decide) ?_
                exact ret_i (σ, setA δ 0 0 0, w0) hx hb hr rfl hK hlocks hP hD hS ⟨setA δ 0 0 0, w0, rfl, (by obtain ⟨r9, hr9⟩ := tm_split hI (g := g) (c := c) (k := k) (by omega) (by omega) (by omega) (by omega); unfold oTeach; rw [hr9, if_pos (by rw [List.length_append, List.length_append]; simp only [List.length_cons, List.length_nil]; omega), getD_at (by omega)]; unfold teV; first | done | ((repeat (first | rw [if_pos (by omega)] | rw [if_neg (by omega)])); first | done | rfl | (rw [show σ 2 (σ 12 (60 * c + k)) = g + 1 from by omega, mI_s])))⟩ dX2_teaching_109
            · skip
              have c_10 := (cq_eq rfl (show (0 : Int32).toInt = (0 : Int) from by decide)).mp c_10
              refine lv_iload hx hb dX2_teaching_82 (lv_at hl 0 rfl) ?_
              refine lv_goto (tgt := 109) hx hb dX2_teaching_84 (by decide) ?_
              exact ret_i (σ, setA δ 0 0 0, w0) hx hb hr rfl hK hlocks hP hD hS ⟨setA δ 0 0 0, w0, rfl, (by obtain ⟨r9, hr9⟩ := tm_split hI (g := g) (c := c) (k := k) (by omega) (by omega) (by omega) (by omega); unfold oTeach; rw [hr9, if_pos (by rw [List.length_append, List.length_append]; simp only [List.length_cons, List.length_nil]; omega), getD_at (by omega)]; unfold teV; first | done | ((repeat (first | rw [if_pos (by omega)] | rw [if_neg (by omega)])); first | done | rfl | (rfl)))⟩ dX2_teaching_109
        · skip
          have c_8 := mt (cq_eq (mI_toInt (by omega)) (nI_toInt (by omega))).mpr c_8
          refine lv_goto (tgt := 113) hx hb dX2_teaching_70 (by decide) ?_
          refine lv_iinc (v := nI (k + 1)) (lv' := [(6, .int (nI (k + 1))), (7, .int (nI (σ 12 ((60 * c) + k)))), (0, .ref (ad 0)), (1, .int p0), (2, .int p1), (3, .int (nI ((catN (teG σ) g ++ catN (teC σ g) c ++ catN (tmK σ g c) k).length))), (4, .int (nI g)), (5, .int (nI c))]) hx hb dX2_teaching_113 hl (k := 7) rfl (nI_add k 1) (by decide) rfl (fun ls hl => ?_)
          refine lv_goto (tgt := 31) hx hb dX2_teaching_116 (by decide) ?_
          exact ihk (k + 1) _ _ _ ⟨by omega, by rw [tmK_no (by omega)]; exact h6, hP, hD, hS, lv_as (lv_sub hl [2, 3, 4, 5, 6, 7, 0] rfl) (lv_c rfl (lv_c rfl (lv_c rfl (lv_c (congrArg Value.int (congrArg nI (by rw [tmK_no (by omega)]))) (lv_c rfl (lv_c rfl (lv_c rfl rfl)))))))⟩ (by omega)

set_option maxHeartbeats 4000000 in
set_option maxRecDepth 100000 in
theorem c_X2_count (l : Launch) (cI cZ : ClassId) (D : va_G) (ad pl : Nat → Nat) (tb sz : Nat) (σ δ : Sg) (w0 : Int32) (p0 : Int32) (hI : Inv σ) : CtI l yX2_count wsX2_count ({ frames := 8, cells := 0, slots := 0, locals := 177 }) cI cZ D ad pl tb sz (WM cI cZ ad) (σ, δ, w0) [.ref (ad 0), .int p0] (fun r u => ∃ δ1 w1, u = (σ, δ1, w1) ∧ r = (oCnt σ p0).2 ∧ δ1 0 0 = (oCnt σ p0).1) := by
  refine Met.ofW (cc := cX2_count) (maxL := 4) (ret := (some .int)) (by decide) rfl ?_
  intro p e s m args below meth c s₁ B hml hv
  obtain ⟨rfl, hsz, hP, hK, hD0, hZ⟩ := hv
  have hx := B.exec
  have hb := B.bytes
  have hr := B.returns
  have hts := atoms_spec (ws := wsX2_count) B.pre
  have hown : s.vm.findClass RX2 = some m.cls := findClass_of_methodNamed B.named
  have hlocks := B.notSynchronized
  have hin : ∀ w ∈ wsX20, w ∈ wsX2_count := fun w h => List.mem_cons_of_mem _ (List.mem_append_right _ h)
  subst hsz
  have hD : va_D (AC ad s.heap.size) (WM cI cZ ad (σ, δ, w0)) := AC_self WAd_m hD0
  have hA : ∀ q : Nat, s.heap.size ≤ q → AC ad s.heap.size q := fun q h => Or.inr h
  have hS : va_S (AC ad s.heap.size) s.heap s.heap [] := va_S.rf
  have hl := lv_entry ([.ref (ad 0), .int p0]) (n := 4) (Nat.le_of_ble_eq_true rfl)
  rw [lg_entry_eq]
  generalize (lg_sl ([.ref (ad 0), .int p0]) ++ List.replicate (4 - (lg_sl ([.ref (ad 0), .int p0])).length) Slot.unset).toArray = ls at hl ⊢
  have hl : lv_has ls 4 [(0, .ref (ad 0)), (1, .int p0)] := hl
  by_cases q_3 : p0 = 3
  · skip
    subst q_3
    refine lv_aload_n hx hb dX2_count_0 rfl (lv_at hl 0 rfl) ?_
    refine lv_iload_n hx hb dX2_count_1 rfl (lv_at hl 1 rfl) ?_
    refine lv_iconst (v := 0) hx hb dX2_count_2 (by decide) ?_
    refine lv_bipush (v := 8) hx hb dX2_count_3 (by decide) ?_
    refine call_si (As := [.int 3, .int 0, .int 8]) (rest := [.ref (ad 0)]) WAd_m ⟨hx, hb, hml, hown, hts⟩ (c_X2_in l cI cZ D ad pl tb _ σ δ w0 3 0 8) (va_cwS 3 hts gX2_count_X2_in rfl rfl rfl (by decide +kernel) ⟨Nat.le_of_ble_eq_true rfl, Nat.le_of_ble_eq_true rfl⟩) hK hP hD hS hA hZ rfl rfl (Nat.le_of_ble_eq_true rfl) hl.1 dX2_count_5 ⟨Nat.zero_le _, Nat.zero_le _⟩ (fun r u H locs hq hP hD hS => ?_)
    obtain ⟨rfl, rfl⟩ := hq
    refine lv_if_eq (tgt := 15) hx hb dX2_count_8 (by decide) (fun c_1 => ?_) (fun c_1 => ?_)
    · skip
      have c_1 : ¬ ((0 : Int32).toInt ≤ (3 : Int32).toInt ∧ (3 : Int32).toInt ≤ (8 : Int32).toInt) := pI_0.mp c_1
      have c_1 : ¬ ((0 : Int) ≤ (3 : Int) ∧ (3 : Int) ≤ (8 : Int)) := mt (in_c (show (3 : Int32).toInt = (3 : Int) from by decide) (show (0 : Int32).toInt = (0 : Int) from by decide) (show (8 : Int32).toInt = (8 : Int) from by decide)).mpr c_1
      exfalso; omega
    · skip
      have c_1 : (0 : Int32).toInt ≤ (3 : Int32).toInt ∧ (3 : Int32).toInt ≤ (8 : Int32).toInt := Decidable.not_not.mp (mt pI_0.mpr c_1)
      have c_1 : (0 : Int) ≤ (3 : Int) ∧ (3 : Int) ≤ (8 : Int) := (in_c (show (3 : Int32).toInt = (3 : Int) from by decide) (show (0 : Int32).toInt = (0 : Int) from by decide) (show (8 : Int32).toInt = (8 : Int) from by decide)).mp c_1
      refine lv_iconst (v := 0) hx hb dX2_count_11 (by decide) ?_
      refine lv_goto (tgt := 16) hx hb dX2_count_12 (by decide) ?_
      refine va_put (D := D) (ci := 1) (v := .int 0) (ty := .int) (C := RX2) (T := TX2) (N := 19) hx hb hts hin tyX2 tyX2_ok nmX2 hown hK hP hD hS 0 rfl rfl 1 (by decide) (hts (.fieldLink RX2 48 "HandCasesModel" "fault" "I") (by decide +kernel)) (fun _ h9 => h9) rfl (by decide +kernel) rfl rfl (Nat.le_of_ble_eq_true rfl) dX2_count_16 (fun H locs hP hD hS => ?_)
      have hP : va_P D vwCl (WM cI cZ ad (σ, setA δ 0 0 0, w0)) H := hP
      have hD : va_D (AC ad s.heap.size) (WM cI cZ ad (σ, setA δ 0 0 0, w0)) := hD
      refine lv_iconst (v := 0) hx hb dX2_count_19 (by decide) ?_
      refine lv_istore_n (lv' := [(2, .int 0), (0, .ref (ad 0)), (1, .int 3)]) hx hb dX2_count_20 rfl hl (by decide) rfl (fun ls hl => ?_)
      refine lv_iconst (v := 0) hx hb dX2_count_21 (by decide) ?_
      refine lv_istore_n (lv' := [(3, .int 0), (2, .int 0), (0, .ref (ad 0)), (1, .int 3)]) hx hb dX2_count_22 rfl hl (by decide) rfl (fun ls hl => ?_)
      refine W_loop (ι := Nat) 23 (fun (i : Nat) H locs ls => (i ≤ σ 11 0) ∧ va_P D vwCl (WM cI cZ ad (σ, setA δ 0 0 0, w0)) H ∧ va_D (AC ad s.heap.size) (WM cI cZ ad (σ, setA δ 0 0 0, w0)) ∧ va_S (AC ad s.heap.size) s.heap H locs ∧ lv_has ls 4 [(0, .ref (ad 0)), (1, .int 3), (2, .int (nI (sumN (wrF σ) i))), (3, .int (nI i))]) (fun (i : Nat) => σ 11 0 - i) ?_ 0 _ _ _ ⟨by omega, hP, hD, hS, lv_as (lv_sub hl [2, 3, 1, 0] rfl) (lv_c rfl (lv_c rfl (lv_c (congrArg Value.int (by rfl)) (lv_c (congrArg Value.int (by rfl)) rfl))))⟩
      intro i H locs ls ⟨h1, hP, hD, hS, hl⟩ ih
      have b_i := b11 hI
      refine lv_iload_n hx hb dX2_count_23 rfl (lv_at hl 3 rfl) ?_
      refine lv_aload_n hx hb dX2_count_24 rfl (lv_at hl 0 rfl) ?_
      refine va_get (D := D) (ci := 1) (v := .int (nI (σ 11 0))) (C := RX2) (T := TX2) (N := 19) hx hb hts hin hown hK hP 0 rfl rfl 8 (by decide) (hts (.fieldLink RX2 55 "HandCasesModel" "items" "I") (by decide +kernel)) (fun _ h9 => h9) rfl dX2_count_25 ?_
      have b_2 := b11 hI
      refine lv_icmp_ge (tgt := 67) hx hb dX2_count_28 (by decide) (fun c_3 => ?_) (fun c_3 => ?_)
      · skip
        have c_3 := (cq_le (nI_toInt (by omega)) (nI_toInt (by omega))).mp c_3
        refine lv_iconst (v := 0) hx hb dX2_count_67 (by decide) ?_
        refine lv_istore_n (lv' := [(3, .int 0), (0, .ref (ad 0)), (1, .int 3), (2, .int (nI (sumN (wrF σ) i)))]) hx hb dX2_count_68 rfl hl (by decide) rfl (fun ls hl => ?_)
        refine lv_iload_n hx hb dX2_count_69 rfl (lv_at hl 0 rfl) ?_
        refine lv_sipush (v := 200) hx hb dX2_count_70 (by decide) ?_
        refine lv_icmp_ge (tgt := 104) hx hb dX2_count_73 (by decide) (fun c_4 => ?_) (fun c_4 => ?_)
        · skip
          have c_4 := (cq_le (show (200 : Int32).toInt = (200 : Int) from by decide) (show (0 : Int32).toInt = (0 : Int) from by decide)).mp c_4
          exfalso; omega
        · skip
          have c_4 := mt (cq_le (show (200 : Int32).toInt = (200 : Int) from by decide) (show (0 : Int32).toInt = (0 : Int) from by decide)).mpr c_4
          refine lv_iload_n hx hb dX2_count_76 rfl (lv_at hl 2 rfl) ?_
          refine lv_iconst (v := 4) hx hb dX2_count_77 (by decide) ?_
          refine lv_icmp_ne (tgt := 104) hx hb dX2_count_78 (by decide) (fun c_5 => ?_) (fun c_5 => ?_)
          · skip
            have c_5 := mt (cq_eq (show (3 : Int32).toInt = (3 : Int) from by decide) (show (4 : Int32).toInt = (4 : Int) from by decide)).mpr c_5
            refine lv_iload_n hx hb dX2_count_104 rfl (lv_at hl 2 rfl) ?_
            refine lv_iconst (v := 5) hx hb dX2_count_105 (by decide) ?_
            refine lv_icmp_ne (tgt := 114) hx hb dX2_count_106 (by decide) (fun c_6 => ?_) (fun c_6 => ?_)
            · skip
              have c_6 := mt (cq_eq (show (3 : Int32).toInt = (3 : Int) from by decide) (show (5 : Int32).toInt = (5 : Int) from by decide)).mpr c_6
              refine lv_iconst (v := 0) hx hb dX2_count_114 (by decide) ?_
              refine lv_istore_n (lv' := [(3, .int 0), (0, .ref (ad 0)), (1, .int 3), (2, .int (nI (sumN (wrF σ) i)))]) hx hb dX2_count_115 rfl hl (by decide) rfl (fun ls hl => ?_)
              refine lv_iload_n hx hb dX2_count_116 rfl (lv_at hl 0 rfl) ?_
              refine lv_iconst (v := 4) hx hb dX2_count_117 (by decide) ?_
              refine lv_icmp_ge (tgt := 146) hx hb dX2_count_118 (by decide) (fun c_7 => ?_) (fun c_7 => ?_)
              · skip
                have c_7 := (cq_le (show (4 : Int32).toInt = (4 : Int) from by decide) (show (0 : Int32).toInt = (0 : Int) from by decide)).mp c_7
                exfalso; omega
              · skip
                have c_7 := mt (cq_le (show (4 : Int32).toInt = (4 : Int) from by decide) (show (0 : Int32).toInt = (0 : Int) from by decide)).mpr c_7
                refine lv_iload_n hx hb dX2_count_121 rfl (lv_at hl 2 rfl) ?_
                refine lv_bipush (v := 6) hx hb dX2_count_122 (by decide) ?_
                refine lv_icmp_ne (tgt := 146) hx hb dX2_count_124 (by decide) (fun c_8 => ?_) (fun c_8 => ?_)
                · skip
                  have c_8 := mt (cq_eq (show (3 : Int32).toInt = (3 : Int) from by decide) (show (6 : Int32).toInt = (6 : Int) from by decide)).mpr c_8
                  refine lv_iconst (v := 0) hx hb dX2_count_146 (by decide) ?_
                  refine lv_istore_n (lv' := [(3, .int 0), (0, .ref (ad 0)), (1, .int 3), (2, .int (nI (sumN (wrF σ) i)))]) hx hb dX2_count_147 rfl hl (by decide) rfl (fun ls hl => ?_)
                  refine lv_iload_n hx hb dX2_count_148 rfl (lv_at hl 0 rfl) ?_
                  refine lv_sipush (v := 200) hx hb dX2_count_149 (by decide) ?_
                  refine lv_icmp_ge (tgt := 193) hx hb dX2_count_152 (by decide) (fun c_9 => ?_) (fun c_9 => ?_)
                  · skip
                    have c_9 := (cq_le (show (200 : Int32).toInt = (200 : Int) from by decide) (show (0 : Int32).toInt = (0 : Int) from by decide)).mp c_9
                    exfalso; omega
                  · skip
                    have c_9 := mt (cq_le (show (200 : Int32).toInt = (200 : Int) from by decide) (show (0 : Int32).toInt = (0 : Int) from by decide)).mpr c_9
                    refine lv_iload_n hx hb dX2_count_155 rfl (lv_at hl 2 rfl) ?_
                    refine lv_bipush (v := 7) hx hb dX2_count_156 (by decide) ?_
                    refine lv_icmp_ne (tgt := 193) hx hb dX2_count_158 (by decide) (fun c_10 => ?_) (fun c_10 => ?_)
                    · skip
                      have c_10 := mt (cq_eq (show (3 : Int32).toInt = (3 : Int) from by decide) (show (7 : Int32).toInt = (7 : Int) from by decide)).mpr c_10
                      refine lv_iload_n hx hb dX2_count_193 rfl (lv_at hl 2 rfl) ?_
                      refine lv_bipush (v := 8) hx hb dX2_count_194 (by decide) ?_
                      refine lv_icmp_ne (tgt := 209) hx hb dX2_count_196 (by decide) (fun c_11 => ?_) (fun c_11 => ?_)
                      · skip
                        have c_11 := mt (cq_eq (show (3 : Int32).toInt = (3 : Int) from by decide) (show (8 : Int32).toInt = (8 : Int) from by decide)).mpr c_11
                        refine lv_aload_n hx hb dX2_count_209 rfl (lv_at hl 1 rfl) ?_
                        refine va_get (D := D) (ci := 1) (v := .int (nI 0)) (C := RX2) (T := TX2) (N := 19) hx hb hts hin hown hK hP 0 rfl rfl 1 (by decide) (hts (.fieldLink RX2 48 "HandCasesModel" "fault" "I") (by decide +kernel)) (fun _ h9 => h9) rfl dX2_count_210 ?_
                        refine lv_if_le (tgt := 220) hx hb dX2_count_213 (by decide) (fun c_12 => ?_) (fun c_12 => ?_)
                        · skip
                          have c_12 := (cq_le (nI_toInt (by omega)) (show (0 : Int32).toInt = (0 : Int) from by decide)).mp c_12
                          refine lv_iload_n hx hb dX2_count_220 rfl (lv_at hl 2 rfl) ?_
                          refine lv_if_ne (tgt := 231) hx hb dX2_count_221 (by decide) (fun c_13 => ?_) (fun c_13 => ?_)
                          · skip
                            have c_13 := mt (cq_eq (show (3 : Int32).toInt = (3 : Int) from by decide) (show (0 : Int32).toInt = (0 : Int) from by decide)).mpr c_13
                            refine lv_iload_n hx hb dX2_count_231 rfl (lv_at hl 2 rfl) ?_
                            refine lv_iconst (v := 1) hx hb dX2_count_232 (by decide) ?_
                            refine lv_icmp_ne (tgt := 243) hx hb dX2_count_233 (by decide) (fun c_14 => ?_) (fun c_14 => ?_)
                            · skip
                              have c_14 := mt (cq_eq (show (3 : Int32).toInt = (3 : Int) from by decide) (show (1 : Int32).toInt = (1 : Int) from by decide)).mpr c_14
                              refine lv_iload_n hx hb dX2_count_243 rfl (lv_at hl 2 rfl) ?_
                              refine lv_iconst (v := 2) hx hb dX2_count_244 (by decide) ?_
                              refine lv_icmp_ne (tgt := 255) hx hb dX2_count_245 (by decide) (fun c_15 => ?_) (fun c_15 => ?_)
                              · skip
                                have c_15 := mt (cq_eq (show (3 : Int32).toInt = (3 : Int) from by decide) (show (2 : Int32).toInt = (2 : Int) from by decide)).mpr c_15
                                refine lv_iload_n hx hb dX2_count_255 rfl (lv_at hl 3 rfl) ?_
                                have eo : oCnt σ (3) = (0, nI (sumN (wrF σ) i)) := (oCnt_lit (k := 3) (by decide) (by decide)).trans (by show ((0 : Nat), nI (sumN (wrF σ) (σ 11 0))) = _; rw [show i = σ 11 0 from by omega])
                                exact ret_i (σ, setA δ 0 0 0, w0) hx hb hr rfl hK hlocks hP hD hS ⟨setA δ 0 0 0, w0, rfl, by rw [eo], by rw [eo]; exact rfl⟩ dX2_count_256
                              · skip
                                have c_15 := (cq_eq (show (3 : Int32).toInt = (3 : Int) from by decide) (show (2 : Int32).toInt = (2 : Int) from by decide)).mp c_15
                                exfalso; omega
                            · skip
                              have c_14 := (cq_eq (show (3 : Int32).toInt = (3 : Int) from by decide) (show (1 : Int32).toInt = (1 : Int) from by decide)).mp c_14
                              exfalso; omega
                          · skip
                            have c_13 := (cq_eq (show (3 : Int32).toInt = (3 : Int) from by decide) (show (0 : Int32).toInt = (0 : Int) from by decide)).mp c_13
                            exfalso; omega
                        · skip
                          have c_12 := mt (cq_le (nI_toInt (by omega)) (show (0 : Int32).toInt = (0 : Int) from by decide)).mpr c_12
                          exfalso; omega
                      · skip
                        have c_11 := (cq_eq (show (3 : Int32).toInt = (3 : Int) from by decide) (show (8 : Int32).toInt = (8 : Int) from by decide)).mp c_11
                        exfalso; omega
                    · skip
                      have c_10 := (cq_eq (show (3 : Int32).toInt = (3 : Int) from by decide) (show (7 : Int32).toInt = (7 : Int) from by decide)).mp c_10
                      exfalso; omega
                · skip
                  have c_8 := (cq_eq (show (3 : Int32).toInt = (3 : Int) from by decide) (show (6 : Int32).toInt = (6 : Int) from by decide)).mp c_8
                  exfalso; omega
            · skip
              have c_6 := (cq_eq (show (3 : Int32).toInt = (3 : Int) from by decide) (show (5 : Int32).toInt = (5 : Int) from by decide)).mp c_6
              exfalso; omega
          · skip
            have c_5 := (cq_eq (show (3 : Int32).toInt = (3 : Int) from by decide) (show (4 : Int32).toInt = (4 : Int) from by decide)).mp c_5
            exfalso; omega
      · skip
        have c_3 := mt (cq_le (nI_toInt (by omega)) (nI_toInt (by omega))).mpr c_3
        refine lv_iload_n hx hb dX2_count_31 rfl (lv_at hl 1 rfl) ?_
        refine lv_iconst (v := 3) hx hb dX2_count_32 (by decide) ?_
        refine lv_icmp_ne (tgt := 67) hx hb dX2_count_33 (by decide) (fun c_16 => ?_) (fun c_16 => ?_)
        · skip
          have c_16 := mt (cq_eq (show (3 : Int32).toInt = (3 : Int) from by decide) (show (3 : Int32).toInt = (3 : Int) from by decide)).mpr c_16
          exfalso; omega
        · skip
          have c_16 := (cq_eq (show (3 : Int32).toInt = (3 : Int) from by decide) (show (3 : Int32).toInt = (3 : Int) from by decide)).mp c_16
          refine lv_aload_n hx hb dX2_count_36 rfl (lv_at hl 0 rfl) ?_
          refine va_get (D := D) (ci := 1) (v := .ref (ad 10)) (C := RX2) (T := TX2) (N := 19) hx hb hts hin hown hK hP 0 rfl rfl 13 (by decide) (hts (.fieldLink RX2 38 "HandCasesModel" "before" "[I") (by decide +kernel)) (fun _ h9 => h9) rfl dX2_count_37 ?_
          refine lv_iload_n hx hb dX2_count_40 rfl (lv_at hl 3 rfl) ?_
          have b_17 := b9 hI i
          refine q_iald (v := mI (σ 9 i)) hx hb hK hP 10 0 rfl rfl i (nI_toInt (by omega)) (by omega) rfl dX2_count_41 ?_
          refine lv_if_ge (tgt := 59) hx hb dX2_count_42 (by decide) (fun c_18 => ?_) (fun c_18 => ?_)
          · skip
            have c_18 := (cq_le (show (0 : Int32).toInt = (0 : Int) from by decide) (mI_toInt (by omega))).mp c_18
            refine lv_iload_n hx hb dX2_count_59 rfl (lv_at hl 2 rfl) ?_
            refine lv_istore_n (lv' := [(2, .int (nI (sumN (wrF σ) i))), (0, .ref (ad 0)), (1, .int 3), (3, .int (nI i))]) hx hb dX2_count_60 rfl hl (by decide) rfl (fun ls hl => ?_)
            refine lv_iinc (v := nI (i + 1)) (lv' := [(3, .int (nI (i + 1))), (2, .int (nI (sumN (wrF σ) i))), (0, .ref (ad 0)), (1, .int 3)]) hx hb dX2_count_61 hl (k := 3) rfl (nI_add i 1) (by decide) rfl (fun ls hl => ?_)
            refine lv_goto (tgt := 23) hx hb dX2_count_64 (by decide) ?_
            exact ih (i + 1) _ _ _ ⟨by omega, hP, hD, hS, lv_as (lv_sub hl [2, 3, 1, 0] rfl) (lv_c rfl (lv_c rfl (lv_c (congrArg Value.int (congrArg nI (by have e9 : wrF σ i = 0 := if_neg (by omega); show _ = sumN (wrF σ) i + wrF σ i; omega))) (lv_c rfl rfl))))⟩ (by omega)
          · skip
            have c_18 := mt (cq_le (show (0 : Int32).toInt = (0 : Int) from by decide) (mI_toInt (by omega))).mpr c_18
            refine lv_aload_n hx hb dX2_count_45 rfl (lv_at hl 0 rfl) ?_
            refine lv_iload_n hx hb dX2_count_46 rfl (lv_at hl 3 rfl) ?_
            refine call_i (As := [.int (nI i)]) (rest := []) WAd_m ⟨hx, hb, hml, hown, hts⟩ (c_X2_isWrong l cI cZ D ad pl tb _ σ (setA δ 0 0 0) w0 i hI (by omega)) (cwV 1 hts gX2_count_X2_isWrong rfl rfl rfl (by decide +kernel) ⟨Nat.le_of_ble_eq_true rfl, Nat.le_of_ble_eq_true rfl⟩) (va_recv hK hP (ci := 1) (q0 := 0) rfl rfl) hK hP hD hS hA hZ rfl rfl (Nat.le_of_ble_eq_true rfl) hl.1 dX2_count_47 ⟨Nat.zero_le _, Nat.zero_le _⟩ (fun r u H locs hq hP hD hS => ?_)
            obtain ⟨rfl, rfl⟩ := hq
            refine lv_if_eq (tgt := 59) hx hb dX2_count_50 (by decide) (fun c_19 => ?_) (fun c_19 => ?_)
            · skip
              have c_19 : ¬ (hol σ i ≠ 0 ∧ hol σ i ≠ σ 2 (σ 6 i)) := pI_0.mp c_19
              refine lv_iload_n hx hb dX2_count_59 rfl (lv_at hl 2 rfl) ?_
              refine lv_istore_n (lv' := [(2, .int (nI (sumN (wrF σ) i))), (0, .ref (ad 0)), (1, .int 3), (3, .int (nI i))]) hx hb dX2_count_60 rfl hl (by decide) rfl (fun ls hl => ?_)
              refine lv_iinc (v := nI (i + 1)) (lv' := [(3, .int (nI (i + 1))), (2, .int (nI (sumN (wrF σ) i))), (0, .ref (ad 0)), (1, .int 3)]) hx hb dX2_count_61 hl (k := 3) rfl (nI_add i 1) (by decide) rfl (fun ls hl => ?_)
              refine lv_goto (tgt := 23) hx hb dX2_count_64 (by decide) ?_
              exact ih (i + 1) _ _ _ ⟨by omega, hP, hD, hS, lv_as (lv_sub hl [2, 3, 1, 0] rfl) (lv_c rfl (lv_c rfl (lv_c (congrArg Value.int (congrArg nI (by have e9 : wrF σ i = 0 := if_neg (by omega); show _ = sumN (wrF σ) i + wrF σ i; omega))) (lv_c rfl rfl))))⟩ (by omega)
            · skip
              have c_19 : hol σ i ≠ 0 ∧ hol σ i ≠ σ 2 (σ 6 i) := Decidable.not_not.mp (mt pI_0.mpr c_19)
              refine lv_iload_n hx hb dX2_count_53 rfl (lv_at hl 2 rfl) ?_
              refine lv_iconst (v := 1) hx hb dX2_count_54 (by decide) ?_
              refine lv_iadd hx hb dX2_count_55 ?_
              refine q_topi (nI ((sumN (wrF σ) i) + 1)) (nI_add (sumN (wrF σ) i) 1) ?_
              refine lv_goto (tgt := 60) hx hb dX2_count_56 (by decide) ?_
              refine lv_istore_n (lv' := [(2, .int (nI ((sumN (wrF σ) i) + 1))), (0, .ref (ad 0)), (1, .int 3), (3, .int (nI i))]) hx hb dX2_count_60 rfl hl (by decide) rfl (fun ls hl => ?_)
              refine lv_iinc (v := nI (i + 1)) (lv' := [(3, .int (nI (i + 1))), (2, .int (nI ((sumN (wrF σ) i) + 1))), (0, .ref (ad 0)), (1, .int 3)]) hx hb dX2_count_61 hl (k := 3) rfl (nI_add i 1) (by decide) rfl (fun ls hl => ?_)
              refine lv_goto (tgt := 23) hx hb dX2_count_64 (by decide) ?_
              exact ih (i + 1) _ _ _ ⟨by omega, hP, hD, hS, lv_as (lv_sub hl [2, 3, 1, 0] rfl) (lv_c rfl (lv_c rfl (lv_c (congrArg Value.int (congrArg nI (by have e9 : wrF σ i = 1 := if_pos (by omega); show _ = sumN (wrF σ) i + wrF σ i; omega))) (lv_c rfl rfl))))⟩ (by omega)
  have q_3 : ¬ p0.toInt = 3 := mt (cq_eq rfl (by decide : (3 : Int32).toInt = 3)).mpr q_3
  by_cases q_4 : p0 = 4
  · skip
    subst q_4
    refine lv_aload_n hx hb dX2_count_0 rfl (lv_at hl 0 rfl) ?_
    refine lv_iload_n hx hb dX2_count_1 rfl (lv_at hl 1 rfl) ?_
    refine lv_iconst (v := 0) hx hb dX2_count_2 (by decide) ?_
    refine lv_bipush (v := 8) hx hb dX2_count_3 (by decide) ?_
    refine call_si (As := [.int 4, .int 0, .int 8]) (rest := [.ref (ad 0)]) WAd_m ⟨hx, hb, hml, hown, hts⟩ (c_X2_in l cI cZ D ad pl tb _ σ δ w0 4 0 8) (va_cwS 3 hts gX2_count_X2_in rfl rfl rfl (by decide +kernel) ⟨Nat.le_of_ble_eq_true rfl, Nat.le_of_ble_eq_true rfl⟩) hK hP hD hS hA hZ rfl rfl (Nat.le_of_ble_eq_true rfl) hl.1 dX2_count_5 ⟨Nat.zero_le _, Nat.zero_le _⟩ (fun r u H locs hq hP hD hS => ?_)
    obtain ⟨rfl, rfl⟩ := hq
    refine lv_if_eq (tgt := 15) hx hb dX2_count_8 (by decide) (fun c_20 => ?_) (fun c_20 => ?_)
    · skip
      have c_20 : ¬ ((0 : Int32).toInt ≤ (4 : Int32).toInt ∧ (4 : Int32).toInt ≤ (8 : Int32).toInt) := pI_0.mp c_20
      have c_20 : ¬ ((0 : Int) ≤ (4 : Int) ∧ (4 : Int) ≤ (8 : Int)) := mt (in_c (show (4 : Int32).toInt = (4 : Int) from by decide) (show (0 : Int32).toInt = (0 : Int) from by decide) (show (8 : Int32).toInt = (8 : Int) from by decide)).mpr c_20
      exfalso; omega
    · skip
      have c_20 : (0 : Int32).toInt ≤ (4 : Int32).toInt ∧ (4 : Int32).toInt ≤ (8 : Int32).toInt := Decidable.not_not.mp (mt pI_0.mpr c_20)
      have c_20 : (0 : Int) ≤ (4 : Int) ∧ (4 : Int) ≤ (8 : Int) := (in_c (show (4 : Int32).toInt = (4 : Int) from by decide) (show (0 : Int32).toInt = (0 : Int) from by decide) (show (8 : Int32).toInt = (8 : Int) from by decide)).mp c_20
      refine lv_iconst (v := 0) hx hb dX2_count_11 (by decide) ?_
      refine lv_goto (tgt := 16) hx hb dX2_count_12 (by decide) ?_
      refine va_put (D := D) (ci := 1) (v := .int 0) (ty := .int) (C := RX2) (T := TX2) (N := 19) hx hb hts hin tyX2 tyX2_ok nmX2 hown hK hP hD hS 0 rfl rfl 1 (by decide) (hts (.fieldLink RX2 48 "HandCasesModel" "fault" "I") (by decide +kernel)) (fun _ h9 => h9) rfl (by decide +kernel) rfl rfl (Nat.le_of_ble_eq_true rfl) dX2_count_16 (fun H locs hP hD hS => ?_)
      have hP : va_P D vwCl (WM cI cZ ad (σ, setA δ 0 0 0, w0)) H := hP
      have hD : va_D (AC ad s.heap.size) (WM cI cZ ad (σ, setA δ 0 0 0, w0)) := hD
      refine lv_iconst (v := 0) hx hb dX2_count_19 (by decide) ?_
      refine lv_istore_n (lv' := [(2, .int 0), (0, .ref (ad 0)), (1, .int 4)]) hx hb dX2_count_20 rfl hl (by decide) rfl (fun ls hl => ?_)
      refine lv_iconst (v := 0) hx hb dX2_count_21 (by decide) ?_
      refine lv_istore_n (lv' := [(3, .int 0), (2, .int 0), (0, .ref (ad 0)), (1, .int 4)]) hx hb dX2_count_22 rfl hl (by decide) rfl (fun ls hl => ?_)
      refine lv_iload_n hx hb dX2_count_23 rfl (lv_at hl 0 rfl) ?_
      refine lv_aload_n hx hb dX2_count_24 rfl (lv_at hl 2 rfl) ?_
      refine va_get (D := D) (ci := 1) (v := .int (nI (σ 11 0))) (C := RX2) (T := TX2) (N := 19) hx hb hts hin hown hK hP 0 rfl rfl 8 (by decide) (hts (.fieldLink RX2 55 "HandCasesModel" "items" "I") (by decide +kernel)) (fun _ h9 => h9) rfl dX2_count_25 ?_
      have b_21 := b11 hI
      refine lv_icmp_ge (tgt := 67) hx hb dX2_count_28 (by decide) (fun c_22 => ?_) (fun c_22 => ?_)
      · skip
        have c_22 := (cq_le (nI_toInt (by omega)) (show (0 : Int32).toInt = (0 : Int) from by decide)).mp c_22
        refine lv_iconst (v := 0) hx hb dX2_count_67 (by decide) ?_
        refine lv_istore_n (lv' := [(3, .int 0), (2, .int 0), (0, .ref (ad 0)), (1, .int 4)]) hx hb dX2_count_68 rfl hl (by decide) rfl (fun ls hl => ?_)
        refine W_loop (ι := Nat) 69 (fun (i : Nat) H locs ls => (i ≤ 200) ∧ va_P D vwCl (WM cI cZ ad (σ, setA δ 0 0 0, w0)) H ∧ va_D (AC ad s.heap.size) (WM cI cZ ad (σ, setA δ 0 0 0, w0)) ∧ va_S (AC ad s.heap.size) s.heap H locs ∧ lv_has ls 4 [(0, .ref (ad 0)), (1, .int 4), (2, .int (nI (sumN (he2F σ) i))), (3, .int (nI i))]) (fun (i : Nat) => 200 - i) ?_ 0 _ _ _ ⟨by omega, hP, hD, hS, lv_as (lv_sub hl [2, 3, 1, 0] rfl) (lv_c rfl (lv_c rfl (lv_c (congrArg Value.int (by rfl)) (lv_c (congrArg Value.int (by rfl)) rfl))))⟩
        intro i H locs ls ⟨h1, hP, hD, hS, hl⟩ ih
        refine lv_iload_n hx hb dX2_count_69 rfl (lv_at hl 3 rfl) ?_
        refine lv_sipush (v := 200) hx hb dX2_count_70 (by decide) ?_
        refine lv_icmp_ge (tgt := 104) hx hb dX2_count_73 (by decide) (fun c_23 => ?_) (fun c_23 => ?_)
        · skip
          have c_23 := (cq_le (show (200 : Int32).toInt = (200 : Int) from by decide) (nI_toInt (by omega))).mp c_23
          refine lv_iload_n hx hb dX2_count_104 rfl (lv_at hl 1 rfl) ?_
          refine lv_iconst (v := 5) hx hb dX2_count_105 (by decide) ?_
          refine lv_icmp_ne (tgt := 114) hx hb dX2_count_106 (by decide) (fun c_24 => ?_) (fun c_24 => ?_)
          · skip
            have c_24 := mt (cq_eq (show (4 : Int32).toInt = (4 : Int) from by decide) (show (5 : Int32).toInt = (5 : Int) from by decide)).mpr c_24
            refine lv_iconst (v := 0) hx hb dX2_count_114 (by decide) ?_
            refine lv_istore_n (lv' := [(3, .int 0), (0, .ref (ad 0)), (1, .int 4), (2, .int (nI (sumN (he2F σ) i)))]) hx hb dX2_count_115 rfl hl (by decide) rfl (fun ls hl => ?_)
            refine lv_iload_n hx hb dX2_count_116 rfl (lv_at hl 0 rfl) ?_
            refine lv_iconst (v := 4) hx hb dX2_count_117 (by decide) ?_
            refine lv_icmp_ge (tgt := 146) hx hb dX2_count_118 (by decide) (fun c_25 => ?_) (fun c_25 => ?_)
            · skip
              have c_25 := (cq_le (show (4 : Int32).toInt = (4 : Int) from by decide) (show (0 : Int32).toInt = (0 : Int) from by decide)).mp c_25
              exfalso; omega
            · skip
              have c_25 := mt (cq_le (show (4 : Int32).toInt = (4 : Int) from by decide) (show (0 : Int32).toInt = (0 : Int) from by decide)).mpr c_25
              refine lv_iload_n hx hb dX2_count_121 rfl (lv_at hl 2 rfl) ?_
              refine lv_bipush (v := 6) hx hb dX2_count_122 (by decide) ?_
              refine lv_icmp_ne (tgt := 146) hx hb dX2_count_124 (by decide) (fun c_26 => ?_) (fun c_26 => ?_)
              · skip
                have c_26 := mt (cq_eq (show (4 : Int32).toInt = (4 : Int) from by decide) (show (6 : Int32).toInt = (6 : Int) from by decide)).mpr c_26
                refine lv_iconst (v := 0) hx hb dX2_count_146 (by decide) ?_
                refine lv_istore_n (lv' := [(3, .int 0), (0, .ref (ad 0)), (1, .int 4), (2, .int (nI (sumN (he2F σ) i)))]) hx hb dX2_count_147 rfl hl (by decide) rfl (fun ls hl => ?_)
                refine lv_iload_n hx hb dX2_count_148 rfl (lv_at hl 0 rfl) ?_
                refine lv_sipush (v := 200) hx hb dX2_count_149 (by decide) ?_
                refine lv_icmp_ge (tgt := 193) hx hb dX2_count_152 (by decide) (fun c_27 => ?_) (fun c_27 => ?_)
                · skip
                  have c_27 := (cq_le (show (200 : Int32).toInt = (200 : Int) from by decide) (show (0 : Int32).toInt = (0 : Int) from by decide)).mp c_27
                  exfalso; omega
                · skip
                  have c_27 := mt (cq_le (show (200 : Int32).toInt = (200 : Int) from by decide) (show (0 : Int32).toInt = (0 : Int) from by decide)).mpr c_27
                  refine lv_iload_n hx hb dX2_count_155 rfl (lv_at hl 2 rfl) ?_
                  refine lv_bipush (v := 7) hx hb dX2_count_156 (by decide) ?_
                  refine lv_icmp_ne (tgt := 193) hx hb dX2_count_158 (by decide) (fun c_28 => ?_) (fun c_28 => ?_)
                  · skip
                    have c_28 := mt (cq_eq (show (4 : Int32).toInt = (4 : Int) from by decide) (show (7 : Int32).toInt = (7 : Int) from by decide)).mpr c_28
                    refine lv_iload_n hx hb dX2_count_193 rfl (lv_at hl 2 rfl) ?_
                    refine lv_bipush (v := 8) hx hb dX2_count_194 (by decide) ?_
                    refine lv_icmp_ne (tgt := 209) hx hb dX2_count_196 (by decide) (fun c_29 => ?_) (fun c_29 => ?_)
                    · skip
                      have c_29 := mt (cq_eq (show (4 : Int32).toInt = (4 : Int) from by decide) (show (8 : Int32).toInt = (8 : Int) from by decide)).mpr c_29
                      refine lv_aload_n hx hb dX2_count_209 rfl (lv_at hl 1 rfl) ?_
                      refine va_get (D := D) (ci := 1) (v := .int (nI 0)) (C := RX2) (T := TX2) (N := 19) hx hb hts hin hown hK hP 0 rfl rfl 1 (by decide) (hts (.fieldLink RX2 48 "HandCasesModel" "fault" "I") (by decide +kernel)) (fun _ h9 => h9) rfl dX2_count_210 ?_
                      refine lv_if_le (tgt := 220) hx hb dX2_count_213 (by decide) (fun c_30 => ?_) (fun c_30 => ?_)
                      · skip
                        have c_30 := (cq_le (nI_toInt (by omega)) (show (0 : Int32).toInt = (0 : Int) from by decide)).mp c_30
                        refine lv_iload_n hx hb dX2_count_220 rfl (lv_at hl 2 rfl) ?_
                        refine lv_if_ne (tgt := 231) hx hb dX2_count_221 (by decide) (fun c_31 => ?_) (fun c_31 => ?_)
                        · skip
                          have c_31 := mt (cq_eq (show (4 : Int32).toInt = (4 : Int) from by decide) (show (0 : Int32).toInt = (0 : Int) from by decide)).mpr c_31
                          refine lv_iload_n hx hb dX2_count_231 rfl (lv_at hl 2 rfl) ?_
                          refine lv_iconst (v := 1) hx hb dX2_count_232 (by decide) ?_
                          refine lv_icmp_ne (tgt := 243) hx hb dX2_count_233 (by decide) (fun c_32 => ?_) (fun c_32 => ?_)
                          · skip
                            have c_32 := mt (cq_eq (show (4 : Int32).toInt = (4 : Int) from by decide) (show (1 : Int32).toInt = (1 : Int) from by decide)).mpr c_32
                            refine lv_iload_n hx hb dX2_count_243 rfl (lv_at hl 2 rfl) ?_
                            refine lv_iconst (v := 2) hx hb dX2_count_244 (by decide) ?_
                            refine lv_icmp_ne (tgt := 255) hx hb dX2_count_245 (by decide) (fun c_33 => ?_) (fun c_33 => ?_)
                            · skip
                              have c_33 := mt (cq_eq (show (4 : Int32).toInt = (4 : Int) from by decide) (show (2 : Int32).toInt = (2 : Int) from by decide)).mpr c_33
                              refine lv_iload_n hx hb dX2_count_255 rfl (lv_at hl 3 rfl) ?_
                              have eo : oCnt σ (4) = (0, nI (sumN (he2F σ) i)) := (oCnt_lit (k := 4) (by decide) (by decide)).trans (by show ((0 : Nat), nI (sumN (heF σ) (σ 5 0))) = _; rw [show i = 200 from by omega, P_held hI])
                              exact ret_i (σ, setA δ 0 0 0, w0) hx hb hr rfl hK hlocks hP hD hS ⟨setA δ 0 0 0, w0, rfl, by rw [eo], by rw [eo]; exact rfl⟩ dX2_count_256
                            · skip
                              have c_33 := (cq_eq (show (4 : Int32).toInt = (4 : Int) from by decide) (show (2 : Int32).toInt = (2 : Int) from by decide)).mp c_33
                              exfalso; omega
                          · skip
                            have c_32 := (cq_eq (show (4 : Int32).toInt = (4 : Int) from by decide) (show (1 : Int32).toInt = (1 : Int) from by decide)).mp c_32
                            exfalso; omega
                        · skip
                          have c_31 := (cq_eq (show (4 : Int32).toInt = (4 : Int) from by decide) (show (0 : Int32).toInt = (0 : Int) from by decide)).mp c_31
                          exfalso; omega
                      · skip
                        have c_30 := mt (cq_le (nI_toInt (by omega)) (show (0 : Int32).toInt = (0 : Int) from by decide)).mpr c_30
                        exfalso; omega
                    · skip
                      have c_29 := (cq_eq (show (4 : Int32).toInt = (4 : Int) from by decide) (show (8 : Int32).toInt = (8 : Int) from by decide)).mp c_29
                      exfalso; omega
                  · skip
                    have c_28 := (cq_eq (show (4 : Int32).toInt = (4 : Int) from by decide) (show (7 : Int32).toInt = (7 : Int) from by decide)).mp c_28
                    exfalso; omega
              · skip
                have c_26 := (cq_eq (show (4 : Int32).toInt = (4 : Int) from by decide) (show (6 : Int32).toInt = (6 : Int) from by decide)).mp c_26
                exfalso; omega
          · skip
            have c_24 := (cq_eq (show (4 : Int32).toInt = (4 : Int) from by decide) (show (5 : Int32).toInt = (5 : Int) from by decide)).mp c_24
            exfalso; omega
        · skip
          have c_23 := mt (cq_le (show (200 : Int32).toInt = (200 : Int) from by decide) (nI_toInt (by omega))).mpr c_23
          refine lv_iload_n hx hb dX2_count_76 rfl (lv_at hl 1 rfl) ?_
          refine lv_iconst (v := 4) hx hb dX2_count_77 (by decide) ?_
          refine lv_icmp_ne (tgt := 104) hx hb dX2_count_78 (by decide) (fun c_34 => ?_) (fun c_34 => ?_)
          · skip
            have c_34 := mt (cq_eq (show (4 : Int32).toInt = (4 : Int) from by decide) (show (4 : Int32).toInt = (4 : Int) from by decide)).mpr c_34
            exfalso; omega
          · skip
            have c_34 := (cq_eq (show (4 : Int32).toInt = (4 : Int) from by decide) (show (4 : Int32).toInt = (4 : Int) from by decide)).mp c_34
            refine lv_aload_n hx hb dX2_count_81 rfl (lv_at hl 0 rfl) ?_
            refine va_get (D := D) (ci := 1) (v := .ref (ad 3)) (C := RX2) (T := TX2) (N := 19) hx hb hts hin hown hK hP 0 rfl rfl 5 (by decide) (hts (.fieldLink RX2 16 "HandCasesModel" "isHeld" "[Z") (by decide +kernel)) (fun _ h9 => h9) rfl dX2_count_82 ?_
            refine lv_iload_n hx hb dX2_count_85 rfl (lv_at hl 3 rfl) ?_
            have b_35 := b3 hI i
            refine q_zald (v := nI (σ 3 i)) hx hb hK hP 3 1 rfl rfl i (nI_toInt (by omega)) (by omega) rfl dX2_count_86 ?_
            refine lv_if_eq (tgt := 96) hx hb dX2_count_87 (by decide) (fun c_36 => ?_) (fun c_36 => ?_)
            · skip
              have c_36 := (cq_eq (nI_toInt (by omega)) (show (0 : Int32).toInt = (0 : Int) from by decide)).mp c_36
              refine lv_iload_n hx hb dX2_count_96 rfl (lv_at hl 2 rfl) ?_
              refine lv_istore_n (lv' := [(2, .int (nI (sumN (he2F σ) i))), (0, .ref (ad 0)), (1, .int 4), (3, .int (nI i))]) hx hb dX2_count_97 rfl hl (by decide) rfl (fun ls hl => ?_)
              refine lv_iinc (v := nI (i + 1)) (lv' := [(3, .int (nI (i + 1))), (2, .int (nI (sumN (he2F σ) i))), (0, .ref (ad 0)), (1, .int 4)]) hx hb dX2_count_98 hl (k := 3) rfl (nI_add i 1) (by decide) rfl (fun ls hl => ?_)
              refine lv_goto (tgt := 69) hx hb dX2_count_101 (by decide) ?_
              exact ih (i + 1) _ _ _ ⟨by omega, hP, hD, hS, lv_as (lv_sub hl [2, 3, 1, 0] rfl) (lv_c rfl (lv_c rfl (lv_c (congrArg Value.int (congrArg nI (by have e9 : he2F σ i = 0 := if_pos (by omega); show _ = sumN (he2F σ) i + he2F σ i; omega))) (lv_c rfl rfl))))⟩ (by omega)
            · skip
              have c_36 := mt (cq_eq (nI_toInt (by omega)) (show (0 : Int32).toInt = (0 : Int) from by decide)).mpr c_36
              refine lv_iload_n hx hb dX2_count_90 rfl (lv_at hl 2 rfl) ?_
              refine lv_iconst (v := 1) hx hb dX2_count_91 (by decide) ?_
              refine lv_iadd hx hb dX2_count_92 ?_
              refine q_topi (nI ((sumN (he2F σ) i) + 1)) (nI_add (sumN (he2F σ) i) 1) ?_
              refine lv_goto (tgt := 97) hx hb dX2_count_93 (by decide) ?_
              refine lv_istore_n (lv' := [(2, .int (nI ((sumN (he2F σ) i) + 1))), (0, .ref (ad 0)), (1, .int 4), (3, .int (nI i))]) hx hb dX2_count_97 rfl hl (by decide) rfl (fun ls hl => ?_)
              refine lv_iinc (v := nI (i + 1)) (lv' := [(3, .int (nI (i + 1))), (2, .int (nI ((sumN (he2F σ) i) + 1))), (0, .ref (ad 0)), (1, .int 4)]) hx hb dX2_count_98 hl (k := 3) rfl (nI_add i 1) (by decide) rfl (fun ls hl => ?_)
              refine lv_goto (tgt := 69) hx hb dX2_count_101 (by decide) ?_
              exact ih (i + 1) _ _ _ ⟨by omega, hP, hD, hS, lv_as (lv_sub hl [2, 3, 1, 0] rfl) (lv_c rfl (lv_c rfl (lv_c (congrArg Value.int (congrArg nI (by have e9 : he2F σ i = 1 := if_neg (by omega); show _ = sumN (he2F σ) i + he2F σ i; omega))) (lv_c rfl rfl))))⟩ (by omega)
      · skip
        have c_22 := mt (cq_le (nI_toInt (by omega)) (show (0 : Int32).toInt = (0 : Int) from by decide)).mpr c_22
        refine lv_iload_n hx hb dX2_count_31 rfl (lv_at hl 3 rfl) ?_
        refine lv_iconst (v := 3) hx hb dX2_count_32 (by decide) ?_
        refine lv_icmp_ne (tgt := 67) hx hb dX2_count_33 (by decide) (fun c_37 => ?_) (fun c_37 => ?_)
        · skip
          have c_37 := mt (cq_eq (show (4 : Int32).toInt = (4 : Int) from by decide) (show (3 : Int32).toInt = (3 : Int) from by decide)).mpr c_37
          refine lv_iconst (v := 0) hx hb dX2_count_67 (by decide) ?_
          refine lv_istore_n (lv' := [(3, .int 0), (2, .int 0), (0, .ref (ad 0)), (1, .int 4)]) hx hb dX2_count_68 rfl hl (by decide) rfl (fun ls hl => ?_)
          refine W_loop (ι := Nat) 69 (fun (i : Nat) H locs ls => (i ≤ 200) ∧ va_P D vwCl (WM cI cZ ad (σ, setA δ 0 0 0, w0)) H ∧ va_D (AC ad s.heap.size) (WM cI cZ ad (σ, setA δ 0 0 0, w0)) ∧ va_S (AC ad s.heap.size) s.heap H locs ∧ lv_has ls 4 [(0, .ref (ad 0)), (1, .int 4), (2, .int (nI (sumN (he2F σ) i))), (3, .int (nI i))]) (fun (i : Nat) => 200 - i) ?_ 0 _ _ _ ⟨by omega, hP, hD, hS, lv_as (lv_sub hl [2, 3, 1, 0] rfl) (lv_c rfl (lv_c rfl (lv_c (congrArg Value.int (by rfl)) (lv_c (congrArg Value.int (by rfl)) rfl))))⟩
          intro i H locs ls ⟨h1, hP, hD, hS, hl⟩ ih
          refine lv_iload_n hx hb dX2_count_69 rfl (lv_at hl 3 rfl) ?_
          refine lv_sipush (v := 200) hx hb dX2_count_70 (by decide) ?_
          refine lv_icmp_ge (tgt := 104) hx hb dX2_count_73 (by decide) (fun c_38 => ?_) (fun c_38 => ?_)
          · skip
            have c_38 := (cq_le (show (200 : Int32).toInt = (200 : Int) from by decide) (nI_toInt (by omega))).mp c_38
            refine lv_iload_n hx hb dX2_count_104 rfl (lv_at hl 1 rfl) ?_
            refine lv_iconst (v := 5) hx hb dX2_count_105 (by decide) ?_
            refine lv_icmp_ne (tgt := 114) hx hb dX2_count_106 (by decide) (fun c_39 => ?_) (fun c_39 => ?_)
            · skip
              have c_39 := mt (cq_eq (show (4 : Int32).toInt = (4 : Int) from by decide) (show (5 : Int32).toInt = (5 : Int) from by decide)).mpr c_39
              refine lv_iconst (v := 0) hx hb dX2_count_114 (by decide) ?_
              refine lv_istore_n (lv' := [(3, .int 0), (0, .ref (ad 0)), (1, .int 4), (2, .int (nI (sumN (he2F σ) i)))]) hx hb dX2_count_115 rfl hl (by decide) rfl (fun ls hl => ?_)
              refine lv_iload_n hx hb dX2_count_116 rfl (lv_at hl 0 rfl) ?_
              refine lv_iconst (v := 4) hx hb dX2_count_117 (by decide) ?_
              refine lv_icmp_ge (tgt := 146) hx hb dX2_count_118 (by decide) (fun c_40 => ?_) (fun c_40 => ?_)
              · skip
                have c_40 := (cq_le (show (4 : Int32).toInt = (4 : Int) from by decide) (show (0 : Int32).toInt = (0 : Int) from by decide)).mp c_40
                exfalso; omega
              · skip
                have c_40 := mt (cq_le (show (4 : Int32).toInt = (4 : Int) from by decide) (show (0 : Int32).toInt = (0 : Int) from by decide)).mpr c_40
                refine lv_iload_n hx hb dX2_count_121 rfl (lv_at hl 2 rfl) ?_
                refine lv_bipush (v := 6) hx hb dX2_count_122 (by decide) ?_
                refine lv_icmp_ne (tgt := 146) hx hb dX2_count_124 (by decide) (fun c_41 => ?_) (fun c_41 => ?_)
                · skip
                  have c_41 := mt (cq_eq (show (4 : Int32).toInt = (4 : Int) from by decide) (show (6 : Int32).toInt = (6 : Int) from by decide)).mpr c_41
                  refine lv_iconst (v := 0) hx hb dX2_count_146 (by decide) ?_
                  refine lv_istore_n (lv' := [(3, .int 0), (0, .ref (ad 0)), (1, .int 4), (2, .int (nI (sumN (he2F σ) i)))]) hx hb dX2_count_147 rfl hl (by decide) rfl (fun ls hl => ?_)
                  refine lv_iload_n hx hb dX2_count_148 rfl (lv_at hl 0 rfl) ?_
                  refine lv_sipush (v := 200) hx hb dX2_count_149 (by decide) ?_
                  refine lv_icmp_ge (tgt := 193) hx hb dX2_count_152 (by decide) (fun c_42 => ?_) (fun c_42 => ?_)
                  · skip
                    have c_42 := (cq_le (show (200 : Int32).toInt = (200 : Int) from by decide) (show (0 : Int32).toInt = (0 : Int) from by decide)).mp c_42
                    exfalso; omega
                  · skip
                    have c_42 := mt (cq_le (show (200 : Int32).toInt = (200 : Int) from by decide) (show (0 : Int32).toInt = (0 : Int) from by decide)).mpr c_42
                    refine lv_iload_n hx hb dX2_count_155 rfl (lv_at hl 2 rfl) ?_
                    refine lv_bipush (v := 7) hx hb dX2_count_156 (by decide) ?_
                    refine lv_icmp_ne (tgt := 193) hx hb dX2_count_158 (by decide) (fun c_43 => ?_) (fun c_43 => ?_)
                    · skip
                      have c_43 := mt (cq_eq (show (4 : Int32).toInt = (4 : Int) from by decide) (show (7 : Int32).toInt = (7 : Int) from by decide)).mpr c_43
                      refine lv_iload_n hx hb dX2_count_193 rfl (lv_at hl 2 rfl) ?_
                      refine lv_bipush (v := 8) hx hb dX2_count_194 (by decide) ?_
                      refine lv_icmp_ne (tgt := 209) hx hb dX2_count_196 (by decide) (fun c_44 => ?_) (fun c_44 => ?_)
                      · skip
                        have c_44 := mt (cq_eq (show (4 : Int32).toInt = (4 : Int) from by decide) (show (8 : Int32).toInt = (8 : Int) from by decide)).mpr c_44
                        refine lv_aload_n hx hb dX2_count_209 rfl (lv_at hl 1 rfl) ?_
                        refine va_get (D := D) (ci := 1) (v := .int (nI 0)) (C := RX2) (T := TX2) (N := 19) hx hb hts hin hown hK hP 0 rfl rfl 1 (by decide) (hts (.fieldLink RX2 48 "HandCasesModel" "fault" "I") (by decide +kernel)) (fun _ h9 => h9) rfl dX2_count_210 ?_
                        refine lv_if_le (tgt := 220) hx hb dX2_count_213 (by decide) (fun c_45 => ?_) (fun c_45 => ?_)
                        · skip
                          have c_45 := (cq_le (nI_toInt (by omega)) (show (0 : Int32).toInt = (0 : Int) from by decide)).mp c_45
                          refine lv_iload_n hx hb dX2_count_220 rfl (lv_at hl 2 rfl) ?_
                          refine lv_if_ne (tgt := 231) hx hb dX2_count_221 (by decide) (fun c_46 => ?_) (fun c_46 => ?_)
                          · skip
                            have c_46 := mt (cq_eq (show (4 : Int32).toInt = (4 : Int) from by decide) (show (0 : Int32).toInt = (0 : Int) from by decide)).mpr c_46
                            refine lv_iload_n hx hb dX2_count_231 rfl (lv_at hl 2 rfl) ?_
                            refine lv_iconst (v := 1) hx hb dX2_count_232 (by decide) ?_
                            refine lv_icmp_ne (tgt := 243) hx hb dX2_count_233 (by decide) (fun c_47 => ?_) (fun c_47 => ?_)
                            · skip
                              have c_47 := mt (cq_eq (show (4 : Int32).toInt = (4 : Int) from by decide) (show (1 : Int32).toInt = (1 : Int) from by decide)).mpr c_47
                              refine lv_iload_n hx hb dX2_count_243 rfl (lv_at hl 2 rfl) ?_
                              refine lv_iconst (v := 2) hx hb dX2_count_244 (by decide) ?_
                              refine lv_icmp_ne (tgt := 255) hx hb dX2_count_245 (by decide) (fun c_48 => ?_) (fun c_48 => ?_)
                              · skip
                                have c_48 := mt (cq_eq (show (4 : Int32).toInt = (4 : Int) from by decide) (show (2 : Int32).toInt = (2 : Int) from by decide)).mpr c_48
                                refine lv_iload_n hx hb dX2_count_255 rfl (lv_at hl 3 rfl) ?_
                                have eo : oCnt σ (4) = (0, nI (sumN (he2F σ) i)) := (oCnt_lit (k := 4) (by decide) (by decide)).trans (by show ((0 : Nat), nI (sumN (heF σ) (σ 5 0))) = _; rw [show i = 200 from by omega, P_held hI])
                                exact ret_i (σ, setA δ 0 0 0, w0) hx hb hr rfl hK hlocks hP hD hS ⟨setA δ 0 0 0, w0, rfl, by rw [eo], by rw [eo]; exact rfl⟩ dX2_count_256
                              · skip
                                have c_48 := (cq_eq (show (4 : Int32).toInt = (4 : Int) from by decide) (show (2 : Int32).toInt = (2 : Int) from by decide)).mp c_48
                                exfalso; omega
                            · skip
                              have c_47 := (cq_eq (show (4 : Int32).toInt = (4 : Int) from by decide) (show (1 : Int32).toInt = (1 : Int) from by decide)).mp c_47
                              exfalso; omega
                          · skip
                            have c_46 := (cq_eq (show (4 : Int32).toInt = (4 : Int) from by decide) (show (0 : Int32).toInt = (0 : Int) from by decide)).mp c_46
                            exfalso; omega
                        · skip
                          have c_45 := mt (cq_le (nI_toInt (by omega)) (show (0 : Int32).toInt = (0 : Int) from by decide)).mpr c_45
                          exfalso; omega
                      · skip
                        have c_44 := (cq_eq (show (4 : Int32).toInt = (4 : Int) from by decide) (show (8 : Int32).toInt = (8 : Int) from by decide)).mp c_44
                        exfalso; omega
                    · skip
                      have c_43 := (cq_eq (show (4 : Int32).toInt = (4 : Int) from by decide) (show (7 : Int32).toInt = (7 : Int) from by decide)).mp c_43
                      exfalso; omega
                · skip
                  have c_41 := (cq_eq (show (4 : Int32).toInt = (4 : Int) from by decide) (show (6 : Int32).toInt = (6 : Int) from by decide)).mp c_41
                  exfalso; omega
            · skip
              have c_39 := (cq_eq (show (4 : Int32).toInt = (4 : Int) from by decide) (show (5 : Int32).toInt = (5 : Int) from by decide)).mp c_39
              exfalso; omega
          · skip
            have c_38 := mt (cq_le (show (200 : Int32).toInt = (200 : Int) from by decide) (nI_toInt (by omega))).mpr c_38
            refine lv_iload_n hx hb dX2_count_76 rfl (lv_at hl 1 rfl) ?_
            refine lv_iconst (v := 4) hx hb dX2_count_77 (by decide) ?_
            refine lv_icmp_ne (tgt := 104) hx hb dX2_count_78 (by decide) (fun c_49 => ?_) (fun c_49 => ?_)
            · skip
              have c_49 := mt (cq_eq (show (4 : Int32).toInt = (4 : Int) from by decide) (show (4 : Int32).toInt = (4 : Int) from by decide)).mpr c_49
              exfalso; omega
            · skip
              have c_49 := (cq_eq (show (4 : Int32).toInt = (4 : Int) from by decide) (show (4 : Int32).toInt = (4 : Int) from by decide)).mp c_49
              refine lv_aload_n hx hb dX2_count_81 rfl (lv_at hl 0 rfl) ?_
              refine va_get (D := D) (ci := 1) (v := .ref (ad 3)) (C := RX2) (T := TX2) (N := 19) hx hb hts hin hown hK hP 0 rfl rfl 5 (by decide) (hts (.fieldLink RX2 16 "HandCasesModel" "isHeld" "[Z") (by decide +kernel)) (fun _ h9 => h9) rfl dX2_count_82 ?_
              refine lv_iload_n hx hb dX2_count_85 rfl (lv_at hl 3 rfl) ?_
              have b_50 := b3 hI i
              refine q_zald (v := nI (σ 3 i)) hx hb hK hP 3 1 rfl rfl i (nI_toInt (by omega)) (by omega) rfl dX2_count_86 ?_
              refine lv_if_eq (tgt := 96) hx hb dX2_count_87 (by decide) (fun c_51 => ?_) (fun c_51 => ?_)
              · skip
                have c_51 := (cq_eq (nI_toInt (by omega)) (show (0 : Int32).toInt = (0 : Int) from by decide)).mp c_51
                refine lv_iload_n hx hb dX2_count_96 rfl (lv_at hl 2 rfl) ?_
                refine lv_istore_n (lv' := [(2, .int (nI (sumN (he2F σ) i))), (0, .ref (ad 0)), (1, .int 4), (3, .int (nI i))]) hx hb dX2_count_97 rfl hl (by decide) rfl (fun ls hl => ?_)
                refine lv_iinc (v := nI (i + 1)) (lv' := [(3, .int (nI (i + 1))), (2, .int (nI (sumN (he2F σ) i))), (0, .ref (ad 0)), (1, .int 4)]) hx hb dX2_count_98 hl (k := 3) rfl (nI_add i 1) (by decide) rfl (fun ls hl => ?_)
                refine lv_goto (tgt := 69) hx hb dX2_count_101 (by decide) ?_
                exact ih (i + 1) _ _ _ ⟨by omega, hP, hD, hS, lv_as (lv_sub hl [2, 3, 1, 0] rfl) (lv_c rfl (lv_c rfl (lv_c (congrArg Value.int (congrArg nI (by have e9 : he2F σ i = 0 := if_pos (by omega); show _ = sumN (he2F σ) i + he2F σ i; omega))) (lv_c rfl rfl))))⟩ (by omega)
              · skip
                have c_51 := mt (cq_eq (nI_toInt (by omega)) (show (0 : Int32).toInt = (0 : Int) from by decide)).mpr c_51
                refine lv_iload_n hx hb dX2_count_90 rfl (lv_at hl 2 rfl) ?_
                refine lv_iconst (v := 1) hx hb dX2_count_91 (by decide) ?_
                refine lv_iadd hx hb dX2_count_92 ?_
                refine q_topi (nI ((sumN (he2F σ) i) + 1)) (nI_add (sumN (he2F σ) i) 1) ?_
                refine lv_goto (tgt := 97) hx hb dX2_count_93 (by decide) ?_
                refine lv_istore_n (lv' := [(2, .int (nI ((sumN (he2F σ) i) + 1))), (0, .ref (ad 0)), (1, .int 4), (3, .int (nI i))]) hx hb dX2_count_97 rfl hl (by decide) rfl (fun ls hl => ?_)
                refine lv_iinc (v := nI (i + 1)) (lv' := [(3, .int (nI (i + 1))), (2, .int (nI ((sumN (he2F σ) i) + 1))), (0, .ref (ad 0)), (1, .int 4)]) hx hb dX2_count_98 hl (k := 3) rfl (nI_add i 1) (by decide) rfl (fun ls hl => ?_)
                refine lv_goto (tgt := 69) hx hb dX2_count_101 (by decide) ?_
                exact ih (i + 1) _ _ _ ⟨by omega, hP, hD, hS, lv_as (lv_sub hl [2, 3, 1, 0] rfl) (lv_c rfl (lv_c rfl (lv_c (congrArg Value.int (congrArg nI (by have e9 : he2F σ i = 1 := if_neg (by omega); show _ = sumN (he2F σ) i + he2F σ i; omega))) (lv_c rfl rfl))))⟩ (by omega)
        · skip
          have c_37 := (cq_eq (show (4 : Int32).toInt = (4 : Int) from by decide) (show (3 : Int32).toInt = (3 : Int) from by decide)).mp c_37
          exfalso; omega
  have q_4 : ¬ p0.toInt = 4 := mt (cq_eq rfl (by decide : (4 : Int32).toInt = 4)).mpr q_4
  by_cases q_5 : p0 = 5
  · skip
    subst q_5
    refine lv_aload_n hx hb dX2_count_0 rfl (lv_at hl 0 rfl) ?_
    refine lv_iload_n hx hb dX2_count_1 rfl (lv_at hl 1 rfl) ?_
    refine lv_iconst (v := 0) hx hb dX2_count_2 (by decide) ?_
    refine lv_bipush (v := 8) hx hb dX2_count_3 (by decide) ?_
    refine call_si (As := [.int 5, .int 0, .int 8]) (rest := [.ref (ad 0)]) WAd_m ⟨hx, hb, hml, hown, hts⟩ (c_X2_in l cI cZ D ad pl tb _ σ δ w0 5 0 8) (va_cwS 3 hts gX2_count_X2_in rfl rfl rfl (by decide +kernel) ⟨Nat.le_of_ble_eq_true rfl, Nat.le_of_ble_eq_true rfl⟩) hK hP hD hS hA hZ rfl rfl (Nat.le_of_ble_eq_true rfl) hl.1 dX2_count_5 ⟨Nat.zero_le _, Nat.zero_le _⟩ (fun r u H locs hq hP hD hS => ?_)
    obtain ⟨rfl, rfl⟩ := hq
    refine lv_if_eq (tgt := 15) hx hb dX2_count_8 (by decide) (fun c_52 => ?_) (fun c_52 => ?_)
    · skip
      have c_52 : ¬ ((0 : Int32).toInt ≤ (5 : Int32).toInt ∧ (5 : Int32).toInt ≤ (8 : Int32).toInt) := pI_0.mp c_52
      have c_52 : ¬ ((0 : Int) ≤ (5 : Int) ∧ (5 : Int) ≤ (8 : Int)) := mt (in_c (show (5 : Int32).toInt = (5 : Int) from by decide) (show (0 : Int32).toInt = (0 : Int) from by decide) (show (8 : Int32).toInt = (8 : Int) from by decide)).mpr c_52
      exfalso; omega
    · skip
      have c_52 : (0 : Int32).toInt ≤ (5 : Int32).toInt ∧ (5 : Int32).toInt ≤ (8 : Int32).toInt := Decidable.not_not.mp (mt pI_0.mpr c_52)
      have c_52 : (0 : Int) ≤ (5 : Int) ∧ (5 : Int) ≤ (8 : Int) := (in_c (show (5 : Int32).toInt = (5 : Int) from by decide) (show (0 : Int32).toInt = (0 : Int) from by decide) (show (8 : Int32).toInt = (8 : Int) from by decide)).mp c_52
      refine lv_iconst (v := 0) hx hb dX2_count_11 (by decide) ?_
      refine lv_goto (tgt := 16) hx hb dX2_count_12 (by decide) ?_
      refine va_put (D := D) (ci := 1) (v := .int 0) (ty := .int) (C := RX2) (T := TX2) (N := 19) hx hb hts hin tyX2 tyX2_ok nmX2 hown hK hP hD hS 0 rfl rfl 1 (by decide) (hts (.fieldLink RX2 48 "HandCasesModel" "fault" "I") (by decide +kernel)) (fun _ h9 => h9) rfl (by decide +kernel) rfl rfl (Nat.le_of_ble_eq_true rfl) dX2_count_16 (fun H locs hP hD hS => ?_)
      have hP : va_P D vwCl (WM cI cZ ad (σ, setA δ 0 0 0, w0)) H := hP
      have hD : va_D (AC ad s.heap.size) (WM cI cZ ad (σ, setA δ 0 0 0, w0)) := hD
      refine lv_iconst (v := 0) hx hb dX2_count_19 (by decide) ?_
      refine lv_istore_n (lv' := [(2, .int 0), (0, .ref (ad 0)), (1, .int 5)]) hx hb dX2_count_20 rfl hl (by decide) rfl (fun ls hl => ?_)
      refine lv_iconst (v := 0) hx hb dX2_count_21 (by decide) ?_
      refine lv_istore_n (lv' := [(3, .int 0), (2, .int 0), (0, .ref (ad 0)), (1, .int 5)]) hx hb dX2_count_22 rfl hl (by decide) rfl (fun ls hl => ?_)
      refine lv_iload_n hx hb dX2_count_23 rfl (lv_at hl 0 rfl) ?_
      refine lv_aload_n hx hb dX2_count_24 rfl (lv_at hl 2 rfl) ?_
      refine va_get (D := D) (ci := 1) (v := .int (nI (σ 11 0))) (C := RX2) (T := TX2) (N := 19) hx hb hts hin hown hK hP 0 rfl rfl 8 (by decide) (hts (.fieldLink RX2 55 "HandCasesModel" "items" "I") (by decide +kernel)) (fun _ h9 => h9) rfl dX2_count_25 ?_
      have b_53 := b11 hI
      refine lv_icmp_ge (tgt := 67) hx hb dX2_count_28 (by decide) (fun c_54 => ?_) (fun c_54 => ?_)
      · skip
        have c_54 := (cq_le (nI_toInt (by omega)) (show (0 : Int32).toInt = (0 : Int) from by decide)).mp c_54
        refine lv_iconst (v := 0) hx hb dX2_count_67 (by decide) ?_
        refine lv_istore_n (lv' := [(3, .int 0), (2, .int 0), (0, .ref (ad 0)), (1, .int 5)]) hx hb dX2_count_68 rfl hl (by decide) rfl (fun ls hl => ?_)
        refine lv_iload_n hx hb dX2_count_69 rfl (lv_at hl 0 rfl) ?_
        refine lv_sipush (v := 200) hx hb dX2_count_70 (by decide) ?_
        refine lv_icmp_ge (tgt := 104) hx hb dX2_count_73 (by decide) (fun c_55 => ?_) (fun c_55 => ?_)
        · skip
          have c_55 := (cq_le (show (200 : Int32).toInt = (200 : Int) from by decide) (show (0 : Int32).toInt = (0 : Int) from by decide)).mp c_55
          exfalso; omega
        · skip
          have c_55 := mt (cq_le (show (200 : Int32).toInt = (200 : Int) from by decide) (show (0 : Int32).toInt = (0 : Int) from by decide)).mpr c_55
          refine lv_iload_n hx hb dX2_count_76 rfl (lv_at hl 3 rfl) ?_
          refine lv_iconst (v := 4) hx hb dX2_count_77 (by decide) ?_
          refine lv_icmp_ne (tgt := 104) hx hb dX2_count_78 (by decide) (fun c_56 => ?_) (fun c_56 => ?_)
          · skip
            have c_56 := mt (cq_eq (show (5 : Int32).toInt = (5 : Int) from by decide) (show (4 : Int32).toInt = (4 : Int) from by decide)).mpr c_56
            refine lv_iload_n hx hb dX2_count_104 rfl (lv_at hl 3 rfl) ?_
            refine lv_iconst (v := 5) hx hb dX2_count_105 (by decide) ?_
            refine lv_icmp_ne (tgt := 114) hx hb dX2_count_106 (by decide) (fun c_57 => ?_) (fun c_57 => ?_)
            · skip
              have c_57 := mt (cq_eq (show (5 : Int32).toInt = (5 : Int) from by decide) (show (5 : Int32).toInt = (5 : Int) from by decide)).mpr c_57
              exfalso; omega
            · skip
              have c_57 := (cq_eq (show (5 : Int32).toInt = (5 : Int) from by decide) (show (5 : Int32).toInt = (5 : Int) from by decide)).mp c_57
              refine lv_aload_n hx hb dX2_count_109 rfl (lv_at hl 2 rfl) ?_
              refine call_i (As := []) (rest := []) WAd_m ⟨hx, hb, hml, hown, hts⟩ (c_X2_framed l cI cZ D ad pl tb _ σ (setA δ 0 0 0) w0 hI) (cwV 0 hts gX2_count_X2_framed rfl rfl rfl (by decide +kernel) ⟨Nat.le_of_ble_eq_true rfl, Nat.le_of_ble_eq_true rfl⟩) (va_recv hK hP (ci := 1) (q0 := 0) rfl rfl) hK hP hD hS hA hZ rfl rfl (Nat.le_of_ble_eq_true rfl) hl.1 dX2_count_110 ⟨Nat.zero_le _, Nat.zero_le _⟩ (fun r u H locs hq hP hD hS => ?_)
              obtain ⟨δ_58, w_58, rfl, rfl, hf0⟩ := hq
              refine lv_istore_n (lv' := [(2, .int (nI (sumN (atF σ 4) (σ 11 0) + sumN (atF σ 1) (σ 11 0)))), (3, .int 0), (0, .ref (ad 0)), (1, .int 5)]) hx hb dX2_count_113 rfl hl (by decide) rfl (fun ls hl => ?_)
              refine lv_iconst (v := 0) hx hb dX2_count_114 (by decide) ?_
              refine lv_istore_n (lv' := [(3, .int 0), (2, .int (nI (sumN (atF σ 4) (σ 11 0) + sumN (atF σ 1) (σ 11 0)))), (0, .ref (ad 0)), (1, .int 5)]) hx hb dX2_count_115 rfl hl (by decide) rfl (fun ls hl => ?_)
              refine lv_iload_n hx hb dX2_count_116 rfl (lv_at hl 0 rfl) ?_
              refine lv_iconst (v := 4) hx hb dX2_count_117 (by decide) ?_
              refine lv_icmp_ge (tgt := 146) hx hb dX2_count_118 (by decide) (fun c_59 => ?_) (fun c_59 => ?_)
              · skip
                have c_59 := (cq_le (show (4 : Int32).toInt = (4 : Int) from by decide) (show (0 : Int32).toInt = (0 : Int) from by decide)).mp c_59
                exfalso; omega
              · skip
                have c_59 := mt (cq_le (show (4 : Int32).toInt = (4 : Int) from by decide) (show (0 : Int32).toInt = (0 : Int) from by decide)).mpr c_59
                refine lv_iload_n hx hb dX2_count_121 rfl (lv_at hl 3 rfl) ?_
                refine lv_bipush (v := 6) hx hb dX2_count_122 (by decide) ?_
                refine lv_icmp_ne (tgt := 146) hx hb dX2_count_124 (by decide) (fun c_60 => ?_) (fun c_60 => ?_)
                · skip
                  have c_60 := mt (cq_eq (show (5 : Int32).toInt = (5 : Int) from by decide) (show (6 : Int32).toInt = (6 : Int) from by decide)).mpr c_60
                  refine lv_iconst (v := 0) hx hb dX2_count_146 (by decide) ?_
                  refine lv_istore_n (lv' := [(3, .int 0), (2, .int (nI (sumN (atF σ 4) (σ 11 0) + sumN (atF σ 1) (σ 11 0)))), (0, .ref (ad 0)), (1, .int 5)]) hx hb dX2_count_147 rfl hl (by decide) rfl (fun ls hl => ?_)
                  refine lv_iload_n hx hb dX2_count_148 rfl (lv_at hl 0 rfl) ?_
                  refine lv_sipush (v := 200) hx hb dX2_count_149 (by decide) ?_
                  refine lv_icmp_ge (tgt := 193) hx hb dX2_count_152 (by decide) (fun c_61 => ?_) (fun c_61 => ?_)
                  · skip
                    have c_61 := (cq_le (show (200 : Int32).toInt = (200 : Int) from by decide) (show (0 : Int32).toInt = (0 : Int) from by decide)).mp c_61
                    exfalso; omega
                  · skip
                    have c_61 := mt (cq_le (show (200 : Int32).toInt = (200 : Int) from by decide) (show (0 : Int32).toInt = (0 : Int) from by decide)).mpr c_61
                    refine lv_iload_n hx hb dX2_count_155 rfl (lv_at hl 3 rfl) ?_
                    refine lv_bipush (v := 7) hx hb dX2_count_156 (by decide) ?_
                    refine lv_icmp_ne (tgt := 193) hx hb dX2_count_158 (by decide) (fun c_62 => ?_) (fun c_62 => ?_)
                    · skip
                      have c_62 := mt (cq_eq (show (5 : Int32).toInt = (5 : Int) from by decide) (show (7 : Int32).toInt = (7 : Int) from by decide)).mpr c_62
                      refine lv_iload_n hx hb dX2_count_193 rfl (lv_at hl 3 rfl) ?_
                      refine lv_bipush (v := 8) hx hb dX2_count_194 (by decide) ?_
                      refine lv_icmp_ne (tgt := 209) hx hb dX2_count_196 (by decide) (fun c_63 => ?_) (fun c_63 => ?_)
                      · skip
                        have c_63 := mt (cq_eq (show (5 : Int32).toInt = (5 : Int) from by decide) (show (8 : Int32).toInt = (8 : Int) from by decide)).mpr c_63
                        have e_f : δ_58 0 0 = 0 := hf0
                        refine lv_aload_n hx hb dX2_count_209 rfl (lv_at hl 2 rfl) ?_
                        refine va_get (D := D) (ci := 1) (v := .int (nI (δ_58 0 0))) (C := RX2) (T := TX2) (N := 19) hx hb hts hin hown hK hP 0 rfl rfl 1 (by decide) (hts (.fieldLink RX2 48 "HandCasesModel" "fault" "I") (by decide +kernel)) (fun _ h9 => h9) rfl dX2_count_210 ?_
                        refine lv_if_le (tgt := 220) hx hb dX2_count_213 (by decide) (fun c_64 => ?_) (fun c_64 => ?_)
                        · skip
                          have c_64 := (cq_le (nI_toInt (by omega)) (show (0 : Int32).toInt = (0 : Int) from by decide)).mp c_64
                          refine lv_iload_n hx hb dX2_count_220 rfl (lv_at hl 3 rfl) ?_
                          refine lv_if_ne (tgt := 231) hx hb dX2_count_221 (by decide) (fun c_65 => ?_) (fun c_65 => ?_)
                          · skip
                            have c_65 := mt (cq_eq (show (5 : Int32).toInt = (5 : Int) from by decide) (show (0 : Int32).toInt = (0 : Int) from by decide)).mpr c_65
                            refine lv_iload_n hx hb dX2_count_231 rfl (lv_at hl 3 rfl) ?_
                            refine lv_iconst (v := 1) hx hb dX2_count_232 (by decide) ?_
                            refine lv_icmp_ne (tgt := 243) hx hb dX2_count_233 (by decide) (fun c_66 => ?_) (fun c_66 => ?_)
                            · skip
                              have c_66 := mt (cq_eq (show (5 : Int32).toInt = (5 : Int) from by decide) (show (1 : Int32).toInt = (1 : Int) from by decide)).mpr c_66
                              refine lv_iload_n hx hb dX2_count_243 rfl (lv_at hl 3 rfl) ?_
                              refine lv_iconst (v := 2) hx hb dX2_count_244 (by decide) ?_
                              refine lv_icmp_ne (tgt := 255) hx hb dX2_count_245 (by decide) (fun c_67 => ?_) (fun c_67 => ?_)
                              · skip
                                have c_67 := mt (cq_eq (show (5 : Int32).toInt = (5 : Int) from by decide) (show (2 : Int32).toInt = (2 : Int) from by decide)).mpr c_67
                                refine lv_iload_n hx hb dX2_count_255 rfl (lv_at hl 1 rfl) ?_
                                have eo : oCnt σ (5) = (0, nI (sumN (atF σ 4) (σ 11 0) + sumN (atF σ 1) (σ 11 0))) := (oCnt_lit (k := 5) (by decide) (by decide)).trans (by show ((0 : Nat), nI (sumN (atF σ 4) (σ 11 0) + sumN (atF σ 1) (σ 11 0))) = _; rfl)
                                exact ret_i (σ, δ_58, w_58) hx hb hr rfl hK hlocks hP hD hS ⟨δ_58, w_58, rfl, by rw [eo], by rw [eo]; exact hf0⟩ dX2_count_256
                              · skip
                                have c_67 := (cq_eq (show (5 : Int32).toInt = (5 : Int) from by decide) (show (2 : Int32).toInt = (2 : Int) from by decide)).mp c_67
                                exfalso; omega
                            · skip
                              have c_66 := (cq_eq (show (5 : Int32).toInt = (5 : Int) from by decide) (show (1 : Int32).toInt = (1 : Int) from by decide)).mp c_66
                              exfalso; omega
                          · skip
                            have c_65 := (cq_eq (show (5 : Int32).toInt = (5 : Int) from by decide) (show (0 : Int32).toInt = (0 : Int) from by decide)).mp c_65
                            exfalso; omega
                        · skip
                          have c_64 := mt (cq_le (nI_toInt (by omega)) (show (0 : Int32).toInt = (0 : Int) from by decide)).mpr c_64
                          exfalso; omega
                      · skip
                        have c_63 := (cq_eq (show (5 : Int32).toInt = (5 : Int) from by decide) (show (8 : Int32).toInt = (8 : Int) from by decide)).mp c_63
                        exfalso; omega
                    · skip
                      have c_62 := (cq_eq (show (5 : Int32).toInt = (5 : Int) from by decide) (show (7 : Int32).toInt = (7 : Int) from by decide)).mp c_62
                      exfalso; omega
                · skip
                  have c_60 := (cq_eq (show (5 : Int32).toInt = (5 : Int) from by decide) (show (6 : Int32).toInt = (6 : Int) from by decide)).mp c_60
                  exfalso; omega
          · skip
            have c_56 := (cq_eq (show (5 : Int32).toInt = (5 : Int) from by decide) (show (4 : Int32).toInt = (4 : Int) from by decide)).mp c_56
            exfalso; omega
      · skip
        have c_54 := mt (cq_le (nI_toInt (by omega)) (show (0 : Int32).toInt = (0 : Int) from by decide)).mpr c_54
        refine lv_iload_n hx hb dX2_count_31 rfl (lv_at hl 3 rfl) ?_
        refine lv_iconst (v := 3) hx hb dX2_count_32 (by decide) ?_
        refine lv_icmp_ne (tgt := 67) hx hb dX2_count_33 (by decide) (fun c_68 => ?_) (fun c_68 => ?_)
        · skip
          have c_68 := mt (cq_eq (show (5 : Int32).toInt = (5 : Int) from by decide) (show (3 : Int32).toInt = (3 : Int) from by decide)).mpr c_68
          refine lv_iconst (v := 0) hx hb dX2_count_67 (by decide) ?_
          refine lv_istore_n (lv' := [(3, .int 0), (2, .int 0), (0, .ref (ad 0)), (1, .int 5)]) hx hb dX2_count_68 rfl hl (by decide) rfl (fun ls hl => ?_)
          refine lv_iload_n hx hb dX2_count_69 rfl (lv_at hl 0 rfl) ?_
          refine lv_sipush (v := 200) hx hb dX2_count_70 (by decide) ?_
          refine lv_icmp_ge (tgt := 104) hx hb dX2_count_73 (by decide) (fun c_69 => ?_) (fun c_69 => ?_)
          · skip
            have c_69 := (cq_le (show (200 : Int32).toInt = (200 : Int) from by decide) (show (0 : Int32).toInt = (0 : Int) from by decide)).mp c_69
            exfalso; omega
          · skip
            have c_69 := mt (cq_le (show (200 : Int32).toInt = (200 : Int) from by decide) (show (0 : Int32).toInt = (0 : Int) from by decide)).mpr c_69
            refine lv_iload_n hx hb dX2_count_76 rfl (lv_at hl 3 rfl) ?_
            refine lv_iconst (v := 4) hx hb dX2_count_77 (by decide) ?_
            refine lv_icmp_ne (tgt := 104) hx hb dX2_count_78 (by decide) (fun c_70 => ?_) (fun c_70 => ?_)
            · skip
              have c_70 := mt (cq_eq (show (5 : Int32).toInt = (5 : Int) from by decide) (show (4 : Int32).toInt = (4 : Int) from by decide)).mpr c_70
              refine lv_iload_n hx hb dX2_count_104 rfl (lv_at hl 3 rfl) ?_
              refine lv_iconst (v := 5) hx hb dX2_count_105 (by decide) ?_
              refine lv_icmp_ne (tgt := 114) hx hb dX2_count_106 (by decide) (fun c_71 => ?_) (fun c_71 => ?_)
              · skip
                have c_71 := mt (cq_eq (show (5 : Int32).toInt = (5 : Int) from by decide) (show (5 : Int32).toInt = (5 : Int) from by decide)).mpr c_71
                exfalso; omega
              · skip
                have c_71 := (cq_eq (show (5 : Int32).toInt = (5 : Int) from by decide) (show (5 : Int32).toInt = (5 : Int) from by decide)).mp c_71
                refine lv_aload_n hx hb dX2_count_109 rfl (lv_at hl 2 rfl) ?_
                refine call_i (As := []) (rest := []) WAd_m ⟨hx, hb, hml, hown, hts⟩ (c_X2_framed l cI cZ D ad pl tb _ σ (setA δ 0 0 0) w0 hI) (cwV 0 hts gX2_count_X2_framed rfl rfl rfl (by decide +kernel) ⟨Nat.le_of_ble_eq_true rfl, Nat.le_of_ble_eq_true rfl⟩) (va_recv hK hP (ci := 1) (q0 := 0) rfl rfl) hK hP hD hS hA hZ rfl rfl (Nat.le_of_ble_eq_true rfl) hl.1 dX2_count_110 ⟨Nat.zero_le _, Nat.zero_le _⟩ (fun r u H locs hq hP hD hS => ?_)
                obtain ⟨δ_72, w_72, rfl, rfl, hf0⟩ := hq
                refine lv_istore_n (lv' := [(2, .int (nI (sumN (atF σ 4) (σ 11 0) + sumN (atF σ 1) (σ 11 0)))), (3, .int 0), (0, .ref (ad 0)), (1, .int 5)]) hx hb dX2_count_113 rfl hl (by decide) rfl (fun ls hl => ?_)
                refine lv_iconst (v := 0) hx hb dX2_count_114 (by decide) ?_
                refine lv_istore_n (lv' := [(3, .int 0), (2, .int (nI (sumN (atF σ 4) (σ 11 0) + sumN (atF σ 1) (σ 11 0)))), (0, .ref (ad 0)), (1, .int 5)]) hx hb dX2_count_115 rfl hl (by decide) rfl (fun ls hl => ?_)
                refine lv_iload_n hx hb dX2_count_116 rfl (lv_at hl 0 rfl) ?_
                refine lv_iconst (v := 4) hx hb dX2_count_117 (by decide) ?_
                refine lv_icmp_ge (tgt := 146) hx hb dX2_count_118 (by decide) (fun c_73 => ?_) (fun c_73 => ?_)
                · skip
                  have c_73 := (cq_le (show (4 : Int32).toInt = (4 : Int) from by decide) (show (0 : Int32).toInt = (0 : Int) from by decide)).mp c_73
                  exfalso; omega
                · skip
                  have c_73 := mt (cq_le (show (4 : Int32).toInt = (4 : Int) from by decide) (show (0 : Int32).toInt = (0 : Int) from by decide)).mpr c_73
                  refine lv_iload_n hx hb dX2_count_121 rfl (lv_at hl 3 rfl) ?_
                  refine lv_bipush (v := 6) hx hb dX2_count_122 (by decide) ?_
                  refine lv_icmp_ne (tgt := 146) hx hb dX2_count_124 (by decide) (fun c_74 => ?_) (fun c_74 => ?_)
                  · skip
                    have c_74 := mt (cq_eq (show (5 : Int32).toInt = (5 : Int) from by decide) (show (6 : Int32).toInt = (6 : Int) from by decide)).mpr c_74
                    refine lv_iconst (v := 0) hx hb dX2_count_146 (by decide) ?_
                    refine lv_istore_n (lv' := [(3, .int 0), (2, .int (nI (sumN (atF σ 4) (σ 11 0) + sumN (atF σ 1) (σ 11 0)))), (0, .ref (ad 0)), (1, .int 5)]) hx hb dX2_count_147 rfl hl (by decide) rfl (fun ls hl => ?_)
                    refine lv_iload_n hx hb dX2_count_148 rfl (lv_at hl 0 rfl) ?_
                    refine lv_sipush (v := 200) hx hb dX2_count_149 (by decide) ?_
                    refine lv_icmp_ge (tgt := 193) hx hb dX2_count_152 (by decide) (fun c_75 => ?_) (fun c_75 => ?_)
                    · skip
                      have c_75 := (cq_le (show (200 : Int32).toInt = (200 : Int) from by decide) (show (0 : Int32).toInt = (0 : Int) from by decide)).mp c_75
                      exfalso; omega
                    · skip
                      have c_75 := mt (cq_le (show (200 : Int32).toInt = (200 : Int) from by decide) (show (0 : Int32).toInt = (0 : Int) from by decide)).mpr c_75
                      refine lv_iload_n hx hb dX2_count_155 rfl (lv_at hl 3 rfl) ?_
                      refine lv_bipush (v := 7) hx hb dX2_count_156 (by decide) ?_
                      refine lv_icmp_ne (tgt := 193) hx hb dX2_count_158 (by decide) (fun c_76 => ?_) (fun c_76 => ?_)
                      · skip
                        have c_76 := mt (cq_eq (show (5 : Int32).toInt = (5 : Int) from by decide) (show (7 : Int32).toInt = (7 : Int) from by decide)).mpr c_76
                        refine lv_iload_n hx hb dX2_count_193 rfl (lv_at hl 3 rfl) ?_
                        refine lv_bipush (v := 8) hx hb dX2_count_194 (by decide) ?_
                        refine lv_icmp_ne (tgt := 209) hx hb dX2_count_196 (by decide) (fun c_77 => ?_) (fun c_77 => ?_)
                        · skip
                          have c_77 := mt (cq_eq (show (5 : Int32).toInt = (5 : Int) from by decide) (show (8 : Int32).toInt = (8 : Int) from by decide)).mpr c_77
                          have e_f : δ_72 0 0 = 0 := hf0
                          refine lv_aload_n hx hb dX2_count_209 rfl (lv_at hl 2 rfl) ?_
                          refine va_get (D := D) (ci := 1) (v := .int (nI (δ_72 0 0))) (C := RX2) (T := TX2) (N := 19) hx hb hts hin hown hK hP 0 rfl rfl 1 (by decide) (hts (.fieldLink RX2 48 "HandCasesModel" "fault" "I") (by decide +kernel)) (fun _ h9 => h9) rfl dX2_count_210 ?_
                          refine lv_if_le (tgt := 220) hx hb dX2_count_213 (by decide) (fun c_78 => ?_) (fun c_78 => ?_)
                          · skip
                            have c_78 := (cq_le (nI_toInt (by omega)) (show (0 : Int32).toInt = (0 : Int) from by decide)).mp c_78
                            refine lv_iload_n hx hb dX2_count_220 rfl (lv_at hl 3 rfl) ?_
                            refine lv_if_ne (tgt := 231) hx hb dX2_count_221 (by decide) (fun c_79 => ?_) (fun c_79 => ?_)
                            · skip
                              have c_79 := mt (cq_eq (show (5 : Int32).toInt = (5 : Int) from by decide) (show (0 : Int32).toInt = (0 : Int) from by decide)).mpr c_79
                              refine lv_iload_n hx hb dX2_count_231 rfl (lv_at hl 3 rfl) ?_
                              refine lv_iconst (v := 1) hx hb dX2_count_232 (by decide) ?_
                              refine lv_icmp_ne (tgt := 243) hx hb dX2_count_233 (by decide) (fun c_80 => ?_) (fun c_80 => ?_)
                              · skip
                                have c_80 := mt (cq_eq (show (5 : Int32).toInt = (5 : Int) from by decide) (show (1 : Int32).toInt = (1 : Int) from by decide)).mpr c_80
                                refine lv_iload_n hx hb dX2_count_243 rfl (lv_at hl 3 rfl) ?_
                                refine lv_iconst (v := 2) hx hb dX2_count_244 (by decide) ?_
                                refine lv_icmp_ne (tgt := 255) hx hb dX2_count_245 (by decide) (fun c_81 => ?_) (fun c_81 => ?_)
                                · skip
                                  have c_81 := mt (cq_eq (show (5 : Int32).toInt = (5 : Int) from by decide) (show (2 : Int32).toInt = (2 : Int) from by decide)).mpr c_81
                                  refine lv_iload_n hx hb dX2_count_255 rfl (lv_at hl 1 rfl) ?_
                                  have eo : oCnt σ (5) = (0, nI (sumN (atF σ 4) (σ 11 0) + sumN (atF σ 1) (σ 11 0))) := (oCnt_lit (k := 5) (by decide) (by decide)).trans (by show ((0 : Nat), nI (sumN (atF σ 4) (σ 11 0) + sumN (atF σ 1) (σ 11 0))) = _; rfl)
                                  exact ret_i (σ, δ_72, w_72) hx hb hr rfl hK hlocks hP hD hS ⟨δ_72, w_72, rfl, by rw [eo], by rw [eo]; exact hf0⟩ dX2_count_256
                                · skip
                                  have c_81 := (cq_eq (show (5 : Int32).toInt = (5 : Int) from by decide) (show (2 : Int32).toInt = (2 : Int) from by decide)).mp c_81
                                  exfalso; omega
                              · skip
                                have c_80 := (cq_eq (show (5 : Int32).toInt = (5 : Int) from by decide) (show (1 : Int32).toInt = (1 : Int) from by decide)).mp c_80
                                exfalso; omega
                            · skip
                              have c_79 := (cq_eq (show (5 : Int32).toInt = (5 : Int) from by decide) (show (0 : Int32).toInt = (0 : Int) from by decide)).mp c_79
                              exfalso; omega
                          · skip
                            have c_78 := mt (cq_le (nI_toInt (by omega)) (show (0 : Int32).toInt = (0 : Int) from by decide)).mpr c_78
                            exfalso; omega
                        · skip
                          have c_77 := (cq_eq (show (5 : Int32).toInt = (5 : Int) from by decide) (show (8 : Int32).toInt = (8 : Int) from by decide)).mp c_77
                          exfalso; omega
                      · skip
                        have c_76 := (cq_eq (show (5 : Int32).toInt = (5 : Int) from by decide) (show (7 : Int32).toInt = (7 : Int) from by decide)).mp c_76
                        exfalso; omega
                  · skip
                    have c_74 := (cq_eq (show (5 : Int32).toInt = (5 : Int) from by decide) (show (6 : Int32).toInt = (6 : Int) from by decide)).mp c_74
                    exfalso; omega
            · skip
              have c_70 := (cq_eq (show (5 : Int32).toInt = (5 : Int) from by decide) (show (4 : Int32).toInt = (4 : Int) from by decide)).mp c_70
              exfalso; omega
        · skip
          have c_68 := (cq_eq (show (5 : Int32).toInt = (5 : Int) from by decide) (show (3 : Int32).toInt = (3 : Int) from by decide)).mp c_68
          exfalso; omega
  have q_5 : ¬ p0.toInt = 5 := mt (cq_eq rfl (by decide : (5 : Int32).toInt = 5)).mpr q_5
  by_cases q_6 : p0 = 6
  · skip
    subst q_6
    refine lv_aload_n hx hb dX2_count_0 rfl (lv_at hl 0 rfl) ?_
    refine lv_iload_n hx hb dX2_count_1 rfl (lv_at hl 1 rfl) ?_
    refine lv_iconst (v := 0) hx hb dX2_count_2 (by decide) ?_
    refine lv_bipush (v := 8) hx hb dX2_count_3 (by decide) ?_
    refine call_si (As := [.int 6, .int 0, .int 8]) (rest := [.ref (ad 0)]) WAd_m ⟨hx, hb, hml, hown, hts⟩ (c_X2_in l cI cZ D ad pl tb _ σ δ w0 6 0 8) (va_cwS 3 hts gX2_count_X2_in rfl rfl rfl (by decide +kernel) ⟨Nat.le_of_ble_eq_true rfl, Nat.le_of_ble_eq_true rfl⟩) hK hP hD hS hA hZ rfl rfl (Nat.le_of_ble_eq_true rfl) hl.1 dX2_count_5 ⟨Nat.zero_le _, Nat.zero_le _⟩ (fun r u H locs hq hP hD hS => ?_)
    obtain ⟨rfl, rfl⟩ := hq
    refine lv_if_eq (tgt := 15) hx hb dX2_count_8 (by decide) (fun c_82 => ?_) (fun c_82 => ?_)
    · skip
      have c_82 : ¬ ((0 : Int32).toInt ≤ (6 : Int32).toInt ∧ (6 : Int32).toInt ≤ (8 : Int32).toInt) := pI_0.mp c_82
      have c_82 : ¬ ((0 : Int) ≤ (6 : Int) ∧ (6 : Int) ≤ (8 : Int)) := mt (in_c (show (6 : Int32).toInt = (6 : Int) from by decide) (show (0 : Int32).toInt = (0 : Int) from by decide) (show (8 : Int32).toInt = (8 : Int) from by decide)).mpr c_82
      exfalso; omega
    · skip
      have c_82 : (0 : Int32).toInt ≤ (6 : Int32).toInt ∧ (6 : Int32).toInt ≤ (8 : Int32).toInt := Decidable.not_not.mp (mt pI_0.mpr c_82)
      have c_82 : (0 : Int) ≤ (6 : Int) ∧ (6 : Int) ≤ (8 : Int) := (in_c (show (6 : Int32).toInt = (6 : Int) from by decide) (show (0 : Int32).toInt = (0 : Int) from by decide) (show (8 : Int32).toInt = (8 : Int) from by decide)).mp c_82
      refine lv_iconst (v := 0) hx hb dX2_count_11 (by decide) ?_
      refine lv_goto (tgt := 16) hx hb dX2_count_12 (by decide) ?_
      refine va_put (D := D) (ci := 1) (v := .int 0) (ty := .int) (C := RX2) (T := TX2) (N := 19) hx hb hts hin tyX2 tyX2_ok nmX2 hown hK hP hD hS 0 rfl rfl 1 (by decide) (hts (.fieldLink RX2 48 "HandCasesModel" "fault" "I") (by decide +kernel)) (fun _ h9 => h9) rfl (by decide +kernel) rfl rfl (Nat.le_of_ble_eq_true rfl) dX2_count_16 (fun H locs hP hD hS => ?_)
      have hP : va_P D vwCl (WM cI cZ ad (σ, setA δ 0 0 0, w0)) H := hP
      have hD : va_D (AC ad s.heap.size) (WM cI cZ ad (σ, setA δ 0 0 0, w0)) := hD
      refine lv_iconst (v := 0) hx hb dX2_count_19 (by decide) ?_
      refine lv_istore_n (lv' := [(2, .int 0), (0, .ref (ad 0)), (1, .int 6)]) hx hb dX2_count_20 rfl hl (by decide) rfl (fun ls hl => ?_)
      refine lv_iconst (v := 0) hx hb dX2_count_21 (by decide) ?_
      refine lv_istore_n (lv' := [(3, .int 0), (2, .int 0), (0, .ref (ad 0)), (1, .int 6)]) hx hb dX2_count_22 rfl hl (by decide) rfl (fun ls hl => ?_)
      refine lv_iload_n hx hb dX2_count_23 rfl (lv_at hl 0 rfl) ?_
      refine lv_aload_n hx hb dX2_count_24 rfl (lv_at hl 2 rfl) ?_
      refine va_get (D := D) (ci := 1) (v := .int (nI (σ 11 0))) (C := RX2) (T := TX2) (N := 19) hx hb hts hin hown hK hP 0 rfl rfl 8 (by decide) (hts (.fieldLink RX2 55 "HandCasesModel" "items" "I") (by decide +kernel)) (fun _ h9 => h9) rfl dX2_count_25 ?_
      have b_83 := b11 hI
      refine lv_icmp_ge (tgt := 67) hx hb dX2_count_28 (by decide) (fun c_84 => ?_) (fun c_84 => ?_)
      · skip
        have c_84 := (cq_le (nI_toInt (by omega)) (show (0 : Int32).toInt = (0 : Int) from by decide)).mp c_84
        refine lv_iconst (v := 0) hx hb dX2_count_67 (by decide) ?_
        refine lv_istore_n (lv' := [(3, .int 0), (2, .int 0), (0, .ref (ad 0)), (1, .int 6)]) hx hb dX2_count_68 rfl hl (by decide) rfl (fun ls hl => ?_)
        refine lv_iload_n hx hb dX2_count_69 rfl (lv_at hl 0 rfl) ?_
        refine lv_sipush (v := 200) hx hb dX2_count_70 (by decide) ?_
        refine lv_icmp_ge (tgt := 104) hx hb dX2_count_73 (by decide) (fun c_85 => ?_) (fun c_85 => ?_)
        · skip
          have c_85 := (cq_le (show (200 : Int32).toInt = (200 : Int) from by decide) (show (0 : Int32).toInt = (0 : Int) from by decide)).mp c_85
          exfalso; omega
        · skip
          have c_85 := mt (cq_le (show (200 : Int32).toInt = (200 : Int) from by decide) (show (0 : Int32).toInt = (0 : Int) from by decide)).mpr c_85
          refine lv_iload_n hx hb dX2_count_76 rfl (lv_at hl 3 rfl) ?_
          refine lv_iconst (v := 4) hx hb dX2_count_77 (by decide) ?_
          refine lv_icmp_ne (tgt := 104) hx hb dX2_count_78 (by decide) (fun c_86 => ?_) (fun c_86 => ?_)
          · skip
            have c_86 := mt (cq_eq (show (6 : Int32).toInt = (6 : Int) from by decide) (show (4 : Int32).toInt = (4 : Int) from by decide)).mpr c_86
            refine lv_iload_n hx hb dX2_count_104 rfl (lv_at hl 3 rfl) ?_
            refine lv_iconst (v := 5) hx hb dX2_count_105 (by decide) ?_
            refine lv_icmp_ne (tgt := 114) hx hb dX2_count_106 (by decide) (fun c_87 => ?_) (fun c_87 => ?_)
            · skip
              have c_87 := mt (cq_eq (show (6 : Int32).toInt = (6 : Int) from by decide) (show (5 : Int32).toInt = (5 : Int) from by decide)).mpr c_87
              refine lv_iconst (v := 0) hx hb dX2_count_114 (by decide) ?_
              refine lv_istore_n (lv' := [(3, .int 0), (2, .int 0), (0, .ref (ad 0)), (1, .int 6)]) hx hb dX2_count_115 rfl hl (by decide) rfl (fun ls hl => ?_)
              refine W_loop (ι := Nat × Sg × Int32) 116 (fun (x : Nat × Sg × Int32) H locs ls => (x.1 ≤ 4) ∧ (x.2.1 0 0 = 0) ∧ va_P D vwCl (WM cI cZ ad (σ, x.2.1, x.2.2)) H ∧ va_D (AC ad s.heap.size) (WM cI cZ ad (σ, x.2.1, x.2.2)) ∧ va_S (AC ad s.heap.size) s.heap H locs ∧ lv_has ls 4 [(0, .ref (ad 0)), (1, .int 6), (2, .int (nI (sumN (roN σ) x.1))), (3, .int (nI x.1))]) (fun (x : Nat × Sg × Int32) => 4 - x.1) ?_ (0, (setA δ 0 0 0), w0) _ _ _ ⟨by (try dsimp only); omega, rfl, hP, hD, hS, lv_as (lv_sub hl [2, 3, 1, 0] rfl) (lv_c rfl (lv_c rfl (lv_c (congrArg Value.int (by rfl)) (lv_c (congrArg Value.int (by rfl)) rfl))))⟩
              intro ⟨i, δ1, w1⟩ H locs ls ⟨h1, h2, hP, hD, hS, hl⟩ ih
              dsimp only at h1 h2 hP hD hl ih
              refine lv_iload_n hx hb dX2_count_116 rfl (lv_at hl 3 rfl) ?_
              refine lv_iconst (v := 4) hx hb dX2_count_117 (by decide) ?_
              refine lv_icmp_ge (tgt := 146) hx hb dX2_count_118 (by decide) (fun c_88 => ?_) (fun c_88 => ?_)
              · skip
                have c_88 := (cq_le (show (4 : Int32).toInt = (4 : Int) from by decide) (nI_toInt (by omega))).mp c_88
                refine lv_iconst (v := 0) hx hb dX2_count_146 (by decide) ?_
                refine lv_istore_n (lv' := [(3, .int 0), (0, .ref (ad 0)), (1, .int 6), (2, .int (nI (sumN (roN σ) i)))]) hx hb dX2_count_147 rfl hl (by decide) rfl (fun ls hl => ?_)
                refine lv_iload_n hx hb dX2_count_148 rfl (lv_at hl 0 rfl) ?_
                refine lv_sipush (v := 200) hx hb dX2_count_149 (by decide) ?_
                refine lv_icmp_ge (tgt := 193) hx hb dX2_count_152 (by decide) (fun c_89 => ?_) (fun c_89 => ?_)
                · skip
                  have c_89 := (cq_le (show (200 : Int32).toInt = (200 : Int) from by decide) (show (0 : Int32).toInt = (0 : Int) from by decide)).mp c_89
                  exfalso; omega
                · skip
                  have c_89 := mt (cq_le (show (200 : Int32).toInt = (200 : Int) from by decide) (show (0 : Int32).toInt = (0 : Int) from by decide)).mpr c_89
                  refine lv_iload_n hx hb dX2_count_155 rfl (lv_at hl 2 rfl) ?_
                  refine lv_bipush (v := 7) hx hb dX2_count_156 (by decide) ?_
                  refine lv_icmp_ne (tgt := 193) hx hb dX2_count_158 (by decide) (fun c_90 => ?_) (fun c_90 => ?_)
                  · skip
                    have c_90 := mt (cq_eq (show (6 : Int32).toInt = (6 : Int) from by decide) (show (7 : Int32).toInt = (7 : Int) from by decide)).mpr c_90
                    refine lv_iload_n hx hb dX2_count_193 rfl (lv_at hl 2 rfl) ?_
                    refine lv_bipush (v := 8) hx hb dX2_count_194 (by decide) ?_
                    refine lv_icmp_ne (tgt := 209) hx hb dX2_count_196 (by decide) (fun c_91 => ?_) (fun c_91 => ?_)
                    · skip
                      have c_91 := mt (cq_eq (show (6 : Int32).toInt = (6 : Int) from by decide) (show (8 : Int32).toInt = (8 : Int) from by decide)).mpr c_91
                      refine lv_aload_n hx hb dX2_count_209 rfl (lv_at hl 1 rfl) ?_
                      refine va_get (D := D) (ci := 1) (v := .int (nI (δ1 0 0))) (C := RX2) (T := TX2) (N := 19) hx hb hts hin hown hK hP 0 rfl rfl 1 (by decide) (hts (.fieldLink RX2 48 "HandCasesModel" "fault" "I") (by decide +kernel)) (fun _ h9 => h9) rfl dX2_count_210 ?_
                      refine lv_if_le (tgt := 220) hx hb dX2_count_213 (by decide) (fun c_92 => ?_) (fun c_92 => ?_)
                      · skip
                        have c_92 := (cq_le (nI_toInt (by omega)) (show (0 : Int32).toInt = (0 : Int) from by decide)).mp c_92
                        refine lv_iload_n hx hb dX2_count_220 rfl (lv_at hl 2 rfl) ?_
                        refine lv_if_ne (tgt := 231) hx hb dX2_count_221 (by decide) (fun c_93 => ?_) (fun c_93 => ?_)
                        · skip
                          have c_93 := mt (cq_eq (show (6 : Int32).toInt = (6 : Int) from by decide) (show (0 : Int32).toInt = (0 : Int) from by decide)).mpr c_93
                          refine lv_iload_n hx hb dX2_count_231 rfl (lv_at hl 2 rfl) ?_
                          refine lv_iconst (v := 1) hx hb dX2_count_232 (by decide) ?_
                          refine lv_icmp_ne (tgt := 243) hx hb dX2_count_233 (by decide) (fun c_94 => ?_) (fun c_94 => ?_)
                          · skip
                            have c_94 := mt (cq_eq (show (6 : Int32).toInt = (6 : Int) from by decide) (show (1 : Int32).toInt = (1 : Int) from by decide)).mpr c_94
                            refine lv_iload_n hx hb dX2_count_243 rfl (lv_at hl 2 rfl) ?_
                            refine lv_iconst (v := 2) hx hb dX2_count_244 (by decide) ?_
                            refine lv_icmp_ne (tgt := 255) hx hb dX2_count_245 (by decide) (fun c_95 => ?_) (fun c_95 => ?_)
                            · skip
                              have c_95 := mt (cq_eq (show (6 : Int32).toInt = (6 : Int) from by decide) (show (2 : Int32).toInt = (2 : Int) from by decide)).mpr c_95
                              refine lv_iload_n hx hb dX2_count_255 rfl (lv_at hl 3 rfl) ?_
                              have eo : oCnt σ (6) = (0, nI (sumN (roN σ) i)) := (oCnt_lit (k := 6) (by decide) (by decide)).trans (by show ((0 : Nat), nI (sumN (atF σ 3) (σ 11 0))) = _; rw [show i = 4 from by omega, P_list hI])
                              exact ret_i (σ, δ1, w1) hx hb hr rfl hK hlocks hP hD hS ⟨δ1, w1, rfl, by rw [eo], by rw [eo]; exact h2⟩ dX2_count_256
                            · skip
                              have c_95 := (cq_eq (show (6 : Int32).toInt = (6 : Int) from by decide) (show (2 : Int32).toInt = (2 : Int) from by decide)).mp c_95
                              exfalso; omega
                          · skip
                            have c_94 := (cq_eq (show (6 : Int32).toInt = (6 : Int) from by decide) (show (1 : Int32).toInt = (1 : Int) from by decide)).mp c_94
                            exfalso; omega
                        · skip
                          have c_93 := (cq_eq (show (6 : Int32).toInt = (6 : Int) from by decide) (show (0 : Int32).toInt = (0 : Int) from by decide)).mp c_93
                          exfalso; omega
                      · skip
                        have c_92 := mt (cq_le (nI_toInt (by omega)) (show (0 : Int32).toInt = (0 : Int) from by decide)).mpr c_92
                        exfalso; omega
                    · skip
                      have c_91 := (cq_eq (show (6 : Int32).toInt = (6 : Int) from by decide) (show (8 : Int32).toInt = (8 : Int) from by decide)).mp c_91
                      exfalso; omega
                  · skip
                    have c_90 := (cq_eq (show (6 : Int32).toInt = (6 : Int) from by decide) (show (7 : Int32).toInt = (7 : Int) from by decide)).mp c_90
                    exfalso; omega
              · skip
                have c_88 := mt (cq_le (show (4 : Int32).toInt = (4 : Int) from by decide) (nI_toInt (by omega))).mpr c_88
                refine lv_iload_n hx hb dX2_count_121 rfl (lv_at hl 1 rfl) ?_
                refine lv_bipush (v := 6) hx hb dX2_count_122 (by decide) ?_
                refine lv_icmp_ne (tgt := 146) hx hb dX2_count_124 (by decide) (fun c_96 => ?_) (fun c_96 => ?_)
                · skip
                  have c_96 := mt (cq_eq (show (6 : Int32).toInt = (6 : Int) from by decide) (show (6 : Int32).toInt = (6 : Int) from by decide)).mpr c_96
                  exfalso; omega
                · skip
                  have c_96 := (cq_eq (show (6 : Int32).toInt = (6 : Int) from by decide) (show (6 : Int32).toInt = (6 : Int) from by decide)).mp c_96
                  refine lv_aload_n hx hb dX2_count_127 rfl (lv_at hl 0 rfl) ?_
                  refine lv_iload_n hx hb dX2_count_128 rfl (lv_at hl 3 rfl) ?_
                  refine lv_iconst (v := (-1)) hx hb dX2_count_129 (by decide) ?_
                  refine call_v (As := [.int (nI i), .int (-1)]) (rest := []) WAd_m ⟨hx, hb, hml, hown, hts⟩ (c_X2_passList l cI cZ D ad pl tb _ σ δ1 w1 i (-1) hI (by omega)) (cwV 2 hts gX2_count_X2_passList rfl rfl rfl (by decide +kernel) ⟨Nat.le_of_ble_eq_true rfl, Nat.le_of_ble_eq_true rfl⟩) (va_recv hK hP (ci := 1) (q0 := 0) rfl rfl) hK hP hD hS hA hZ rfl rfl (Nat.le_of_ble_eq_true rfl) hl.1 dX2_count_130 ⟨Nat.zero_le _, Nat.zero_le _⟩ (fun u H locs hq hP hD hS => ?_)
                  obtain ⟨δ_97, rfl, hPs, hf0⟩ := hq
                  refine lv_iload_n hx hb dX2_count_133 rfl (lv_at hl 2 rfl) ?_
                  refine lv_aload_n hx hb dX2_count_134 rfl (lv_at hl 0 rfl) ?_
                  refine va_get (D := D) (ci := 1) (v := .int (nI (δ_97 2 0))) (C := RX2) (T := TX2) (N := 19) hx hb hts hin hown hK hP 0 rfl rfl 15 (by decide) (hts (.fieldLink RX2 82 "HandCasesModel" "seen" "I") (by decide +kernel)) (fun _ h9 => h9) rfl dX2_count_135 ?_
                  refine lv_iadd hx hb dX2_count_138 ?_
                  refine q_topi (nI ((sumN (roN σ) i) + (δ_97 2 0))) (nI_add (sumN (roN σ) i) (δ_97 2 0)) ?_
                  refine lv_istore_n (lv' := [(2, .int (nI ((sumN (roN σ) i) + (δ_97 2 0)))), (0, .ref (ad 0)), (1, .int 6), (3, .int (nI i))]) hx hb dX2_count_139 rfl hl (by decide) rfl (fun ls hl => ?_)
                  refine lv_iinc (v := nI (i + 1)) (lv' := [(3, .int (nI (i + 1))), (2, .int (nI ((sumN (roN σ) i) + (δ_97 2 0)))), (0, .ref (ad 0)), (1, .int 6)]) hx hb dX2_count_140 hl (k := 3) rfl (nI_add i 1) (by decide) rfl (fun ls hl => ?_)
                  refine lv_goto (tgt := 116) hx hb dX2_count_143 (by decide) ?_
                  exact ih (i + 1, δ_97, (-1)) _ _ _ ⟨by (try dsimp only); omega, hf0.trans h2, hP, hD, hS, lv_as (lv_sub hl [2, 3, 1, 0] rfl) (lv_c rfl (lv_c rfl (lv_c (congrArg Value.int (congrArg nI (by rw [hPs.1]; rfl))) (lv_c rfl rfl))))⟩ (by show 4 - (i + 1) < 4 - i; omega)
            · skip
              have c_87 := (cq_eq (show (6 : Int32).toInt = (6 : Int) from by decide) (show (5 : Int32).toInt = (5 : Int) from by decide)).mp c_87
              exfalso; omega
          · skip
            have c_86 := (cq_eq (show (6 : Int32).toInt = (6 : Int) from by decide) (show (4 : Int32).toInt = (4 : Int) from by decide)).mp c_86
            exfalso; omega
      · skip
        have c_84 := mt (cq_le (nI_toInt (by omega)) (show (0 : Int32).toInt = (0 : Int) from by decide)).mpr c_84
        refine lv_iload_n hx hb dX2_count_31 rfl (lv_at hl 3 rfl) ?_
        refine lv_iconst (v := 3) hx hb dX2_count_32 (by decide) ?_
        refine lv_icmp_ne (tgt := 67) hx hb dX2_count_33 (by decide) (fun c_98 => ?_) (fun c_98 => ?_)
        · skip
          have c_98 := mt (cq_eq (show (6 : Int32).toInt = (6 : Int) from by decide) (show (3 : Int32).toInt = (3 : Int) from by decide)).mpr c_98
          refine lv_iconst (v := 0) hx hb dX2_count_67 (by decide) ?_
          refine lv_istore_n (lv' := [(3, .int 0), (2, .int 0), (0, .ref (ad 0)), (1, .int 6)]) hx hb dX2_count_68 rfl hl (by decide) rfl (fun ls hl => ?_)
          refine lv_iload_n hx hb dX2_count_69 rfl (lv_at hl 0 rfl) ?_
          refine lv_sipush (v := 200) hx hb dX2_count_70 (by decide) ?_
          refine lv_icmp_ge (tgt := 104) hx hb dX2_count_73 (by decide) (fun c_99 => ?_) (fun c_99 => ?_)
          · skip
            have c_99 := (cq_le (show (200 : Int32).toInt = (200 : Int) from by decide) (show (0 : Int32).toInt = (0 : Int) from by decide)).mp c_99
            exfalso; omega
          · skip
            have c_99 := mt (cq_le (show (200 : Int32).toInt = (200 : Int) from by decide) (show (0 : Int32).toInt = (0 : Int) from by decide)).mpr c_99
            refine lv_iload_n hx hb dX2_count_76 rfl (lv_at hl 3 rfl) ?_
            refine lv_iconst (v := 4) hx hb dX2_count_77 (by decide) ?_
            refine lv_icmp_ne (tgt := 104) hx hb dX2_count_78 (by decide) (fun c_100 => ?_) (fun c_100 => ?_)
            · skip
              have c_100 := mt (cq_eq (show (6 : Int32).toInt = (6 : Int) from by decide) (show (4 : Int32).toInt = (4 : Int) from by decide)).mpr c_100
              refine lv_iload_n hx hb dX2_count_104 rfl (lv_at hl 3 rfl) ?_
              refine lv_iconst (v := 5) hx hb dX2_count_105 (by decide) ?_
              refine lv_icmp_ne (tgt := 114) hx hb dX2_count_106 (by decide) (fun c_101 => ?_) (fun c_101 => ?_)
              · skip
                have c_101 := mt (cq_eq (show (6 : Int32).toInt = (6 : Int) from by decide) (show (5 : Int32).toInt = (5 : Int) from by decide)).mpr c_101
                refine lv_iconst (v := 0) hx hb dX2_count_114 (by decide) ?_
                refine lv_istore_n (lv' := [(3, .int 0), (2, .int 0), (0, .ref (ad 0)), (1, .int 6)]) hx hb dX2_count_115 rfl hl (by decide) rfl (fun ls hl => ?_)
                refine W_loop (ι := Nat × Sg × Int32) 116 (fun (x : Nat × Sg × Int32) H locs ls => (x.1 ≤ 4) ∧ (x.2.1 0 0 = 0) ∧ va_P D vwCl (WM cI cZ ad (σ, x.2.1, x.2.2)) H ∧ va_D (AC ad s.heap.size) (WM cI cZ ad (σ, x.2.1, x.2.2)) ∧ va_S (AC ad s.heap.size) s.heap H locs ∧ lv_has ls 4 [(0, .ref (ad 0)), (1, .int 6), (2, .int (nI (sumN (roN σ) x.1))), (3, .int (nI x.1))]) (fun (x : Nat × Sg × Int32) => 4 - x.1) ?_ (0, (setA δ 0 0 0), w0) _ _ _ ⟨by (try dsimp only); omega, rfl, hP, hD, hS, lv_as (lv_sub hl [2, 3, 1, 0] rfl) (lv_c rfl (lv_c rfl (lv_c (congrArg Value.int (by rfl)) (lv_c (congrArg Value.int (by rfl)) rfl))))⟩
                intro ⟨i, δ1, w1⟩ H locs ls ⟨h1, h2, hP, hD, hS, hl⟩ ih
                dsimp only at h1 h2 hP hD hl ih
                refine lv_iload_n hx hb dX2_count_116 rfl (lv_at hl 3 rfl) ?_
                refine lv_iconst (v := 4) hx hb dX2_count_117 (by decide) ?_
                refine lv_icmp_ge (tgt := 146) hx hb dX2_count_118 (by decide) (fun c_102 => ?_) (fun c_102 => ?_)
                · skip
                  have c_102 := (cq_le (show (4 : Int32).toInt = (4 : Int) from by decide) (nI_toInt (by omega))).mp c_102
                  refine lv_iconst (v := 0) hx hb dX2_count_146 (by decide) ?_
                  refine lv_istore_n (lv' := [(3, .int 0), (0, .ref (ad 0)), (1, .int 6), (2, .int (nI (sumN (roN σ) i)))]) hx hb dX2_count_147 rfl hl (by decide) rfl (fun ls hl => ?_)
                  refine lv_iload_n hx hb dX2_count_148 rfl (lv_at hl 0 rfl) ?_
                  refine lv_sipush (v := 200) hx hb dX2_count_149 (by decide) ?_
                  refine lv_icmp_ge (tgt := 193) hx hb dX2_count_152 (by decide) (fun c_103 => ?_) (fun c_103 => ?_)
                  · skip
                    have c_103 := (cq_le (show (200 : Int32).toInt = (200 : Int) from by decide) (show (0 : Int32).toInt = (0 : Int) from by decide)).mp c_103
                    exfalso; omega
                  · skip
                    have c_103 := mt (cq_le (show (200 : Int32).toInt = (200 : Int) from by decide) (show (0 : Int32).toInt = (0 : Int) from by decide)).mpr c_103
                    refine lv_iload_n hx hb dX2_count_155 rfl (lv_at hl 2 rfl) ?_
                    refine lv_bipush (v := 7) hx hb dX2_count_156 (by decide) ?_
                    refine lv_icmp_ne (tgt := 193) hx hb dX2_count_158 (by decide) (fun c_104 => ?_) (fun c_104 => ?_)
                    · skip
                      have c_104 := mt (cq_eq (show (6 : Int32).toInt = (6 : Int) from by decide) (show (7 : Int32).toInt = (7 : Int) from by decide)).mpr c_104
                      refine lv_iload_n hx hb dX2_count_193 rfl (lv_at hl 2 rfl) ?_
                      refine lv_bipush (v := 8) hx hb dX2_count_194 (by decide) ?_
                      refine lv_icmp_ne (tgt := 209) hx hb dX2_count_196 (by decide) (fun c_105 => ?_) (fun c_105 => ?_)
                      · skip
                        have c_105 := mt (cq_eq (show (6 : Int32).toInt = (6 : Int) from by decide) (show (8 : Int32).toInt = (8 : Int) from by decide)).mpr c_105
                        refine lv_aload_n hx hb dX2_count_209 rfl (lv_at hl 1 rfl) ?_
                        refine va_get (D := D) (ci := 1) (v := .int (nI (δ1 0 0))) (C := RX2) (T := TX2) (N := 19) hx hb hts hin hown hK hP 0 rfl rfl 1 (by decide) (hts (.fieldLink RX2 48 "HandCasesModel" "fault" "I") (by decide +kernel)) (fun _ h9 => h9) rfl dX2_count_210 ?_
                        refine lv_if_le (tgt := 220) hx hb dX2_count_213 (by decide) (fun c_106 => ?_) (fun c_106 => ?_)
                        · skip
                          have c_106 := (cq_le (nI_toInt (by omega)) (show (0 : Int32).toInt = (0 : Int) from by decide)).mp c_106
                          refine lv_iload_n hx hb dX2_count_220 rfl (lv_at hl 2 rfl) ?_
                          refine lv_if_ne (tgt := 231) hx hb dX2_count_221 (by decide) (fun c_107 => ?_) (fun c_107 => ?_)
                          · skip
                            have c_107 := mt (cq_eq (show (6 : Int32).toInt = (6 : Int) from by decide) (show (0 : Int32).toInt = (0 : Int) from by decide)).mpr c_107
                            refine lv_iload_n hx hb dX2_count_231 rfl (lv_at hl 2 rfl) ?_
                            refine lv_iconst (v := 1) hx hb dX2_count_232 (by decide) ?_
                            refine lv_icmp_ne (tgt := 243) hx hb dX2_count_233 (by decide) (fun c_108 => ?_) (fun c_108 => ?_)
                            · skip
                              have c_108 := mt (cq_eq (show (6 : Int32).toInt = (6 : Int) from by decide) (show (1 : Int32).toInt = (1 : Int) from by decide)).mpr c_108
                              refine lv_iload_n hx hb dX2_count_243 rfl (lv_at hl 2 rfl) ?_
                              refine lv_iconst (v := 2) hx hb dX2_count_244 (by decide) ?_
                              refine lv_icmp_ne (tgt := 255) hx hb dX2_count_245 (by decide) (fun c_109 => ?_) (fun c_109 => ?_)
                              · skip
                                have c_109 := mt (cq_eq (show (6 : Int32).toInt = (6 : Int) from by decide) (show (2 : Int32).toInt = (2 : Int) from by decide)).mpr c_109
                                refine lv_iload_n hx hb dX2_count_255 rfl (lv_at hl 3 rfl) ?_
                                have eo : oCnt σ (6) = (0, nI (sumN (roN σ) i)) := (oCnt_lit (k := 6) (by decide) (by decide)).trans (by show ((0 : Nat), nI (sumN (atF σ 3) (σ 11 0))) = _; rw [show i = 4 from by omega, P_list hI])
                                exact ret_i (σ, δ1, w1) hx hb hr rfl hK hlocks hP hD hS ⟨δ1, w1, rfl, by rw [eo], by rw [eo]; exact h2⟩ dX2_count_256
                              · skip
                                have c_109 := (cq_eq (show (6 : Int32).toInt = (6 : Int) from by decide) (show (2 : Int32).toInt = (2 : Int) from by decide)).mp c_109
                                exfalso; omega
                            · skip
                              have c_108 := (cq_eq (show (6 : Int32).toInt = (6 : Int) from by decide) (show (1 : Int32).toInt = (1 : Int) from by decide)).mp c_108
                              exfalso; omega
                          · skip
                            have c_107 := (cq_eq (show (6 : Int32).toInt = (6 : Int) from by decide) (show (0 : Int32).toInt = (0 : Int) from by decide)).mp c_107
                            exfalso; omega
                        · skip
                          have c_106 := mt (cq_le (nI_toInt (by omega)) (show (0 : Int32).toInt = (0 : Int) from by decide)).mpr c_106
                          exfalso; omega
                      · skip
                        have c_105 := (cq_eq (show (6 : Int32).toInt = (6 : Int) from by decide) (show (8 : Int32).toInt = (8 : Int) from by decide)).mp c_105
                        exfalso; omega
                    · skip
                      have c_104 := (cq_eq (show (6 : Int32).toInt = (6 : Int) from by decide) (show (7 : Int32).toInt = (7 : Int) from by decide)).mp c_104
                      exfalso; omega
                · skip
                  have c_102 := mt (cq_le (show (4 : Int32).toInt = (4 : Int) from by decide) (nI_toInt (by omega))).mpr c_102
                  refine lv_iload_n hx hb dX2_count_121 rfl (lv_at hl 1 rfl) ?_
                  refine lv_bipush (v := 6) hx hb dX2_count_122 (by decide) ?_
                  refine lv_icmp_ne (tgt := 146) hx hb dX2_count_124 (by decide) (fun c_110 => ?_) (fun c_110 => ?_)
                  · skip
                    have c_110 := mt (cq_eq (show (6 : Int32).toInt = (6 : Int) from by decide) (show (6 : Int32).toInt = (6 : Int) from by decide)).mpr c_110
                    exfalso; omega
                  · skip
                    have c_110 := (cq_eq (show (6 : Int32).toInt = (6 : Int) from by decide) (show (6 : Int32).toInt = (6 : Int) from by decide)).mp c_110
                    refine lv_aload_n hx hb dX2_count_127 rfl (lv_at hl 0 rfl) ?_
                    refine lv_iload_n hx hb dX2_count_128 rfl (lv_at hl 3 rfl) ?_
                    refine lv_iconst (v := (-1)) hx hb dX2_count_129 (by decide) ?_
                    refine call_v (As := [.int (nI i), .int (-1)]) (rest := []) WAd_m ⟨hx, hb, hml, hown, hts⟩ (c_X2_passList l cI cZ D ad pl tb _ σ δ1 w1 i (-1) hI (by omega)) (cwV 2 hts gX2_count_X2_passList rfl rfl rfl (by decide +kernel) ⟨Nat.le_of_ble_eq_true rfl, Nat.le_of_ble_eq_true rfl⟩) (va_recv hK hP (ci := 1) (q0 := 0) rfl rfl) hK hP hD hS hA hZ rfl rfl (Nat.le_of_ble_eq_true rfl) hl.1 dX2_count_130 ⟨Nat.zero_le _, Nat.zero_le _⟩ (fun u H locs hq hP hD hS => ?_)
                    obtain ⟨δ_111, rfl, hPs, hf0⟩ := hq
                    refine lv_iload_n hx hb dX2_count_133 rfl (lv_at hl 2 rfl) ?_
                    refine lv_aload_n hx hb dX2_count_134 rfl (lv_at hl 0 rfl) ?_
                    refine va_get (D := D) (ci := 1) (v := .int (nI (δ_111 2 0))) (C := RX2) (T := TX2) (N := 19) hx hb hts hin hown hK hP 0 rfl rfl 15 (by decide) (hts (.fieldLink RX2 82 "HandCasesModel" "seen" "I") (by decide +kernel)) (fun _ h9 => h9) rfl dX2_count_135 ?_
                    refine lv_iadd hx hb dX2_count_138 ?_
                    refine q_topi (nI ((sumN (roN σ) i) + (δ_111 2 0))) (nI_add (sumN (roN σ) i) (δ_111 2 0)) ?_
                    refine lv_istore_n (lv' := [(2, .int (nI ((sumN (roN σ) i) + (δ_111 2 0)))), (0, .ref (ad 0)), (1, .int 6), (3, .int (nI i))]) hx hb dX2_count_139 rfl hl (by decide) rfl (fun ls hl => ?_)
                    refine lv_iinc (v := nI (i + 1)) (lv' := [(3, .int (nI (i + 1))), (2, .int (nI ((sumN (roN σ) i) + (δ_111 2 0)))), (0, .ref (ad 0)), (1, .int 6)]) hx hb dX2_count_140 hl (k := 3) rfl (nI_add i 1) (by decide) rfl (fun ls hl => ?_)
                    refine lv_goto (tgt := 116) hx hb dX2_count_143 (by decide) ?_
                    exact ih (i + 1, δ_111, (-1)) _ _ _ ⟨by (try dsimp only); omega, hf0.trans h2, hP, hD, hS, lv_as (lv_sub hl [2, 3, 1, 0] rfl) (lv_c rfl (lv_c rfl (lv_c (congrArg Value.int (congrArg nI (by rw [hPs.1]; rfl))) (lv_c rfl rfl))))⟩ (by show 4 - (i + 1) < 4 - i; omega)
              · skip
                have c_101 := (cq_eq (show (6 : Int32).toInt = (6 : Int) from by decide) (show (5 : Int32).toInt = (5 : Int) from by decide)).mp c_101
                exfalso; omega
            · skip
              have c_100 := (cq_eq (show (6 : Int32).toInt = (6 : Int) from by decide) (show (4 : Int32).toInt = (4 : Int) from by decide)).mp c_100
              exfalso; omega
        · skip
          have c_98 := (cq_eq (show (6 : Int32).toInt = (6 : Int) from by decide) (show (3 : Int32).toInt = (3 : Int) from by decide)).mp c_98
          exfalso; omega
  have q_6 : ¬ p0.toInt = 6 := mt (cq_eq rfl (by decide : (6 : Int32).toInt = 6)).mpr q_6
  by_cases q_7 : p0 = 7
  · skip
    subst q_7
    refine lv_aload_n hx hb dX2_count_0 rfl (lv_at hl 0 rfl) ?_
    refine lv_iload_n hx hb dX2_count_1 rfl (lv_at hl 1 rfl) ?_
    refine lv_iconst (v := 0) hx hb dX2_count_2 (by decide) ?_
    refine lv_bipush (v := 8) hx hb dX2_count_3 (by decide) ?_
    refine call_si (As := [.int 7, .int 0, .int 8]) (rest := [.ref (ad 0)]) WAd_m ⟨hx, hb, hml, hown, hts⟩ (c_X2_in l cI cZ D ad pl tb _ σ δ w0 7 0 8) (va_cwS 3 hts gX2_count_X2_in rfl rfl rfl (by decide +kernel) ⟨Nat.le_of_ble_eq_true rfl, Nat.le_of_ble_eq_true rfl⟩) hK hP hD hS hA hZ rfl rfl (Nat.le_of_ble_eq_true rfl) hl.1 dX2_count_5 ⟨Nat.zero_le _, Nat.zero_le _⟩ (fun r u H locs hq hP hD hS => ?_)
    obtain ⟨rfl, rfl⟩ := hq
    refine lv_if_eq (tgt := 15) hx hb dX2_count_8 (by decide) (fun c_112 => ?_) (fun c_112 => ?_)
    · skip
      have c_112 : ¬ ((0 : Int32).toInt ≤ (7 : Int32).toInt ∧ (7 : Int32).toInt ≤ (8 : Int32).toInt) := pI_0.mp c_112
      have c_112 : ¬ ((0 : Int) ≤ (7 : Int) ∧ (7 : Int) ≤ (8 : Int)) := mt (in_c (show (7 : Int32).toInt = (7 : Int) from by decide) (show (0 : Int32).toInt = (0 : Int) from by decide) (show (8 : Int32).toInt = (8 : Int) from by decide)).mpr c_112
      exfalso; omega
    · skip
      have c_112 : (0 : Int32).toInt ≤ (7 : Int32).toInt ∧ (7 : Int32).toInt ≤ (8 : Int32).toInt := Decidable.not_not.mp (mt pI_0.mpr c_112)
      have c_112 : (0 : Int) ≤ (7 : Int) ∧ (7 : Int) ≤ (8 : Int) := (in_c (show (7 : Int32).toInt = (7 : Int) from by decide) (show (0 : Int32).toInt = (0 : Int) from by decide) (show (8 : Int32).toInt = (8 : Int) from by decide)).mp c_112
      refine lv_iconst (v := 0) hx hb dX2_count_11 (by decide) ?_
      refine lv_goto (tgt := 16) hx hb dX2_count_12 (by decide) ?_
      refine va_put (D := D) (ci := 1) (v := .int 0) (ty := .int) (C := RX2) (T := TX2) (N := 19) hx hb hts hin tyX2 tyX2_ok nmX2 hown hK hP hD hS 0 rfl rfl 1 (by decide) (hts (.fieldLink RX2 48 "HandCasesModel" "fault" "I") (by decide +kernel)) (fun _ h9 => h9) rfl (by decide +kernel) rfl rfl (Nat.le_of_ble_eq_true rfl) dX2_count_16 (fun H locs hP hD hS => ?_)
      have hP : va_P D vwCl (WM cI cZ ad (σ, setA δ 0 0 0, w0)) H := hP
      have hD : va_D (AC ad s.heap.size) (WM cI cZ ad (σ, setA δ 0 0 0, w0)) := hD
      refine lv_iconst (v := 0) hx hb dX2_count_19 (by decide) ?_
      refine lv_istore_n (lv' := [(2, .int 0), (0, .ref (ad 0)), (1, .int 7)]) hx hb dX2_count_20 rfl hl (by decide) rfl (fun ls hl => ?_)
      refine lv_iconst (v := 0) hx hb dX2_count_21 (by decide) ?_
      refine lv_istore_n (lv' := [(3, .int 0), (2, .int 0), (0, .ref (ad 0)), (1, .int 7)]) hx hb dX2_count_22 rfl hl (by decide) rfl (fun ls hl => ?_)
      refine lv_iload_n hx hb dX2_count_23 rfl (lv_at hl 0 rfl) ?_
      refine lv_aload_n hx hb dX2_count_24 rfl (lv_at hl 2 rfl) ?_
      refine va_get (D := D) (ci := 1) (v := .int (nI (σ 11 0))) (C := RX2) (T := TX2) (N := 19) hx hb hts hin hown hK hP 0 rfl rfl 8 (by decide) (hts (.fieldLink RX2 55 "HandCasesModel" "items" "I") (by decide +kernel)) (fun _ h9 => h9) rfl dX2_count_25 ?_
      have b_113 := b11 hI
      refine lv_icmp_ge (tgt := 67) hx hb dX2_count_28 (by decide) (fun c_114 => ?_) (fun c_114 => ?_)
      · skip
        have c_114 := (cq_le (nI_toInt (by omega)) (show (0 : Int32).toInt = (0 : Int) from by decide)).mp c_114
        refine lv_iconst (v := 0) hx hb dX2_count_67 (by decide) ?_
        refine lv_istore_n (lv' := [(3, .int 0), (2, .int 0), (0, .ref (ad 0)), (1, .int 7)]) hx hb dX2_count_68 rfl hl (by decide) rfl (fun ls hl => ?_)
        refine lv_iload_n hx hb dX2_count_69 rfl (lv_at hl 0 rfl) ?_
        refine lv_sipush (v := 200) hx hb dX2_count_70 (by decide) ?_
        refine lv_icmp_ge (tgt := 104) hx hb dX2_count_73 (by decide) (fun c_115 => ?_) (fun c_115 => ?_)
        · skip
          have c_115 := (cq_le (show (200 : Int32).toInt = (200 : Int) from by decide) (show (0 : Int32).toInt = (0 : Int) from by decide)).mp c_115
          exfalso; omega
        · skip
          have c_115 := mt (cq_le (show (200 : Int32).toInt = (200 : Int) from by decide) (show (0 : Int32).toInt = (0 : Int) from by decide)).mpr c_115
          refine lv_iload_n hx hb dX2_count_76 rfl (lv_at hl 3 rfl) ?_
          refine lv_iconst (v := 4) hx hb dX2_count_77 (by decide) ?_
          refine lv_icmp_ne (tgt := 104) hx hb dX2_count_78 (by decide) (fun c_116 => ?_) (fun c_116 => ?_)
          · skip
            have c_116 := mt (cq_eq (show (7 : Int32).toInt = (7 : Int) from by decide) (show (4 : Int32).toInt = (4 : Int) from by decide)).mpr c_116
            refine lv_iload_n hx hb dX2_count_104 rfl (lv_at hl 3 rfl) ?_
            refine lv_iconst (v := 5) hx hb dX2_count_105 (by decide) ?_
            refine lv_icmp_ne (tgt := 114) hx hb dX2_count_106 (by decide) (fun c_117 => ?_) (fun c_117 => ?_)
            · skip
              have c_117 := mt (cq_eq (show (7 : Int32).toInt = (7 : Int) from by decide) (show (5 : Int32).toInt = (5 : Int) from by decide)).mpr c_117
              refine lv_iconst (v := 0) hx hb dX2_count_114 (by decide) ?_
              refine lv_istore_n (lv' := [(3, .int 0), (2, .int 0), (0, .ref (ad 0)), (1, .int 7)]) hx hb dX2_count_115 rfl hl (by decide) rfl (fun ls hl => ?_)
              refine lv_iload_n hx hb dX2_count_116 rfl (lv_at hl 0 rfl) ?_
              refine lv_iconst (v := 4) hx hb dX2_count_117 (by decide) ?_
              refine lv_icmp_ge (tgt := 146) hx hb dX2_count_118 (by decide) (fun c_118 => ?_) (fun c_118 => ?_)
              · skip
                have c_118 := (cq_le (show (4 : Int32).toInt = (4 : Int) from by decide) (show (0 : Int32).toInt = (0 : Int) from by decide)).mp c_118
                exfalso; omega
              · skip
                have c_118 := mt (cq_le (show (4 : Int32).toInt = (4 : Int) from by decide) (show (0 : Int32).toInt = (0 : Int) from by decide)).mpr c_118
                refine lv_iload_n hx hb dX2_count_121 rfl (lv_at hl 3 rfl) ?_
                refine lv_bipush (v := 6) hx hb dX2_count_122 (by decide) ?_
                refine lv_icmp_ne (tgt := 146) hx hb dX2_count_124 (by decide) (fun c_119 => ?_) (fun c_119 => ?_)
                · skip
                  have c_119 := mt (cq_eq (show (7 : Int32).toInt = (7 : Int) from by decide) (show (6 : Int32).toInt = (6 : Int) from by decide)).mpr c_119
                  refine lv_iconst (v := 0) hx hb dX2_count_146 (by decide) ?_
                  refine lv_istore_n (lv' := [(3, .int 0), (2, .int 0), (0, .ref (ad 0)), (1, .int 7)]) hx hb dX2_count_147 rfl hl (by decide) rfl (fun ls hl => ?_)
                  refine W_loop (ι := Nat × Sg × Int32) 148 (fun (x : Nat × Sg × Int32) H locs ls => (x.1 ≤ 200) ∧ (x.2.1 0 0 = 0) ∧ va_P D vwCl (WM cI cZ ad (σ, x.2.1, x.2.2)) H ∧ va_D (AC ad s.heap.size) (WM cI cZ ad (σ, x.2.1, x.2.2)) ∧ va_S (AC ad s.heap.size) s.heap H locs ∧ lv_has ls 4 [(0, .ref (ad 0)), (1, .int 7), (2, .int (nI (sumN (drF σ) x.1))), (3, .int (nI x.1))]) (fun (x : Nat × Sg × Int32) => 200 - x.1) ?_ (0, (setA δ 0 0 0), w0) _ _ _ ⟨by (try dsimp only); omega, rfl, hP, hD, hS, lv_as (lv_sub hl [2, 3, 1, 0] rfl) (lv_c rfl (lv_c rfl (lv_c (congrArg Value.int (by rfl)) (lv_c (congrArg Value.int (by rfl)) rfl))))⟩
                  intro ⟨i, δ1, w1⟩ H locs ls ⟨h1, h2, hP, hD, hS, hl⟩ ih
                  dsimp only at h1 h2 hP hD hl ih
                  refine lv_iload_n hx hb dX2_count_148 rfl (lv_at hl 3 rfl) ?_
                  refine lv_sipush (v := 200) hx hb dX2_count_149 (by decide) ?_
                  refine lv_icmp_ge (tgt := 193) hx hb dX2_count_152 (by decide) (fun c_120 => ?_) (fun c_120 => ?_)
                  · skip
                    have c_120 := (cq_le (show (200 : Int32).toInt = (200 : Int) from by decide) (nI_toInt (by omega))).mp c_120
                    refine lv_iload_n hx hb dX2_count_193 rfl (lv_at hl 1 rfl) ?_
                    refine lv_bipush (v := 8) hx hb dX2_count_194 (by decide) ?_
                    refine lv_icmp_ne (tgt := 209) hx hb dX2_count_196 (by decide) (fun c_121 => ?_) (fun c_121 => ?_)
                    · skip
                      have c_121 := mt (cq_eq (show (7 : Int32).toInt = (7 : Int) from by decide) (show (8 : Int32).toInt = (8 : Int) from by decide)).mpr c_121
                      refine lv_aload_n hx hb dX2_count_209 rfl (lv_at hl 0 rfl) ?_
                      refine va_get (D := D) (ci := 1) (v := .int (nI (δ1 0 0))) (C := RX2) (T := TX2) (N := 19) hx hb hts hin hown hK hP 0 rfl rfl 1 (by decide) (hts (.fieldLink RX2 48 "HandCasesModel" "fault" "I") (by decide +kernel)) (fun _ h9 => h9) rfl dX2_count_210 ?_
                      refine lv_if_le (tgt := 220) hx hb dX2_count_213 (by decide) (fun c_122 => ?_) (fun c_122 => ?_)
                      · skip
                        have c_122 := (cq_le (nI_toInt (by omega)) (show (0 : Int32).toInt = (0 : Int) from by decide)).mp c_122
                        refine lv_iload_n hx hb dX2_count_220 rfl (lv_at hl 1 rfl) ?_
                        refine lv_if_ne (tgt := 231) hx hb dX2_count_221 (by decide) (fun c_123 => ?_) (fun c_123 => ?_)
                        · skip
                          have c_123 := mt (cq_eq (show (7 : Int32).toInt = (7 : Int) from by decide) (show (0 : Int32).toInt = (0 : Int) from by decide)).mpr c_123
                          refine lv_iload_n hx hb dX2_count_231 rfl (lv_at hl 1 rfl) ?_
                          refine lv_iconst (v := 1) hx hb dX2_count_232 (by decide) ?_
                          refine lv_icmp_ne (tgt := 243) hx hb dX2_count_233 (by decide) (fun c_124 => ?_) (fun c_124 => ?_)
                          · skip
                            have c_124 := mt (cq_eq (show (7 : Int32).toInt = (7 : Int) from by decide) (show (1 : Int32).toInt = (1 : Int) from by decide)).mpr c_124
                            refine lv_iload_n hx hb dX2_count_243 rfl (lv_at hl 1 rfl) ?_
                            refine lv_iconst (v := 2) hx hb dX2_count_244 (by decide) ?_
                            refine lv_icmp_ne (tgt := 255) hx hb dX2_count_245 (by decide) (fun c_125 => ?_) (fun c_125 => ?_)
                            · skip
                              have c_125 := mt (cq_eq (show (7 : Int32).toInt = (7 : Int) from by decide) (show (2 : Int32).toInt = (2 : Int) from by decide)).mpr c_125
                              refine lv_iload_n hx hb dX2_count_255 rfl (lv_at hl 2 rfl) ?_
                              have eo : oCnt σ (7) = (0, nI (sumN (drF σ) i)) := (oCnt_lit (k := 7) (by decide) (by decide)).trans (by show ((0 : Nat), nI (sumN (atF σ 2) (σ 11 0))) = _; rw [show i = 200 from by omega, P_drawer hI])
                              exact ret_i (σ, δ1, w1) hx hb hr rfl hK hlocks hP hD hS ⟨δ1, w1, rfl, by rw [eo], by rw [eo]; exact h2⟩ dX2_count_256
                            · skip
                              have c_125 := (cq_eq (show (7 : Int32).toInt = (7 : Int) from by decide) (show (2 : Int32).toInt = (2 : Int) from by decide)).mp c_125
                              exfalso; omega
                          · skip
                            have c_124 := (cq_eq (show (7 : Int32).toInt = (7 : Int) from by decide) (show (1 : Int32).toInt = (1 : Int) from by decide)).mp c_124
                            exfalso; omega
                        · skip
                          have c_123 := (cq_eq (show (7 : Int32).toInt = (7 : Int) from by decide) (show (0 : Int32).toInt = (0 : Int) from by decide)).mp c_123
                          exfalso; omega
                      · skip
                        have c_122 := mt (cq_le (nI_toInt (by omega)) (show (0 : Int32).toInt = (0 : Int) from by decide)).mpr c_122
                        exfalso; omega
                    · skip
                      have c_121 := (cq_eq (show (7 : Int32).toInt = (7 : Int) from by decide) (show (8 : Int32).toInt = (8 : Int) from by decide)).mp c_121
                      exfalso; omega
                  · skip
                    have c_120 := mt (cq_le (show (200 : Int32).toInt = (200 : Int) from by decide) (nI_toInt (by omega))).mpr c_120
                    refine lv_iload_n hx hb dX2_count_155 rfl (lv_at hl 1 rfl) ?_
                    refine lv_bipush (v := 7) hx hb dX2_count_156 (by decide) ?_
                    refine lv_icmp_ne (tgt := 193) hx hb dX2_count_158 (by decide) (fun c_126 => ?_) (fun c_126 => ?_)
                    · skip
                      have c_126 := mt (cq_eq (show (7 : Int32).toInt = (7 : Int) from by decide) (show (7 : Int32).toInt = (7 : Int) from by decide)).mpr c_126
                      exfalso; omega
                    · skip
                      have c_126 := (cq_eq (show (7 : Int32).toInt = (7 : Int) from by decide) (show (7 : Int32).toInt = (7 : Int) from by decide)).mp c_126
                      refine lv_aload_n hx hb dX2_count_161 rfl (lv_at hl 0 rfl) ?_
                      refine lv_iconst (v := (-1)) hx hb dX2_count_162 (by decide) ?_
                      refine call_v (As := [.int (-1)]) (rest := []) WAd_m ⟨hx, hb, hml, hown, hts⟩ (c_X2_begin l cI cZ D ad pl tb _ σ δ1 w1 (-1)) (cwV 1 hts gX2_count_X2_begin rfl rfl rfl (by decide +kernel) ⟨Nat.le_of_ble_eq_true rfl, Nat.le_of_ble_eq_true rfl⟩) (va_recv hK hP (ci := 1) (q0 := 0) rfl rfl) hK hP hD hS hA hZ rfl rfl (Nat.le_of_ble_eq_true rfl) hl.1 dX2_count_163 ⟨Nat.zero_le _, Nat.zero_le _⟩ (fun u H locs hq hP hD hS => ?_)
                      obtain ⟨δ_127, rfl, hPs, hf0⟩ := hq
                      have hfB := hf0
                      refine lv_aload_n hx hb dX2_count_166 rfl (lv_at hl 0 rfl) ?_
                      refine lv_iload_n hx hb dX2_count_167 rfl (lv_at hl 3 rfl) ?_
                      refine call_i (As := [.int (nI i)]) (rest := []) WAd_m ⟨hx, hb, hml, hown, hts⟩ (c_X2_isHouse l cI cZ D ad pl tb _ σ δ_127 (-1) (nI i) hI) (cwV 1 hts gX2_count_X2_isHouse rfl rfl rfl (by decide +kernel) ⟨Nat.le_of_ble_eq_true rfl, Nat.le_of_ble_eq_true rfl⟩) (va_recv hK hP (ci := 1) (q0 := 0) rfl rfl) hK hP hD hS hA hZ rfl rfl (Nat.le_of_ble_eq_true rfl) hl.1 dX2_count_168 ⟨Nat.zero_le _, Nat.zero_le _⟩ (fun r u H locs hq hP hD hS => ?_)
                      obtain ⟨rfl, rfl⟩ := hq
                      refine lv_if_eq (tgt := 180) hx hb dX2_count_171 (by decide) (fun c_128 => ?_) (fun c_128 => ?_)
                      · skip
                        have c_128 : ¬ (0 ≤ (nI i).toInt ∧ (nI i).toInt < 200 ∧ σ 1 (nI i).toInt.toNat ≠ 0) := pI_0.mp c_128
                        have c_128 : ¬ (σ 1 i ≠ 0) := mt (isH_n (by omega)).mpr c_128
                        refine lv_iload_n hx hb dX2_count_180 rfl (lv_at hl 2 rfl) ?_
                        refine lv_aload_n hx hb dX2_count_181 rfl (lv_at hl 0 rfl) ?_
                        refine va_get (D := D) (ci := 1) (v := .int (nI (δ_127 2 0))) (C := RX2) (T := TX2) (N := 19) hx hb hts hin hown hK hP 0 rfl rfl 15 (by decide) (hts (.fieldLink RX2 82 "HandCasesModel" "seen" "I") (by decide +kernel)) (fun _ h9 => h9) rfl dX2_count_182 ?_
                        refine lv_iadd hx hb dX2_count_185 ?_
                        refine q_topi (nI ((sumN (drF σ) i) + (δ_127 2 0))) (nI_add (sumN (drF σ) i) (δ_127 2 0)) ?_
                        refine lv_istore_n (lv' := [(2, .int (nI ((sumN (drF σ) i) + (δ_127 2 0)))), (0, .ref (ad 0)), (1, .int 7), (3, .int (nI i))]) hx hb dX2_count_186 rfl hl (by decide) rfl (fun ls hl => ?_)
                        refine lv_iinc (v := nI (i + 1)) (lv' := [(3, .int (nI (i + 1))), (2, .int (nI ((sumN (drF σ) i) + (δ_127 2 0)))), (0, .ref (ad 0)), (1, .int 7)]) hx hb dX2_count_187 hl (k := 3) rfl (nI_add i 1) (by decide) rfl (fun ls hl => ?_)
                        refine lv_goto (tgt := 148) hx hb dX2_count_190 (by decide) ?_
                        exact ih (i + 1, δ_127, (-1)) _ _ _ ⟨by (try dsimp only); omega, hf0.trans h2, hP, hD, hS, lv_as (lv_sub hl [2, 3, 1, 0] rfl) (lv_c rfl (lv_c rfl (lv_c (congrArg Value.int (congrArg nI (by have e9 : drF σ i = 0 := if_pos (by omega); show _ = sumN (drF σ) i + drF σ i; rw [hPs.1, e9]; rfl))) (lv_c rfl rfl))))⟩ (by show 200 - (i + 1) < 200 - i; omega)
                      · skip
                        have c_128 : 0 ≤ (nI i).toInt ∧ (nI i).toInt < 200 ∧ σ 1 (nI i).toInt.toNat ≠ 0 := Decidable.not_not.mp (mt pI_0.mpr c_128)
                        have c_128 : σ 1 i ≠ 0 := (isH_n (by omega)).mp c_128
                        refine lv_aload_n hx hb dX2_count_174 rfl (lv_at hl 0 rfl) ?_
                        refine lv_iload_n hx hb dX2_count_175 rfl (lv_at hl 3 rfl) ?_
                        refine lv_iconst (v := 3) hx hb dX2_count_176 (by decide) ?_
                        refine call_v (As := [.int (nI i), .int 3]) (rest := []) WAd_m ⟨hx, hb, hml, hown, hts⟩ (c_X2_passHouse l cI cZ D ad pl tb _ σ δ_127 (-1) i 3 2 ([]) hI (by omega) goe_3 hPs (by simp)) (cwV 2 hts gX2_count_X2_passHouse rfl rfl rfl (by decide +kernel) ⟨Nat.le_of_ble_eq_true rfl, Nat.le_of_ble_eq_true rfl⟩) (va_recv hK hP (ci := 1) (q0 := 0) rfl rfl) hK hP hD hS hA hZ rfl rfl (Nat.le_of_ble_eq_true rfl) hl.1 dX2_count_177 ⟨Nat.zero_le _, Nat.zero_le _⟩ (fun u H locs hq hP hD hS => ?_)
                        obtain ⟨δ_129, rfl, hPs, hf0⟩ := hq
                        refine lv_iload_n hx hb dX2_count_180 rfl (lv_at hl 2 rfl) ?_
                        refine lv_aload_n hx hb dX2_count_181 rfl (lv_at hl 0 rfl) ?_
                        refine va_get (D := D) (ci := 1) (v := .int (nI (δ_129 2 0))) (C := RX2) (T := TX2) (N := 19) hx hb hts hin hown hK hP 0 rfl rfl 15 (by decide) (hts (.fieldLink RX2 82 "HandCasesModel" "seen" "I") (by decide +kernel)) (fun _ h9 => h9) rfl dX2_count_182 ?_
                        refine lv_iadd hx hb dX2_count_185 ?_
                        refine q_topi (nI ((sumN (drF σ) i) + (δ_129 2 0))) (nI_add (sumN (drF σ) i) (δ_129 2 0)) ?_
                        refine lv_istore_n (lv' := [(2, .int (nI ((sumN (drF σ) i) + (δ_129 2 0)))), (0, .ref (ad 0)), (1, .int 7), (3, .int (nI i))]) hx hb dX2_count_186 rfl hl (by decide) rfl (fun ls hl => ?_)
                        refine lv_iinc (v := nI (i + 1)) (lv' := [(3, .int (nI (i + 1))), (2, .int (nI ((sumN (drF σ) i) + (δ_129 2 0)))), (0, .ref (ad 0)), (1, .int 7)]) hx hb dX2_count_187 hl (k := 3) rfl (nI_add i 1) (by decide) rfl (fun ls hl => ?_)
                        refine lv_goto (tgt := 148) hx hb dX2_count_190 (by decide) ?_
                        exact ih (i + 1, δ_129, (-1)) _ _ _ ⟨by (try dsimp only); omega, hf0.trans (hfB.trans h2), hP, hD, hS, lv_as (lv_sub hl [2, 3, 1, 0] rfl) (lv_c rfl (lv_c rfl (lv_c (congrArg Value.int (congrArg nI (by have e9 : drF σ i = (hL σ i 2).length := if_neg (by omega); show _ = sumN (drF σ) i + drF σ i; rw [hPs.1, e9]; rfl))) (lv_c rfl rfl))))⟩ (by show 200 - (i + 1) < 200 - i; omega)
                · skip
                  have c_119 := (cq_eq (show (7 : Int32).toInt = (7 : Int) from by decide) (show (6 : Int32).toInt = (6 : Int) from by decide)).mp c_119
                  exfalso; omega
            · skip
              have c_117 := (cq_eq (show (7 : Int32).toInt = (7 : Int) from by decide) (show (5 : Int32).toInt = (5 : Int) from by decide)).mp c_117
              exfalso; omega
          · skip
            have c_116 := (cq_eq (show (7 : Int32).toInt = (7 : Int) from by decide) (show (4 : Int32).toInt = (4 : Int) from by decide)).mp c_116
            exfalso; omega
      · skip
        have c_114 := mt (cq_le (nI_toInt (by omega)) (show (0 : Int32).toInt = (0 : Int) from by decide)).mpr c_114
        refine lv_iload_n hx hb dX2_count_31 rfl (lv_at hl 3 rfl) ?_
        refine lv_iconst (v := 3) hx hb dX2_count_32 (by decide) ?_
        refine lv_icmp_ne (tgt := 67) hx hb dX2_count_33 (by decide) (fun c_130 => ?_) (fun c_130 => ?_)
        · skip
          have c_130 := mt (cq_eq (show (7 : Int32).toInt = (7 : Int) from by decide) (show (3 : Int32).toInt = (3 : Int) from by decide)).mpr c_130
          refine lv_iconst (v := 0) hx hb dX2_count_67 (by decide) ?_
          refine lv_istore_n (lv' := [(3, .int 0), (2, .int 0), (0, .ref (ad 0)), (1, .int 7)]) hx hb dX2_count_68 rfl hl (by decide) rfl (fun ls hl => ?_)
          refine lv_iload_n hx hb dX2_count_69 rfl (lv_at hl 0 rfl) ?_
          refine lv_sipush (v := 200) hx hb dX2_count_70 (by decide) ?_
          refine lv_icmp_ge (tgt := 104) hx hb dX2_count_73 (by decide) (fun c_131 => ?_) (fun c_131 => ?_)
          · skip
            have c_131 := (cq_le (show (200 : Int32).toInt = (200 : Int) from by decide) (show (0 : Int32).toInt = (0 : Int) from by decide)).mp c_131
            exfalso; omega
          · skip
            have c_131 := mt (cq_le (show (200 : Int32).toInt = (200 : Int) from by decide) (show (0 : Int32).toInt = (0 : Int) from by decide)).mpr c_131
            refine lv_iload_n hx hb dX2_count_76 rfl (lv_at hl 3 rfl) ?_
            refine lv_iconst (v := 4) hx hb dX2_count_77 (by decide) ?_
            refine lv_icmp_ne (tgt := 104) hx hb dX2_count_78 (by decide) (fun c_132 => ?_) (fun c_132 => ?_)
            · skip
              have c_132 := mt (cq_eq (show (7 : Int32).toInt = (7 : Int) from by decide) (show (4 : Int32).toInt = (4 : Int) from by decide)).mpr c_132
              refine lv_iload_n hx hb dX2_count_104 rfl (lv_at hl 3 rfl) ?_
              refine lv_iconst (v := 5) hx hb dX2_count_105 (by decide) ?_
              refine lv_icmp_ne (tgt := 114) hx hb dX2_count_106 (by decide) (fun c_133 => ?_) (fun c_133 => ?_)
              · skip
                have c_133 := mt (cq_eq (show (7 : Int32).toInt = (7 : Int) from by decide) (show (5 : Int32).toInt = (5 : Int) from by decide)).mpr c_133
                refine lv_iconst (v := 0) hx hb dX2_count_114 (by decide) ?_
                refine lv_istore_n (lv' := [(3, .int 0), (2, .int 0), (0, .ref (ad 0)), (1, .int 7)]) hx hb dX2_count_115 rfl hl (by decide) rfl (fun ls hl => ?_)
                refine lv_iload_n hx hb dX2_count_116 rfl (lv_at hl 0 rfl) ?_
                refine lv_iconst (v := 4) hx hb dX2_count_117 (by decide) ?_
                refine lv_icmp_ge (tgt := 146) hx hb dX2_count_118 (by decide) (fun c_134 => ?_) (fun c_134 => ?_)
                · skip
                  have c_134 := (cq_le (show (4 : Int32).toInt = (4 : Int) from by decide) (show (0 : Int32).toInt = (0 : Int) from by decide)).mp c_134
                  exfalso; omega
                · skip
                  have c_134 := mt (cq_le (show (4 : Int32).toInt = (4 : Int) from by decide) (show (0 : Int32).toInt = (0 : Int) from by decide)).mpr c_134
                  refine lv_iload_n hx hb dX2_count_121 rfl (lv_at hl 3 rfl) ?_
                  refine lv_bipush (v := 6) hx hb dX2_count_122 (by decide) ?_
                  refine lv_icmp_ne (tgt := 146) hx hb dX2_count_124 (by decide) (fun c_135 => ?_) (fun c_135 => ?_)
                  · skip
                    have c_135 := mt (cq_eq (show (7 : Int32).toInt = (7 : Int) from by decide) (show (6 : Int32).toInt = (6 : Int) from by decide)).mpr c_135
                    refine lv_iconst (v := 0) hx hb dX2_count_146 (by decide) ?_
                    refine lv_istore_n (lv' := [(3, .int 0), (2, .int 0), (0, .ref (ad 0)), (1, .int 7)]) hx hb dX2_count_147 rfl hl (by decide) rfl (fun ls hl => ?_)
                    refine W_loop (ι := Nat × Sg × Int32) 148 (fun (x : Nat × Sg × Int32) H locs ls => (x.1 ≤ 200) ∧ (x.2.1 0 0 = 0) ∧ va_P D vwCl (WM cI cZ ad (σ, x.2.1, x.2.2)) H ∧ va_D (AC ad s.heap.size) (WM cI cZ ad (σ, x.2.1, x.2.2)) ∧ va_S (AC ad s.heap.size) s.heap H locs ∧ lv_has ls 4 [(0, .ref (ad 0)), (1, .int 7), (2, .int (nI (sumN (drF σ) x.1))), (3, .int (nI x.1))]) (fun (x : Nat × Sg × Int32) => 200 - x.1) ?_ (0, (setA δ 0 0 0), w0) _ _ _ ⟨by (try dsimp only); omega, rfl, hP, hD, hS, lv_as (lv_sub hl [2, 3, 1, 0] rfl) (lv_c rfl (lv_c rfl (lv_c (congrArg Value.int (by rfl)) (lv_c (congrArg Value.int (by rfl)) rfl))))⟩
                    intro ⟨i, δ1, w1⟩ H locs ls ⟨h1, h2, hP, hD, hS, hl⟩ ih
                    dsimp only at h1 h2 hP hD hl ih
                    refine lv_iload_n hx hb dX2_count_148 rfl (lv_at hl 3 rfl) ?_
                    refine lv_sipush (v := 200) hx hb dX2_count_149 (by decide) ?_
                    refine lv_icmp_ge (tgt := 193) hx hb dX2_count_152 (by decide) (fun c_136 => ?_) (fun c_136 => ?_)
                    · skip
                      have c_136 := (cq_le (show (200 : Int32).toInt = (200 : Int) from by decide) (nI_toInt (by omega))).mp c_136
                      refine lv_iload_n hx hb dX2_count_193 rfl (lv_at hl 1 rfl) ?_
                      refine lv_bipush (v := 8) hx hb dX2_count_194 (by decide) ?_
                      refine lv_icmp_ne (tgt := 209) hx hb dX2_count_196 (by decide) (fun c_137 => ?_) (fun c_137 => ?_)
                      · skip
                        have c_137 := mt (cq_eq (show (7 : Int32).toInt = (7 : Int) from by decide) (show (8 : Int32).toInt = (8 : Int) from by decide)).mpr c_137
                        refine lv_aload_n hx hb dX2_count_209 rfl (lv_at hl 0 rfl) ?_
                        refine va_get (D := D) (ci := 1) (v := .int (nI (δ1 0 0))) (C := RX2) (T := TX2) (N := 19) hx hb hts hin hown hK hP 0 rfl rfl 1 (by decide) (hts (.fieldLink RX2 48 "HandCasesModel" "fault" "I") (by decide +kernel)) (fun _ h9 => h9) rfl dX2_count_210 ?_
                        refine lv_if_le (tgt := 220) hx hb dX2_count_213 (by decide) (fun c_138 => ?_) (fun c_138 => ?_)
                        · skip
                          have c_138 := (cq_le (nI_toInt (by omega)) (show (0 : Int32).toInt = (0 : Int) from by decide)).mp c_138
                          refine lv_iload_n hx hb dX2_count_220 rfl (lv_at hl 1 rfl) ?_
                          refine lv_if_ne (tgt := 231) hx hb dX2_count_221 (by decide) (fun c_139 => ?_) (fun c_139 => ?_)
                          · skip
                            have c_139 := mt (cq_eq (show (7 : Int32).toInt = (7 : Int) from by decide) (show (0 : Int32).toInt = (0 : Int) from by decide)).mpr c_139
                            refine lv_iload_n hx hb dX2_count_231 rfl (lv_at hl 1 rfl) ?_
                            refine lv_iconst (v := 1) hx hb dX2_count_232 (by decide) ?_
                            refine lv_icmp_ne (tgt := 243) hx hb dX2_count_233 (by decide) (fun c_140 => ?_) (fun c_140 => ?_)
                            · skip
                              have c_140 := mt (cq_eq (show (7 : Int32).toInt = (7 : Int) from by decide) (show (1 : Int32).toInt = (1 : Int) from by decide)).mpr c_140
                              refine lv_iload_n hx hb dX2_count_243 rfl (lv_at hl 1 rfl) ?_
                              refine lv_iconst (v := 2) hx hb dX2_count_244 (by decide) ?_
                              refine lv_icmp_ne (tgt := 255) hx hb dX2_count_245 (by decide) (fun c_141 => ?_) (fun c_141 => ?_)
                              · skip
                                have c_141 := mt (cq_eq (show (7 : Int32).toInt = (7 : Int) from by decide) (show (2 : Int32).toInt = (2 : Int) from by decide)).mpr c_141
                                refine lv_iload_n hx hb dX2_count_255 rfl (lv_at hl 2 rfl) ?_
                                have eo : oCnt σ (7) = (0, nI (sumN (drF σ) i)) := (oCnt_lit (k := 7) (by decide) (by decide)).trans (by show ((0 : Nat), nI (sumN (atF σ 2) (σ 11 0))) = _; rw [show i = 200 from by omega, P_drawer hI])
                                exact ret_i (σ, δ1, w1) hx hb hr rfl hK hlocks hP hD hS ⟨δ1, w1, rfl, by rw [eo], by rw [eo]; exact h2⟩ dX2_count_256
                              · skip
                                have c_141 := (cq_eq (show (7 : Int32).toInt = (7 : Int) from by decide) (show (2 : Int32).toInt = (2 : Int) from by decide)).mp c_141
                                exfalso; omega
                            · skip
                              have c_140 := (cq_eq (show (7 : Int32).toInt = (7 : Int) from by decide) (show (1 : Int32).toInt = (1 : Int) from by decide)).mp c_140
                              exfalso; omega
                          · skip
                            have c_139 := (cq_eq (show (7 : Int32).toInt = (7 : Int) from by decide) (show (0 : Int32).toInt = (0 : Int) from by decide)).mp c_139
                            exfalso; omega
                        · skip
                          have c_138 := mt (cq_le (nI_toInt (by omega)) (show (0 : Int32).toInt = (0 : Int) from by decide)).mpr c_138
                          exfalso; omega
                      · skip
                        have c_137 := (cq_eq (show (7 : Int32).toInt = (7 : Int) from by decide) (show (8 : Int32).toInt = (8 : Int) from by decide)).mp c_137
                        exfalso; omega
                    · skip
                      have c_136 := mt (cq_le (show (200 : Int32).toInt = (200 : Int) from by decide) (nI_toInt (by omega))).mpr c_136
                      refine lv_iload_n hx hb dX2_count_155 rfl (lv_at hl 1 rfl) ?_
                      refine lv_bipush (v := 7) hx hb dX2_count_156 (by decide) ?_
                      refine lv_icmp_ne (tgt := 193) hx hb dX2_count_158 (by decide) (fun c_142 => ?_) (fun c_142 => ?_)
                      · skip
                        have c_142 := mt (cq_eq (show (7 : Int32).toInt = (7 : Int) from by decide) (show (7 : Int32).toInt = (7 : Int) from by decide)).mpr c_142
                        exfalso; omega
                      · skip
                        have c_142 := (cq_eq (show (7 : Int32).toInt = (7 : Int) from by decide) (show (7 : Int32).toInt = (7 : Int) from by decide)).mp c_142
                        refine lv_aload_n hx hb dX2_count_161 rfl (lv_at hl 0 rfl) ?_
                        refine lv_iconst (v := (-1)) hx hb dX2_count_162 (by decide) ?_
                        refine call_v (As := [.int (-1)]) (rest := []) WAd_m ⟨hx, hb, hml, hown, hts⟩ (c_X2_begin l cI cZ D ad pl tb _ σ δ1 w1 (-1)) (cwV 1 hts gX2_count_X2_begin rfl rfl rfl (by decide +kernel) ⟨Nat.le_of_ble_eq_true rfl, Nat.le_of_ble_eq_true rfl⟩) (va_recv hK hP (ci := 1) (q0 := 0) rfl rfl) hK hP hD hS hA hZ rfl rfl (Nat.le_of_ble_eq_true rfl) hl.1 dX2_count_163 ⟨Nat.zero_le _, Nat.zero_le _⟩ (fun u H locs hq hP hD hS => ?_)
                        obtain ⟨δ_143, rfl, hPs, hf0⟩ := hq
                        have hfB := hf0
                        refine lv_aload_n hx hb dX2_count_166 rfl (lv_at hl 0 rfl) ?_
                        refine lv_iload_n hx hb dX2_count_167 rfl (lv_at hl 3 rfl) ?_
                        refine call_i (As := [.int (nI i)]) (rest := []) WAd_m ⟨hx, hb, hml, hown, hts⟩ (c_X2_isHouse l cI cZ D ad pl tb _ σ δ_143 (-1) (nI i) hI) (cwV 1 hts gX2_count_X2_isHouse rfl rfl rfl (by decide +kernel) ⟨Nat.le_of_ble_eq_true rfl, Nat.le_of_ble_eq_true rfl⟩) (va_recv hK hP (ci := 1) (q0 := 0) rfl rfl) hK hP hD hS hA hZ rfl rfl (Nat.le_of_ble_eq_true rfl) hl.1 dX2_count_168 ⟨Nat.zero_le _, Nat.zero_le _⟩ (fun r u H locs hq hP hD hS => ?_)
                        obtain ⟨rfl, rfl⟩ := hq
                        refine lv_if_eq (tgt := 180) hx hb dX2_count_171 (by decide) (fun c_144 => ?_) (fun c_144 => ?_)
                        · skip
                          have c_144 : ¬ (0 ≤ (nI i).toInt ∧ (nI i).toInt < 200 ∧ σ 1 (nI i).toInt.toNat ≠ 0) := pI_0.mp c_144
                          have c_144 : ¬ (σ 1 i ≠ 0) := mt (isH_n (by omega)).mpr c_144
                          refine lv_iload_n hx hb dX2_count_180 rfl (lv_at hl 2 rfl) ?_
                          refine lv_aload_n hx hb dX2_count_181 rfl (lv_at hl 0 rfl) ?_
                          refine va_get (D := D) (ci := 1) (v := .int (nI (δ_143 2 0))) (C := RX2) (T := TX2) (N := 19) hx hb hts hin hown hK hP 0 rfl rfl 15 (by decide) (hts (.fieldLink RX2 82 "HandCasesModel" "seen" "I") (by decide +kernel)) (fun _ h9 => h9) rfl dX2_count_182 ?_
                          refine lv_iadd hx hb dX2_count_185 ?_
                          refine q_topi (nI ((sumN (drF σ) i) + (δ_143 2 0))) (nI_add (sumN (drF σ) i) (δ_143 2 0)) ?_
                          refine lv_istore_n (lv' := [(2, .int (nI ((sumN (drF σ) i) + (δ_143 2 0)))), (0, .ref (ad 0)), (1, .int 7), (3, .int (nI i))]) hx hb dX2_count_186 rfl hl (by decide) rfl (fun ls hl => ?_)
                          refine lv_iinc (v := nI (i + 1)) (lv' := [(3, .int (nI (i + 1))), (2, .int (nI ((sumN (drF σ) i) + (δ_143 2 0)))), (0, .ref (ad 0)), (1, .int 7)]) hx hb dX2_count_187 hl (k := 3) rfl (nI_add i 1) (by decide) rfl (fun ls hl => ?_)
                          refine lv_goto (tgt := 148) hx hb dX2_count_190 (by decide) ?_
                          exact ih (i + 1, δ_143, (-1)) _ _ _ ⟨by (try dsimp only); omega, hf0.trans h2, hP, hD, hS, lv_as (lv_sub hl [2, 3, 1, 0] rfl) (lv_c rfl (lv_c rfl (lv_c (congrArg Value.int (congrArg nI (by have e9 : drF σ i = 0 := if_pos (by omega); show _ = sumN (drF σ) i + drF σ i; rw [hPs.1, e9]; rfl))) (lv_c rfl rfl))))⟩ (by show 200 - (i + 1) < 200 - i; omega)
                        · skip
                          have c_144 : 0 ≤ (nI i).toInt ∧ (nI i).toInt < 200 ∧ σ 1 (nI i).toInt.toNat ≠ 0 := Decidable.not_not.mp (mt pI_0.mpr c_144)
                          have c_144 : σ 1 i ≠ 0 := (isH_n (by omega)).mp c_144
                          refine lv_aload_n hx hb dX2_count_174 rfl (lv_at hl 0 rfl) ?_
                          refine lv_iload_n hx hb dX2_count_175 rfl (lv_at hl 3 rfl) ?_
                          refine lv_iconst (v := 3) hx hb dX2_count_176 (by decide) ?_
                          refine call_v (As := [.int (nI i), .int 3]) (rest := []) WAd_m ⟨hx, hb, hml, hown, hts⟩ (c_X2_passHouse l cI cZ D ad pl tb _ σ δ_143 (-1) i 3 2 ([]) hI (by omega) goe_3 hPs (by simp)) (cwV 2 hts gX2_count_X2_passHouse rfl rfl rfl (by decide +kernel) ⟨Nat.le_of_ble_eq_true rfl, Nat.le_of_ble_eq_true rfl⟩) (va_recv hK hP (ci := 1) (q0 := 0) rfl rfl) hK hP hD hS hA hZ rfl rfl (Nat.le_of_ble_eq_true rfl) hl.1 dX2_count_177 ⟨Nat.zero_le _, Nat.zero_le _⟩ (fun u H locs hq hP hD hS => ?_)
                          obtain ⟨δ_145, rfl, hPs, hf0⟩ := hq
                          refine lv_iload_n hx hb dX2_count_180 rfl (lv_at hl 2 rfl) ?_
                          refine lv_aload_n hx hb dX2_count_181 rfl (lv_at hl 0 rfl) ?_
                          refine va_get (D := D) (ci := 1) (v := .int (nI (δ_145 2 0))) (C := RX2) (T := TX2) (N := 19) hx hb hts hin hown hK hP 0 rfl rfl 15 (by decide) (hts (.fieldLink RX2 82 "HandCasesModel" "seen" "I") (by decide +kernel)) (fun _ h9 => h9) rfl dX2_count_182 ?_
                          refine lv_iadd hx hb dX2_count_185 ?_
                          refine q_topi (nI ((sumN (drF σ) i) + (δ_145 2 0))) (nI_add (sumN (drF σ) i) (δ_145 2 0)) ?_
                          refine lv_istore_n (lv' := [(2, .int (nI ((sumN (drF σ) i) + (δ_145 2 0)))), (0, .ref (ad 0)), (1, .int 7), (3, .int (nI i))]) hx hb dX2_count_186 rfl hl (by decide) rfl (fun ls hl => ?_)
                          refine lv_iinc (v := nI (i + 1)) (lv' := [(3, .int (nI (i + 1))), (2, .int (nI ((sumN (drF σ) i) + (δ_145 2 0)))), (0, .ref (ad 0)), (1, .int 7)]) hx hb dX2_count_187 hl (k := 3) rfl (nI_add i 1) (by decide) rfl (fun ls hl => ?_)
                          refine lv_goto (tgt := 148) hx hb dX2_count_190 (by decide) ?_
                          exact ih (i + 1, δ_145, (-1)) _ _ _ ⟨by (try dsimp only); omega, hf0.trans (hfB.trans h2), hP, hD, hS, lv_as (lv_sub hl [2, 3, 1, 0] rfl) (lv_c rfl (lv_c rfl (lv_c (congrArg Value.int (congrArg nI (by have e9 : drF σ i = (hL σ i 2).length := if_neg (by omega); show _ = sumN (drF σ) i + drF σ i; rw [hPs.1, e9]; rfl))) (lv_c rfl rfl))))⟩ (by show 200 - (i + 1) < 200 - i; omega)
                  · skip
                    have c_135 := (cq_eq (show (7 : Int32).toInt = (7 : Int) from by decide) (show (6 : Int32).toInt = (6 : Int) from by decide)).mp c_135
                    exfalso; omega
              · skip
                have c_133 := (cq_eq (show (7 : Int32).toInt = (7 : Int) from by decide) (show (5 : Int32).toInt = (5 : Int) from by decide)).mp c_133
                exfalso; omega
            · skip
              have c_132 := (cq_eq (show (7 : Int32).toInt = (7 : Int) from by decide) (show (4 : Int32).toInt = (4 : Int) from by decide)).mp c_132
              exfalso; omega
        · skip
          have c_130 := (cq_eq (show (7 : Int32).toInt = (7 : Int) from by decide) (show (3 : Int32).toInt = (3 : Int) from by decide)).mp c_130
          exfalso; omega
  have q_7 : ¬ p0.toInt = 7 := mt (cq_eq rfl (by decide : (7 : Int32).toInt = 7)).mpr q_7
  by_cases q_8 : p0 = 8
  · skip
    subst q_8
    refine lv_aload_n hx hb dX2_count_0 rfl (lv_at hl 0 rfl) ?_
    refine lv_iload_n hx hb dX2_count_1 rfl (lv_at hl 1 rfl) ?_
    refine lv_iconst (v := 0) hx hb dX2_count_2 (by decide) ?_
    refine lv_bipush (v := 8) hx hb dX2_count_3 (by decide) ?_
    refine call_si (As := [.int 8, .int 0, .int 8]) (rest := [.ref (ad 0)]) WAd_m ⟨hx, hb, hml, hown, hts⟩ (c_X2_in l cI cZ D ad pl tb _ σ δ w0 8 0 8) (va_cwS 3 hts gX2_count_X2_in rfl rfl rfl (by decide +kernel) ⟨Nat.le_of_ble_eq_true rfl, Nat.le_of_ble_eq_true rfl⟩) hK hP hD hS hA hZ rfl rfl (Nat.le_of_ble_eq_true rfl) hl.1 dX2_count_5 ⟨Nat.zero_le _, Nat.zero_le _⟩ (fun r u H locs hq hP hD hS => ?_)
    obtain ⟨rfl, rfl⟩ := hq
    refine lv_if_eq (tgt := 15) hx hb dX2_count_8 (by decide) (fun c_146 => ?_) (fun c_146 => ?_)
    · skip
      have c_146 : ¬ ((0 : Int32).toInt ≤ (8 : Int32).toInt ∧ (8 : Int32).toInt ≤ (8 : Int32).toInt) := pI_0.mp c_146
      have c_146 : ¬ ((0 : Int) ≤ (8 : Int) ∧ (8 : Int) ≤ (8 : Int)) := mt (in_c (show (8 : Int32).toInt = (8 : Int) from by decide) (show (0 : Int32).toInt = (0 : Int) from by decide) (show (8 : Int32).toInt = (8 : Int) from by decide)).mpr c_146
      exfalso; omega
    · skip
      have c_146 : (0 : Int32).toInt ≤ (8 : Int32).toInt ∧ (8 : Int32).toInt ≤ (8 : Int32).toInt := Decidable.not_not.mp (mt pI_0.mpr c_146)
      have c_146 : (0 : Int) ≤ (8 : Int) ∧ (8 : Int) ≤ (8 : Int) := (in_c (show (8 : Int32).toInt = (8 : Int) from by decide) (show (0 : Int32).toInt = (0 : Int) from by decide) (show (8 : Int32).toInt = (8 : Int) from by decide)).mp c_146
      refine lv_iconst (v := 0) hx hb dX2_count_11 (by decide) ?_
      refine lv_goto (tgt := 16) hx hb dX2_count_12 (by decide) ?_
      refine va_put (D := D) (ci := 1) (v := .int 0) (ty := .int) (C := RX2) (T := TX2) (N := 19) hx hb hts hin tyX2 tyX2_ok nmX2 hown hK hP hD hS 0 rfl rfl 1 (by decide) (hts (.fieldLink RX2 48 "HandCasesModel" "fault" "I") (by decide +kernel)) (fun _ h9 => h9) rfl (by decide +kernel) rfl rfl (Nat.le_of_ble_eq_true rfl) dX2_count_16 (fun H locs hP hD hS => ?_)
      have hP : va_P D vwCl (WM cI cZ ad (σ, setA δ 0 0 0, w0)) H := hP
      have hD : va_D (AC ad s.heap.size) (WM cI cZ ad (σ, setA δ 0 0 0, w0)) := hD
      refine lv_iconst (v := 0) hx hb dX2_count_19 (by decide) ?_
      refine lv_istore_n (lv' := [(2, .int 0), (0, .ref (ad 0)), (1, .int 8)]) hx hb dX2_count_20 rfl hl (by decide) rfl (fun ls hl => ?_)
      refine lv_iconst (v := 0) hx hb dX2_count_21 (by decide) ?_
      refine lv_istore_n (lv' := [(3, .int 0), (2, .int 0), (0, .ref (ad 0)), (1, .int 8)]) hx hb dX2_count_22 rfl hl (by decide) rfl (fun ls hl => ?_)
      refine lv_iload_n hx hb dX2_count_23 rfl (lv_at hl 0 rfl) ?_
      refine lv_aload_n hx hb dX2_count_24 rfl (lv_at hl 2 rfl) ?_
      refine va_get (D := D) (ci := 1) (v := .int (nI (σ 11 0))) (C := RX2) (T := TX2) (N := 19) hx hb hts hin hown hK hP 0 rfl rfl 8 (by decide) (hts (.fieldLink RX2 55 "HandCasesModel" "items" "I") (by decide +kernel)) (fun _ h9 => h9) rfl dX2_count_25 ?_
      have b_147 := b11 hI
      refine lv_icmp_ge (tgt := 67) hx hb dX2_count_28 (by decide) (fun c_148 => ?_) (fun c_148 => ?_)
      · skip
        have c_148 := (cq_le (nI_toInt (by omega)) (show (0 : Int32).toInt = (0 : Int) from by decide)).mp c_148
        refine lv_iconst (v := 0) hx hb dX2_count_67 (by decide) ?_
        refine lv_istore_n (lv' := [(3, .int 0), (2, .int 0), (0, .ref (ad 0)), (1, .int 8)]) hx hb dX2_count_68 rfl hl (by decide) rfl (fun ls hl => ?_)
        refine lv_iload_n hx hb dX2_count_69 rfl (lv_at hl 0 rfl) ?_
        refine lv_sipush (v := 200) hx hb dX2_count_70 (by decide) ?_
        refine lv_icmp_ge (tgt := 104) hx hb dX2_count_73 (by decide) (fun c_149 => ?_) (fun c_149 => ?_)
        · skip
          have c_149 := (cq_le (show (200 : Int32).toInt = (200 : Int) from by decide) (show (0 : Int32).toInt = (0 : Int) from by decide)).mp c_149
          exfalso; omega
        · skip
          have c_149 := mt (cq_le (show (200 : Int32).toInt = (200 : Int) from by decide) (show (0 : Int32).toInt = (0 : Int) from by decide)).mpr c_149
          refine lv_iload_n hx hb dX2_count_76 rfl (lv_at hl 3 rfl) ?_
          refine lv_iconst (v := 4) hx hb dX2_count_77 (by decide) ?_
          refine lv_icmp_ne (tgt := 104) hx hb dX2_count_78 (by decide) (fun c_150 => ?_) (fun c_150 => ?_)
          · skip
            have c_150 := mt (cq_eq (show (8 : Int32).toInt = (8 : Int) from by decide) (show (4 : Int32).toInt = (4 : Int) from by decide)).mpr c_150
            refine lv_iload_n hx hb dX2_count_104 rfl (lv_at hl 3 rfl) ?_
            refine lv_iconst (v := 5) hx hb dX2_count_105 (by decide) ?_
            refine lv_icmp_ne (tgt := 114) hx hb dX2_count_106 (by decide) (fun c_151 => ?_) (fun c_151 => ?_)
            · skip
              have c_151 := mt (cq_eq (show (8 : Int32).toInt = (8 : Int) from by decide) (show (5 : Int32).toInt = (5 : Int) from by decide)).mpr c_151
              refine lv_iconst (v := 0) hx hb dX2_count_114 (by decide) ?_
              refine lv_istore_n (lv' := [(3, .int 0), (2, .int 0), (0, .ref (ad 0)), (1, .int 8)]) hx hb dX2_count_115 rfl hl (by decide) rfl (fun ls hl => ?_)
              refine lv_iload_n hx hb dX2_count_116 rfl (lv_at hl 0 rfl) ?_
              refine lv_iconst (v := 4) hx hb dX2_count_117 (by decide) ?_
              refine lv_icmp_ge (tgt := 146) hx hb dX2_count_118 (by decide) (fun c_152 => ?_) (fun c_152 => ?_)
              · skip
                have c_152 := (cq_le (show (4 : Int32).toInt = (4 : Int) from by decide) (show (0 : Int32).toInt = (0 : Int) from by decide)).mp c_152
                exfalso; omega
              · skip
                have c_152 := mt (cq_le (show (4 : Int32).toInt = (4 : Int) from by decide) (show (0 : Int32).toInt = (0 : Int) from by decide)).mpr c_152
                refine lv_iload_n hx hb dX2_count_121 rfl (lv_at hl 3 rfl) ?_
                refine lv_bipush (v := 6) hx hb dX2_count_122 (by decide) ?_
                refine lv_icmp_ne (tgt := 146) hx hb dX2_count_124 (by decide) (fun c_153 => ?_) (fun c_153 => ?_)
                · skip
                  have c_153 := mt (cq_eq (show (8 : Int32).toInt = (8 : Int) from by decide) (show (6 : Int32).toInt = (6 : Int) from by decide)).mpr c_153
                  refine lv_iconst (v := 0) hx hb dX2_count_146 (by decide) ?_
                  refine lv_istore_n (lv' := [(3, .int 0), (2, .int 0), (0, .ref (ad 0)), (1, .int 8)]) hx hb dX2_count_147 rfl hl (by decide) rfl (fun ls hl => ?_)
                  refine lv_iload_n hx hb dX2_count_148 rfl (lv_at hl 0 rfl) ?_
                  refine lv_sipush (v := 200) hx hb dX2_count_149 (by decide) ?_
                  refine lv_icmp_ge (tgt := 193) hx hb dX2_count_152 (by decide) (fun c_154 => ?_) (fun c_154 => ?_)
                  · skip
                    have c_154 := (cq_le (show (200 : Int32).toInt = (200 : Int) from by decide) (show (0 : Int32).toInt = (0 : Int) from by decide)).mp c_154
                    exfalso; omega
                  · skip
                    have c_154 := mt (cq_le (show (200 : Int32).toInt = (200 : Int) from by decide) (show (0 : Int32).toInt = (0 : Int) from by decide)).mpr c_154
                    refine lv_iload_n hx hb dX2_count_155 rfl (lv_at hl 3 rfl) ?_
                    refine lv_bipush (v := 7) hx hb dX2_count_156 (by decide) ?_
                    refine lv_icmp_ne (tgt := 193) hx hb dX2_count_158 (by decide) (fun c_155 => ?_) (fun c_155 => ?_)
                    · skip
                      have c_155 := mt (cq_eq (show (8 : Int32).toInt = (8 : Int) from by decide) (show (7 : Int32).toInt = (7 : Int) from by decide)).mpr c_155
                      refine lv_iload_n hx hb dX2_count_193 rfl (lv_at hl 3 rfl) ?_
                      refine lv_bipush (v := 8) hx hb dX2_count_194 (by decide) ?_
                      refine lv_icmp_ne (tgt := 209) hx hb dX2_count_196 (by decide) (fun c_156 => ?_) (fun c_156 => ?_)
                      · skip
                        have c_156 := mt (cq_eq (show (8 : Int32).toInt = (8 : Int) from by decide) (show (8 : Int32).toInt = (8 : Int) from by decide)).mpr c_156
                        exfalso; omega
                      · skip
                        have c_156 := (cq_eq (show (8 : Int32).toInt = (8 : Int) from by decide) (show (8 : Int32).toInt = (8 : Int) from by decide)).mp c_156
                        refine lv_aload_n hx hb dX2_count_199 rfl (lv_at hl 2 rfl) ?_
                        refine lv_iconst (v := (-1)) hx hb dX2_count_200 (by decide) ?_
                        refine call_v (As := [.int (-1)]) (rest := []) WAd_m ⟨hx, hb, hml, hown, hts⟩ (c_X2_passStray l cI cZ D ad pl tb _ σ (setA δ 0 0 0) w0 (-1) hI) (cwV 1 hts gX2_count_X2_passStray rfl rfl rfl (by decide +kernel) ⟨Nat.le_of_ble_eq_true rfl, Nat.le_of_ble_eq_true rfl⟩) (va_recv hK hP (ci := 1) (q0 := 0) rfl rfl) hK hP hD hS hA hZ rfl rfl (Nat.le_of_ble_eq_true rfl) hl.1 dX2_count_201 ⟨Nat.zero_le _, Nat.zero_le _⟩ (fun u H locs hq hP hD hS => ?_)
                        obtain ⟨δ_157, rfl, hPs, hf0⟩ := hq
                        refine lv_aload_n hx hb dX2_count_204 rfl (lv_at hl 2 rfl) ?_
                        refine va_get (D := D) (ci := 1) (v := .int (nI (δ_157 2 0))) (C := RX2) (T := TX2) (N := 19) hx hb hts hin hown hK hP 0 rfl rfl 15 (by decide) (hts (.fieldLink RX2 82 "HandCasesModel" "seen" "I") (by decide +kernel)) (fun _ h9 => h9) rfl dX2_count_205 ?_
                        refine lv_istore_n (lv' := [(2, .int (nI (δ_157 2 0))), (3, .int 0), (0, .ref (ad 0)), (1, .int 8)]) hx hb dX2_count_208 rfl hl (by decide) rfl (fun ls hl => ?_)
                        have e_f : δ_157 0 0 = 0 := hf0
                        refine lv_aload_n hx hb dX2_count_209 rfl (lv_at hl 2 rfl) ?_
                        refine va_get (D := D) (ci := 1) (v := .int (nI (δ_157 0 0))) (C := RX2) (T := TX2) (N := 19) hx hb hts hin hown hK hP 0 rfl rfl 1 (by decide) (hts (.fieldLink RX2 48 "HandCasesModel" "fault" "I") (by decide +kernel)) (fun _ h9 => h9) rfl dX2_count_210 ?_
                        refine lv_if_le (tgt := 220) hx hb dX2_count_213 (by decide) (fun c_158 => ?_) (fun c_158 => ?_)
                        · skip
                          have c_158 := (cq_le (nI_toInt (by omega)) (show (0 : Int32).toInt = (0 : Int) from by decide)).mp c_158
                          refine lv_iload_n hx hb dX2_count_220 rfl (lv_at hl 3 rfl) ?_
                          refine lv_if_ne (tgt := 231) hx hb dX2_count_221 (by decide) (fun c_159 => ?_) (fun c_159 => ?_)
                          · skip
                            have c_159 := mt (cq_eq (show (8 : Int32).toInt = (8 : Int) from by decide) (show (0 : Int32).toInt = (0 : Int) from by decide)).mpr c_159
                            refine lv_iload_n hx hb dX2_count_231 rfl (lv_at hl 3 rfl) ?_
                            refine lv_iconst (v := 1) hx hb dX2_count_232 (by decide) ?_
                            refine lv_icmp_ne (tgt := 243) hx hb dX2_count_233 (by decide) (fun c_160 => ?_) (fun c_160 => ?_)
                            · skip
                              have c_160 := mt (cq_eq (show (8 : Int32).toInt = (8 : Int) from by decide) (show (1 : Int32).toInt = (1 : Int) from by decide)).mpr c_160
                              refine lv_iload_n hx hb dX2_count_243 rfl (lv_at hl 3 rfl) ?_
                              refine lv_iconst (v := 2) hx hb dX2_count_244 (by decide) ?_
                              refine lv_icmp_ne (tgt := 255) hx hb dX2_count_245 (by decide) (fun c_161 => ?_) (fun c_161 => ?_)
                              · skip
                                have c_161 := mt (cq_eq (show (8 : Int32).toInt = (8 : Int) from by decide) (show (2 : Int32).toInt = (2 : Int) from by decide)).mpr c_161
                                refine lv_iload_n hx hb dX2_count_255 rfl (lv_at hl 0 rfl) ?_
                                have eo : oCnt σ (8) = (0, nI (δ_157 2 0)) := (oCnt_lit (k := 8) (by decide) (by decide)).trans (by show ((0 : Nat), nI (sumN (atF σ 0) (σ 11 0))) = _; rw [hPs.1, P_stray hI])
                                exact ret_i (σ, δ_157, (-1)) hx hb hr rfl hK hlocks hP hD hS ⟨δ_157, (-1), rfl, by rw [eo], by rw [eo]; exact hf0⟩ dX2_count_256
                              · skip
                                have c_161 := (cq_eq (show (8 : Int32).toInt = (8 : Int) from by decide) (show (2 : Int32).toInt = (2 : Int) from by decide)).mp c_161
                                exfalso; omega
                            · skip
                              have c_160 := (cq_eq (show (8 : Int32).toInt = (8 : Int) from by decide) (show (1 : Int32).toInt = (1 : Int) from by decide)).mp c_160
                              exfalso; omega
                          · skip
                            have c_159 := (cq_eq (show (8 : Int32).toInt = (8 : Int) from by decide) (show (0 : Int32).toInt = (0 : Int) from by decide)).mp c_159
                            exfalso; omega
                        · skip
                          have c_158 := mt (cq_le (nI_toInt (by omega)) (show (0 : Int32).toInt = (0 : Int) from by decide)).mpr c_158
                          exfalso; omega
                    · skip
                      have c_155 := (cq_eq (show (8 : Int32).toInt = (8 : Int) from by decide) (show (7 : Int32).toInt = (7 : Int) from by decide)).mp c_155
                      exfalso; omega
                · skip
                  have c_153 := (cq_eq (show (8 : Int32).toInt = (8 : Int) from by decide) (show (6 : Int32).toInt = (6 : Int) from by decide)).mp c_153
                  exfalso; omega
            · skip
              have c_151 := (cq_eq (show (8 : Int32).toInt = (8 : Int) from by decide) (show (5 : Int32).toInt = (5 : Int) from by decide)).mp c_151
              exfalso; omega
          · skip
            have c_150 := (cq_eq (show (8 : Int32).toInt = (8 : Int) from by decide) (show (4 : Int32).toInt = (4 : Int) from by decide)).mp c_150
            exfalso; omega
      · skip
        have c_148 := mt (cq_le (nI_toInt (by omega)) (show (0 : Int32).toInt = (0 : Int) from by decide)).mpr c_148
        refine lv_iload_n hx hb dX2_count_31 rfl (lv_at hl 3 rfl) ?_
        refine lv_iconst (v := 3) hx hb dX2_count_32 (by decide) ?_
        refine lv_icmp_ne (tgt := 67) hx hb dX2_count_33 (by decide) (fun c_162 => ?_) (fun c_162 => ?_)
        · skip
          have c_162 := mt (cq_eq (show (8 : Int32).toInt = (8 : Int) from by decide) (show (3 : Int32).toInt = (3 : Int) from by decide)).mpr c_162
          refine lv_iconst (v := 0) hx hb dX2_count_67 (by decide) ?_
          refine lv_istore_n (lv' := [(3, .int 0), (2, .int 0), (0, .ref (ad 0)), (1, .int 8)]) hx hb dX2_count_68 rfl hl (by decide) rfl (fun ls hl => ?_)
          refine lv_iload_n hx hb dX2_count_69 rfl (lv_at hl 0 rfl) ?_
          refine lv_sipush (v := 200) hx hb dX2_count_70 (by decide) ?_
          refine lv_icmp_ge (tgt := 104) hx hb dX2_count_73 (by decide) (fun c_163 => ?_) (fun c_163 => ?_)
          · skip
            have c_163 := (cq_le (show (200 : Int32).toInt = (200 : Int) from by decide) (show (0 : Int32).toInt = (0 : Int) from by decide)).mp c_163
            exfalso; omega
          · skip
            have c_163 := mt (cq_le (show (200 : Int32).toInt = (200 : Int) from by decide) (show (0 : Int32).toInt = (0 : Int) from by decide)).mpr c_163
            refine lv_iload_n hx hb dX2_count_76 rfl (lv_at hl 3 rfl) ?_
            refine lv_iconst (v := 4) hx hb dX2_count_77 (by decide) ?_
            refine lv_icmp_ne (tgt := 104) hx hb dX2_count_78 (by decide) (fun c_164 => ?_) (fun c_164 => ?_)
            · skip
              have c_164 := mt (cq_eq (show (8 : Int32).toInt = (8 : Int) from by decide) (show (4 : Int32).toInt = (4 : Int) from by decide)).mpr c_164
              refine lv_iload_n hx hb dX2_count_104 rfl (lv_at hl 3 rfl) ?_
              refine lv_iconst (v := 5) hx hb dX2_count_105 (by decide) ?_
              refine lv_icmp_ne (tgt := 114) hx hb dX2_count_106 (by decide) (fun c_165 => ?_) (fun c_165 => ?_)
              · skip
                have c_165 := mt (cq_eq (show (8 : Int32).toInt = (8 : Int) from by decide) (show (5 : Int32).toInt = (5 : Int) from by decide)).mpr c_165
                refine lv_iconst (v := 0) hx hb dX2_count_114 (by decide) ?_
                refine lv_istore_n (lv' := [(3, .int 0), (2, .int 0), (0, .ref (ad 0)), (1, .int 8)]) hx hb dX2_count_115 rfl hl (by decide) rfl (fun ls hl => ?_)
                refine lv_iload_n hx hb dX2_count_116 rfl (lv_at hl 0 rfl) ?_
                refine lv_iconst (v := 4) hx hb dX2_count_117 (by decide) ?_
                refine lv_icmp_ge (tgt := 146) hx hb dX2_count_118 (by decide) (fun c_166 => ?_) (fun c_166 => ?_)
                · skip
                  have c_166 := (cq_le (show (4 : Int32).toInt = (4 : Int) from by decide) (show (0 : Int32).toInt = (0 : Int) from by decide)).mp c_166
                  exfalso; omega
                · skip
                  have c_166 := mt (cq_le (show (4 : Int32).toInt = (4 : Int) from by decide) (show (0 : Int32).toInt = (0 : Int) from by decide)).mpr c_166
                  refine lv_iload_n hx hb dX2_count_121 rfl (lv_at hl 3 rfl) ?_
                  refine lv_bipush (v := 6) hx hb dX2_count_122 (by decide) ?_
                  refine lv_icmp_ne (tgt := 146) hx hb dX2_count_124 (by decide) (fun c_167 => ?_) (fun c_167 => ?_)
                  · skip
                    have c_167 := mt (cq_eq (show (8 : Int32).toInt = (8 : Int) from by decide) (show (6 : Int32).toInt = (6 : Int) from by decide)).mpr c_167
                    refine lv_iconst (v := 0) hx hb dX2_count_146 (by decide) ?_
                    refine lv_istore_n (lv' := [(3, .int 0), (2, .int 0), (0, .ref (ad 0)), (1, .int 8)]) hx hb dX2_count_147 rfl hl (by decide) rfl (fun ls hl => ?_)
                    refine lv_iload_n hx hb dX2_count_148 rfl (lv_at hl 0 rfl) ?_
                    refine lv_sipush (v := 200) hx hb dX2_count_149 (by decide) ?_
                    refine lv_icmp_ge (tgt := 193) hx hb dX2_count_152 (by decide) (fun c_168 => ?_) (fun c_168 => ?_)
                    · skip
                      have c_168 := (cq_le (show (200 : Int32).toInt = (200 : Int) from by decide) (show (0 : Int32).toInt = (0 : Int) from by decide)).mp c_168
                      exfalso; omega
                    · skip
                      have c_168 := mt (cq_le (show (200 : Int32).toInt = (200 : Int) from by decide) (show (0 : Int32).toInt = (0 : Int) from by decide)).mpr c_168
                      refine lv_iload_n hx hb dX2_count_155 rfl (lv_at hl 3 rfl) ?_
                      refine lv_bipush (v := 7) hx hb dX2_count_156 (by decide) ?_
                      refine lv_icmp_ne (tgt := 193) hx hb dX2_count_158 (by decide) (fun c_169 => ?_) (fun c_169 => ?_)
                      · skip
                        have c_169 := mt (cq_eq (show (8 : Int32).toInt = (8 : Int) from by decide) (show (7 : Int32).toInt = (7 : Int) from by decide)).mpr c_169
                        refine lv_iload_n hx hb dX2_count_193 rfl (lv_at hl 3 rfl) ?_
                        refine lv_bipush (v := 8) hx hb dX2_count_194 (by decide) ?_
                        refine lv_icmp_ne (tgt := 209) hx hb dX2_count_196 (by decide) (fun c_170 => ?_) (fun c_170 => ?_)
                        · skip
                          have c_170 := mt (cq_eq (show (8 : Int32).toInt = (8 : Int) from by decide) (show (8 : Int32).toInt = (8 : Int) from by decide)).mpr c_170
                          exfalso; omega
                        · skip
                          have c_170 := (cq_eq (show (8 : Int32).toInt = (8 : Int) from by decide) (show (8 : Int32).toInt = (8 : Int) from by decide)).mp c_170
                          refine lv_aload_n hx hb dX2_count_199 rfl (lv_at hl 2 rfl) ?_
                          refine lv_iconst (v := (-1)) hx hb dX2_count_200 (by decide) ?_
                          refine call_v (As := [.int (-1)]) (rest := []) WAd_m ⟨hx, hb, hml, hown, hts⟩ (c_X2_passStray l cI cZ D ad pl tb _ σ (setA δ 0 0 0) w0 (-1) hI) (cwV 1 hts gX2_count_X2_passStray rfl rfl rfl (by decide +kernel) ⟨Nat.le_of_ble_eq_true rfl, Nat.le_of_ble_eq_true rfl⟩) (va_recv hK hP (ci := 1) (q0 := 0) rfl rfl) hK hP hD hS hA hZ rfl rfl (Nat.le_of_ble_eq_true rfl) hl.1 dX2_count_201 ⟨Nat.zero_le _, Nat.zero_le _⟩ (fun u H locs hq hP hD hS => ?_)
                          obtain ⟨δ_171, rfl, hPs, hf0⟩ := hq
                          refine lv_aload_n hx hb dX2_count_204 rfl (lv_at hl 2 rfl) ?_
                          refine va_get (D := D) (ci := 1) (v := .int (nI (δ_171 2 0))) (C := RX2) (T := TX2) (N := 19) hx hb hts hin hown hK hP 0 rfl rfl 15 (by decide) (hts (.fieldLink RX2 82 "HandCasesModel" "seen" "I") (by decide +kernel)) (fun _ h9 => h9) rfl dX2_count_205 ?_
                          refine lv_istore_n (lv' := [(2, .int (nI (δ_171 2 0))), (3, .int 0), (0, .ref (ad 0)), (1, .int 8)]) hx hb dX2_count_208 rfl hl (by decide) rfl (fun ls hl => ?_)
                          have e_f : δ_171 0 0 = 0 := hf0
                          refine lv_aload_n hx hb dX2_count_209 rfl (lv_at hl 2 rfl) ?_
                          refine va_get (D := D) (ci := 1) (v := .int (nI (δ_171 0 0))) (C := RX2) (T := TX2) (N := 19) hx hb hts hin hown hK hP 0 rfl rfl 1 (by decide) (hts (.fieldLink RX2 48 "HandCasesModel" "fault" "I") (by decide +kernel)) (fun _ h9 => h9) rfl dX2_count_210 ?_
                          refine lv_if_le (tgt := 220) hx hb dX2_count_213 (by decide) (fun c_172 => ?_) (fun c_172 => ?_)
                          · skip
                            have c_172 := (cq_le (nI_toInt (by omega)) (show (0 : Int32).toInt = (0 : Int) from by decide)).mp c_172
                            refine lv_iload_n hx hb dX2_count_220 rfl (lv_at hl 3 rfl) ?_
                            refine lv_if_ne (tgt := 231) hx hb dX2_count_221 (by decide) (fun c_173 => ?_) (fun c_173 => ?_)
                            · skip
                              have c_173 := mt (cq_eq (show (8 : Int32).toInt = (8 : Int) from by decide) (show (0 : Int32).toInt = (0 : Int) from by decide)).mpr c_173
                              refine lv_iload_n hx hb dX2_count_231 rfl (lv_at hl 3 rfl) ?_
                              refine lv_iconst (v := 1) hx hb dX2_count_232 (by decide) ?_
                              refine lv_icmp_ne (tgt := 243) hx hb dX2_count_233 (by decide) (fun c_174 => ?_) (fun c_174 => ?_)
                              · skip
                                have c_174 := mt (cq_eq (show (8 : Int32).toInt = (8 : Int) from by decide) (show (1 : Int32).toInt = (1 : Int) from by decide)).mpr c_174
                                refine lv_iload_n hx hb dX2_count_243 rfl (lv_at hl 3 rfl) ?_
                                refine lv_iconst (v := 2) hx hb dX2_count_244 (by decide) ?_
                                refine lv_icmp_ne (tgt := 255) hx hb dX2_count_245 (by decide) (fun c_175 => ?_) (fun c_175 => ?_)
                                · skip
                                  have c_175 := mt (cq_eq (show (8 : Int32).toInt = (8 : Int) from by decide) (show (2 : Int32).toInt = (2 : Int) from by decide)).mpr c_175
                                  refine lv_iload_n hx hb dX2_count_255 rfl (lv_at hl 0 rfl) ?_
                                  have eo : oCnt σ (8) = (0, nI (δ_171 2 0)) := (oCnt_lit (k := 8) (by decide) (by decide)).trans (by show ((0 : Nat), nI (sumN (atF σ 0) (σ 11 0))) = _; rw [hPs.1, P_stray hI])
                                  exact ret_i (σ, δ_171, (-1)) hx hb hr rfl hK hlocks hP hD hS ⟨δ_171, (-1), rfl, by rw [eo], by rw [eo]; exact hf0⟩ dX2_count_256
                                · skip
                                  have c_175 := (cq_eq (show (8 : Int32).toInt = (8 : Int) from by decide) (show (2 : Int32).toInt = (2 : Int) from by decide)).mp c_175
                                  exfalso; omega
                              · skip
                                have c_174 := (cq_eq (show (8 : Int32).toInt = (8 : Int) from by decide) (show (1 : Int32).toInt = (1 : Int) from by decide)).mp c_174
                                exfalso; omega
                            · skip
                              have c_173 := (cq_eq (show (8 : Int32).toInt = (8 : Int) from by decide) (show (0 : Int32).toInt = (0 : Int) from by decide)).mp c_173
                              exfalso; omega
                          · skip
                            have c_172 := mt (cq_le (nI_toInt (by omega)) (show (0 : Int32).toInt = (0 : Int) from by decide)).mpr c_172
                            exfalso; omega
                      · skip
                        have c_169 := (cq_eq (show (8 : Int32).toInt = (8 : Int) from by decide) (show (7 : Int32).toInt = (7 : Int) from by decide)).mp c_169
                        exfalso; omega
                  · skip
                    have c_167 := (cq_eq (show (8 : Int32).toInt = (8 : Int) from by decide) (show (6 : Int32).toInt = (6 : Int) from by decide)).mp c_167
                    exfalso; omega
              · skip
                have c_165 := (cq_eq (show (8 : Int32).toInt = (8 : Int) from by decide) (show (5 : Int32).toInt = (5 : Int) from by decide)).mp c_165
                exfalso; omega
            · skip
              have c_164 := (cq_eq (show (8 : Int32).toInt = (8 : Int) from by decide) (show (4 : Int32).toInt = (4 : Int) from by decide)).mp c_164
              exfalso; omega
        · skip
          have c_162 := (cq_eq (show (8 : Int32).toInt = (8 : Int) from by decide) (show (3 : Int32).toInt = (3 : Int) from by decide)).mp c_162
          exfalso; omega
  have q_8 : ¬ p0.toInt = 8 := mt (cq_eq rfl (by decide : (8 : Int32).toInt = 8)).mpr q_8
  refine lv_aload_n hx hb dX2_count_0 rfl (lv_at hl 0 rfl) ?_
  refine lv_iload_n hx hb dX2_count_1 rfl (lv_at hl 1 rfl) ?_
  refine lv_iconst (v := 0) hx hb dX2_count_2 (by decide) ?_
  refine lv_bipush (v := 8) hx hb dX2_count_3 (by decide) ?_
  refine call_si (As := [.int p0, .int 0, .int 8]) (rest := [.ref (ad 0)]) WAd_m ⟨hx, hb, hml, hown, hts⟩ (c_X2_in l cI cZ D ad pl tb _ σ δ w0 p0 0 8) (va_cwS 3 hts gX2_count_X2_in rfl rfl rfl (by decide +kernel) ⟨Nat.le_of_ble_eq_true rfl, Nat.le_of_ble_eq_true rfl⟩) hK hP hD hS hA hZ rfl rfl (Nat.le_of_ble_eq_true rfl) hl.1 dX2_count_5 ⟨Nat.zero_le _, Nat.zero_le _⟩ (fun r u H locs hq hP hD hS => ?_)
  obtain ⟨rfl, rfl⟩ := hq
  refine lv_if_eq (tgt := 15) hx hb dX2_count_8 (by decide) (fun c_176 => ?_) (fun c_176 => ?_)
  · skip
    have c_176 : ¬ ((0 : Int32).toInt ≤ (p0 : Int32).toInt ∧ (p0 : Int32).toInt ≤ (8 : Int32).toInt) := pI_0.mp c_176
    have c_176 : ¬ ((0 : Int) ≤ p0.toInt ∧ p0.toInt ≤ (8 : Int)) := mt (in_c rfl (show (0 : Int32).toInt = (0 : Int) from by decide) (show (8 : Int32).toInt = (8 : Int) from by decide)).mpr c_176
    refine lv_iconst (v := 1) hx hb dX2_count_15 (by decide) ?_
    refine va_put (D := D) (ci := 1) (v := .int 1) (ty := .int) (C := RX2) (T := TX2) (N := 19) hx hb hts hin tyX2 tyX2_ok nmX2 hown hK hP hD hS 0 rfl rfl 1 (by decide) (hts (.fieldLink RX2 48 "HandCasesModel" "fault" "I") (by decide +kernel)) (fun _ h9 => h9) rfl (by decide +kernel) rfl rfl (Nat.le_of_ble_eq_true rfl) dX2_count_16 (fun H locs hP hD hS => ?_)
    have hP : va_P D vwCl (WM cI cZ ad (σ, setA δ 0 0 1, w0)) H := hP
    have hD : va_D (AC ad s.heap.size) (WM cI cZ ad (σ, setA δ 0 0 1, w0)) := hD
    refine lv_iconst (v := 0) hx hb dX2_count_19 (by decide) ?_
    refine lv_istore_n (lv' := [(2, .int 0), (0, .ref (ad 0)), (1, .int p0)]) hx hb dX2_count_20 rfl hl (by decide) rfl (fun ls hl => ?_)
    refine lv_iconst (v := 0) hx hb dX2_count_21 (by decide) ?_
    refine lv_istore_n (lv' := [(3, .int 0), (2, .int 0), (0, .ref (ad 0)), (1, .int p0)]) hx hb dX2_count_22 rfl hl (by decide) rfl (fun ls hl => ?_)
    have b_i := b11 hI
    refine lv_iload_n hx hb dX2_count_23 rfl (lv_at hl 0 rfl) ?_
    refine lv_aload_n hx hb dX2_count_24 rfl (lv_at hl 2 rfl) ?_
    refine va_get (D := D) (ci := 1) (v := .int (nI (σ 11 0))) (C := RX2) (T := TX2) (N := 19) hx hb hts hin hown hK hP 0 rfl rfl 8 (by decide) (hts (.fieldLink RX2 55 "HandCasesModel" "items" "I") (by decide +kernel)) (fun _ h9 => h9) rfl dX2_count_25 ?_
    have b_177 := b11 hI
    refine lv_icmp_ge (tgt := 67) hx hb dX2_count_28 (by decide) (fun c_178 => ?_) (fun c_178 => ?_)
    · skip
      have c_178 := (cq_le (nI_toInt (by omega)) (show (0 : Int32).toInt = (0 : Int) from by decide)).mp c_178
      refine lv_iconst (v := 0) hx hb dX2_count_67 (by decide) ?_
      refine lv_istore_n (lv' := [(3, .int 0), (2, .int 0), (0, .ref (ad 0)), (1, .int p0)]) hx hb dX2_count_68 rfl hl (by decide) rfl (fun ls hl => ?_)
      refine lv_iload_n hx hb dX2_count_69 rfl (lv_at hl 0 rfl) ?_
      refine lv_sipush (v := 200) hx hb dX2_count_70 (by decide) ?_
      refine lv_icmp_ge (tgt := 104) hx hb dX2_count_73 (by decide) (fun c_179 => ?_) (fun c_179 => ?_)
      · skip
        have c_179 := (cq_le (show (200 : Int32).toInt = (200 : Int) from by decide) (show (0 : Int32).toInt = (0 : Int) from by decide)).mp c_179
        exfalso; omega
      · skip
        have c_179 := mt (cq_le (show (200 : Int32).toInt = (200 : Int) from by decide) (show (0 : Int32).toInt = (0 : Int) from by decide)).mpr c_179
        refine lv_iload_n hx hb dX2_count_76 rfl (lv_at hl 3 rfl) ?_
        refine lv_iconst (v := 4) hx hb dX2_count_77 (by decide) ?_
        refine lv_icmp_ne (tgt := 104) hx hb dX2_count_78 (by decide) (fun c_180 => ?_) (fun c_180 => ?_)
        · skip
          have c_180 := mt (cq_eq rfl (show (4 : Int32).toInt = (4 : Int) from by decide)).mpr c_180
          refine lv_iload_n hx hb dX2_count_104 rfl (lv_at hl 3 rfl) ?_
          refine lv_iconst (v := 5) hx hb dX2_count_105 (by decide) ?_
          refine lv_icmp_ne (tgt := 114) hx hb dX2_count_106 (by decide) (fun c_181 => ?_) (fun c_181 => ?_)
          · skip
            have c_181 := mt (cq_eq rfl (show (5 : Int32).toInt = (5 : Int) from by decide)).mpr c_181
            refine lv_iconst (v := 0) hx hb dX2_count_114 (by decide) ?_
            refine lv_istore_n (lv' := [(3, .int 0), (2, .int 0), (0, .ref (ad 0)), (1, .int p0)]) hx hb dX2_count_115 rfl hl (by decide) rfl (fun ls hl => ?_)
            refine lv_iload_n hx hb dX2_count_116 rfl (lv_at hl 0 rfl) ?_
            refine lv_iconst (v := 4) hx hb dX2_count_117 (by decide) ?_
            refine lv_icmp_ge (tgt := 146) hx hb dX2_count_118 (by decide) (fun c_182 => ?_) (fun c_182 => ?_)
            · skip
              have c_182 := (cq_le (show (4 : Int32).toInt = (4 : Int) from by decide) (show (0 : Int32).toInt = (0 : Int) from by decide)).mp c_182
              exfalso; omega
            · skip
              have c_182 := mt (cq_le (show (4 : Int32).toInt = (4 : Int) from by decide) (show (0 : Int32).toInt = (0 : Int) from by decide)).mpr c_182
              refine lv_iload_n hx hb dX2_count_121 rfl (lv_at hl 3 rfl) ?_
              refine lv_bipush (v := 6) hx hb dX2_count_122 (by decide) ?_
              refine lv_icmp_ne (tgt := 146) hx hb dX2_count_124 (by decide) (fun c_183 => ?_) (fun c_183 => ?_)
              · skip
                have c_183 := mt (cq_eq rfl (show (6 : Int32).toInt = (6 : Int) from by decide)).mpr c_183
                refine lv_iconst (v := 0) hx hb dX2_count_146 (by decide) ?_
                refine lv_istore_n (lv' := [(3, .int 0), (2, .int 0), (0, .ref (ad 0)), (1, .int p0)]) hx hb dX2_count_147 rfl hl (by decide) rfl (fun ls hl => ?_)
                refine lv_iload_n hx hb dX2_count_148 rfl (lv_at hl 0 rfl) ?_
                refine lv_sipush (v := 200) hx hb dX2_count_149 (by decide) ?_
                refine lv_icmp_ge (tgt := 193) hx hb dX2_count_152 (by decide) (fun c_184 => ?_) (fun c_184 => ?_)
                · skip
                  have c_184 := (cq_le (show (200 : Int32).toInt = (200 : Int) from by decide) (show (0 : Int32).toInt = (0 : Int) from by decide)).mp c_184
                  exfalso; omega
                · skip
                  have c_184 := mt (cq_le (show (200 : Int32).toInt = (200 : Int) from by decide) (show (0 : Int32).toInt = (0 : Int) from by decide)).mpr c_184
                  refine lv_iload_n hx hb dX2_count_155 rfl (lv_at hl 3 rfl) ?_
                  refine lv_bipush (v := 7) hx hb dX2_count_156 (by decide) ?_
                  refine lv_icmp_ne (tgt := 193) hx hb dX2_count_158 (by decide) (fun c_185 => ?_) (fun c_185 => ?_)
                  · skip
                    have c_185 := mt (cq_eq rfl (show (7 : Int32).toInt = (7 : Int) from by decide)).mpr c_185
                    refine lv_iload_n hx hb dX2_count_193 rfl (lv_at hl 3 rfl) ?_
                    refine lv_bipush (v := 8) hx hb dX2_count_194 (by decide) ?_
                    refine lv_icmp_ne (tgt := 209) hx hb dX2_count_196 (by decide) (fun c_186 => ?_) (fun c_186 => ?_)
                    · skip
                      have c_186 := mt (cq_eq rfl (show (8 : Int32).toInt = (8 : Int) from by decide)).mpr c_186
                      refine lv_aload_n hx hb dX2_count_209 rfl (lv_at hl 2 rfl) ?_
                      refine va_get (D := D) (ci := 1) (v := .int (nI 1)) (C := RX2) (T := TX2) (N := 19) hx hb hts hin hown hK hP 0 rfl rfl 1 (by decide) (hts (.fieldLink RX2 48 "HandCasesModel" "fault" "I") (by decide +kernel)) (fun _ h9 => h9) rfl dX2_count_210 ?_
                      refine lv_if_le (tgt := 220) hx hb dX2_count_213 (by decide) (fun c_187 => ?_) (fun c_187 => ?_)
                      · skip
                        have c_187 := (cq_le (nI_toInt (by omega)) (show (0 : Int32).toInt = (0 : Int) from by decide)).mp c_187
                        exfalso; omega
                      · skip
                        have c_187 := mt (cq_le (nI_toInt (by omega)) (show (0 : Int32).toInt = (0 : Int) from by decide)).mpr c_187
                        refine lv_iconst (v := 0) hx hb dX2_count_216 (by decide) ?_
                        refine lv_goto (tgt := 256) hx hb dX2_count_217 (by decide) ?_
                        have eo : oCnt σ p0 = (1, 0) := by unfold oCnt; rw [if_pos (by omega)]
                        exact ret_i (σ, setA δ 0 0 1, w0) hx hb hr rfl hK hlocks hP hD hS ⟨setA δ 0 0 1, w0, rfl, by rw [eo], by rw [eo]; rfl⟩ dX2_count_256
                    · skip
                      have c_186 := (cq_eq rfl (show (8 : Int32).toInt = (8 : Int) from by decide)).mp c_186
                      exfalso; omega
                  · skip
                    have c_185 := (cq_eq rfl (show (7 : Int32).toInt = (7 : Int) from by decide)).mp c_185
                    exfalso; omega
              · skip
                have c_183 := (cq_eq rfl (show (6 : Int32).toInt = (6 : Int) from by decide)).mp c_183
                exfalso; omega
          · skip
            have c_181 := (cq_eq rfl (show (5 : Int32).toInt = (5 : Int) from by decide)).mp c_181
            exfalso; omega
        · skip
          have c_180 := (cq_eq rfl (show (4 : Int32).toInt = (4 : Int) from by decide)).mp c_180
          exfalso; omega
    · skip
      have c_178 := mt (cq_le (nI_toInt (by omega)) (show (0 : Int32).toInt = (0 : Int) from by decide)).mpr c_178
      refine lv_iload_n hx hb dX2_count_31 rfl (lv_at hl 3 rfl) ?_
      refine lv_iconst (v := 3) hx hb dX2_count_32 (by decide) ?_
      refine lv_icmp_ne (tgt := 67) hx hb dX2_count_33 (by decide) (fun c_188 => ?_) (fun c_188 => ?_)
      · skip
        have c_188 := mt (cq_eq rfl (show (3 : Int32).toInt = (3 : Int) from by decide)).mpr c_188
        refine lv_iconst (v := 0) hx hb dX2_count_67 (by decide) ?_
        refine lv_istore_n (lv' := [(3, .int 0), (2, .int 0), (0, .ref (ad 0)), (1, .int p0)]) hx hb dX2_count_68 rfl hl (by decide) rfl (fun ls hl => ?_)
        refine lv_iload_n hx hb dX2_count_69 rfl (lv_at hl 0 rfl) ?_
        refine lv_sipush (v := 200) hx hb dX2_count_70 (by decide) ?_
        refine lv_icmp_ge (tgt := 104) hx hb dX2_count_73 (by decide) (fun c_189 => ?_) (fun c_189 => ?_)
        · skip
          have c_189 := (cq_le (show (200 : Int32).toInt = (200 : Int) from by decide) (show (0 : Int32).toInt = (0 : Int) from by decide)).mp c_189
          exfalso; omega
        · skip
          have c_189 := mt (cq_le (show (200 : Int32).toInt = (200 : Int) from by decide) (show (0 : Int32).toInt = (0 : Int) from by decide)).mpr c_189
          refine lv_iload_n hx hb dX2_count_76 rfl (lv_at hl 3 rfl) ?_
          refine lv_iconst (v := 4) hx hb dX2_count_77 (by decide) ?_
          refine lv_icmp_ne (tgt := 104) hx hb dX2_count_78 (by decide) (fun c_190 => ?_) (fun c_190 => ?_)
          · skip
            have c_190 := mt (cq_eq rfl (show (4 : Int32).toInt = (4 : Int) from by decide)).mpr c_190
            refine lv_iload_n hx hb dX2_count_104 rfl (lv_at hl 3 rfl) ?_
            refine lv_iconst (v := 5) hx hb dX2_count_105 (by decide) ?_
            refine lv_icmp_ne (tgt := 114) hx hb dX2_count_106 (by decide) (fun c_191 => ?_) (fun c_191 => ?_)
            · skip
              have c_191 := mt (cq_eq rfl (show (5 : Int32).toInt = (5 : Int) from by decide)).mpr c_191
              refine lv_iconst (v := 0) hx hb dX2_count_114 (by decide) ?_
              refine lv_istore_n (lv' := [(3, .int 0), (2, .int 0), (0, .ref (ad 0)), (1, .int p0)]) hx hb dX2_count_115 rfl hl (by decide) rfl (fun ls hl => ?_)
              refine lv_iload_n hx hb dX2_count_116 rfl (lv_at hl 0 rfl) ?_
              refine lv_iconst (v := 4) hx hb dX2_count_117 (by decide) ?_
              refine lv_icmp_ge (tgt := 146) hx hb dX2_count_118 (by decide) (fun c_192 => ?_) (fun c_192 => ?_)
              · skip
                have c_192 := (cq_le (show (4 : Int32).toInt = (4 : Int) from by decide) (show (0 : Int32).toInt = (0 : Int) from by decide)).mp c_192
                exfalso; omega
              · skip
                have c_192 := mt (cq_le (show (4 : Int32).toInt = (4 : Int) from by decide) (show (0 : Int32).toInt = (0 : Int) from by decide)).mpr c_192
                refine lv_iload_n hx hb dX2_count_121 rfl (lv_at hl 3 rfl) ?_
                refine lv_bipush (v := 6) hx hb dX2_count_122 (by decide) ?_
                refine lv_icmp_ne (tgt := 146) hx hb dX2_count_124 (by decide) (fun c_193 => ?_) (fun c_193 => ?_)
                · skip
                  have c_193 := mt (cq_eq rfl (show (6 : Int32).toInt = (6 : Int) from by decide)).mpr c_193
                  refine lv_iconst (v := 0) hx hb dX2_count_146 (by decide) ?_
                  refine lv_istore_n (lv' := [(3, .int 0), (2, .int 0), (0, .ref (ad 0)), (1, .int p0)]) hx hb dX2_count_147 rfl hl (by decide) rfl (fun ls hl => ?_)
                  refine lv_iload_n hx hb dX2_count_148 rfl (lv_at hl 0 rfl) ?_
                  refine lv_sipush (v := 200) hx hb dX2_count_149 (by decide) ?_
                  refine lv_icmp_ge (tgt := 193) hx hb dX2_count_152 (by decide) (fun c_194 => ?_) (fun c_194 => ?_)
                  · skip
                    have c_194 := (cq_le (show (200 : Int32).toInt = (200 : Int) from by decide) (show (0 : Int32).toInt = (0 : Int) from by decide)).mp c_194
                    exfalso; omega
                  · skip
                    have c_194 := mt (cq_le (show (200 : Int32).toInt = (200 : Int) from by decide) (show (0 : Int32).toInt = (0 : Int) from by decide)).mpr c_194
                    refine lv_iload_n hx hb dX2_count_155 rfl (lv_at hl 3 rfl) ?_
                    refine lv_bipush (v := 7) hx hb dX2_count_156 (by decide) ?_
                    refine lv_icmp_ne (tgt := 193) hx hb dX2_count_158 (by decide) (fun c_195 => ?_) (fun c_195 => ?_)
                    · skip
                      have c_195 := mt (cq_eq rfl (show (7 : Int32).toInt = (7 : Int) from by decide)).mpr c_195
                      refine lv_iload_n hx hb dX2_count_193 rfl (lv_at hl 3 rfl) ?_
                      refine lv_bipush (v := 8) hx hb dX2_count_194 (by decide) ?_
                      refine lv_icmp_ne (tgt := 209) hx hb dX2_count_196 (by decide) (fun c_196 => ?_) (fun c_196 => ?_)
                      · skip
                        have c_196 := mt (cq_eq rfl (show (8 : Int32).toInt = (8 : Int) from by decide)).mpr c_196
                        refine lv_aload_n hx hb dX2_count_209 rfl (lv_at hl 2 rfl) ?_
                        refine va_get (D := D) (ci := 1) (v := .int (nI 1)) (C := RX2) (T := TX2) (N := 19) hx hb hts hin hown hK hP 0 rfl rfl 1 (by decide) (hts (.fieldLink RX2 48 "HandCasesModel" "fault" "I") (by decide +kernel)) (fun _ h9 => h9) rfl dX2_count_210 ?_
                        refine lv_if_le (tgt := 220) hx hb dX2_count_213 (by decide) (fun c_197 => ?_) (fun c_197 => ?_)
                        · skip
                          have c_197 := (cq_le (nI_toInt (by omega)) (show (0 : Int32).toInt = (0 : Int) from by decide)).mp c_197
                          exfalso; omega
                        · skip
                          have c_197 := mt (cq_le (nI_toInt (by omega)) (show (0 : Int32).toInt = (0 : Int) from by decide)).mpr c_197
                          refine lv_iconst (v := 0) hx hb dX2_count_216 (by decide) ?_
                          refine lv_goto (tgt := 256) hx hb dX2_count_217 (by decide) ?_
                          have eo : oCnt σ p0 = (1, 0) := by unfold oCnt; rw [if_pos (by omega)]
                          exact ret_i (σ, setA δ 0 0 1, w0) hx hb hr rfl hK hlocks hP hD hS ⟨setA δ 0 0 1, w0, rfl, by rw [eo], by rw [eo]; rfl⟩ dX2_count_256
                      · skip
                        have c_196 := (cq_eq rfl (show (8 : Int32).toInt = (8 : Int) from by decide)).mp c_196
                        exfalso; omega
                    · skip
                      have c_195 := (cq_eq rfl (show (7 : Int32).toInt = (7 : Int) from by decide)).mp c_195
                      exfalso; omega
                · skip
                  have c_193 := (cq_eq rfl (show (6 : Int32).toInt = (6 : Int) from by decide)).mp c_193
                  exfalso; omega
            · skip
              have c_191 := (cq_eq rfl (show (5 : Int32).toInt = (5 : Int) from by decide)).mp c_191
              exfalso; omega
          · skip
            have c_190 := (cq_eq rfl (show (4 : Int32).toInt = (4 : Int) from by decide)).mp c_190
            exfalso; omega
      · skip
        have c_188 := (cq_eq rfl (show (3 : Int32).toInt = (3 : Int) from by decide)).mp c_188
        exfalso; omega
  · skip
    have c_176 : (0 : Int32).toInt ≤ (p0 : Int32).toInt ∧ (p0 : Int32).toInt ≤ (8 : Int32).toInt := Decidable.not_not.mp (mt pI_0.mpr c_176)
    have c_176 : (0 : Int) ≤ p0.toInt ∧ p0.toInt ≤ (8 : Int) := (in_c rfl (show (0 : Int32).toInt = (0 : Int) from by decide) (show (8 : Int32).toInt = (8 : Int) from by decide)).mp c_176
    refine lv_iconst (v := 0) hx hb dX2_count_11 (by decide) ?_
    refine lv_goto (tgt := 16) hx hb dX2_count_12 (by decide) ?_
    refine va_put (D := D) (ci := 1) (v := .int 0) (ty := .int) (C := RX2) (T := TX2) (N := 19) hx hb hts hin tyX2 tyX2_ok nmX2 hown hK hP hD hS 0 rfl rfl 1 (by decide) (hts (.fieldLink RX2 48 "HandCasesModel" "fault" "I") (by decide +kernel)) (fun _ h9 => h9) rfl (by decide +kernel) rfl rfl (Nat.le_of_ble_eq_true rfl) dX2_count_16 (fun H locs hP hD hS => ?_)
    have hP : va_P D vwCl (WM cI cZ ad (σ, setA δ 0 0 0, w0)) H := hP
    have hD : va_D (AC ad s.heap.size) (WM cI cZ ad (σ, setA δ 0 0 0, w0)) := hD
    refine lv_iconst (v := 0) hx hb dX2_count_19 (by decide) ?_
    refine lv_istore_n (lv' := [(2, .int 0), (0, .ref (ad 0)), (1, .int p0)]) hx hb dX2_count_20 rfl hl (by decide) rfl (fun ls hl => ?_)
    refine lv_iconst (v := 0) hx hb dX2_count_21 (by decide) ?_
    refine lv_istore_n (lv' := [(3, .int 0), (2, .int 0), (0, .ref (ad 0)), (1, .int p0)]) hx hb dX2_count_22 rfl hl (by decide) rfl (fun ls hl => ?_)
    have b_i := b11 hI
    refine lv_iload_n hx hb dX2_count_23 rfl (lv_at hl 0 rfl) ?_
    refine lv_aload_n hx hb dX2_count_24 rfl (lv_at hl 2 rfl) ?_
    refine va_get (D := D) (ci := 1) (v := .int (nI (σ 11 0))) (C := RX2) (T := TX2) (N := 19) hx hb hts hin hown hK hP 0 rfl rfl 8 (by decide) (hts (.fieldLink RX2 55 "HandCasesModel" "items" "I") (by decide +kernel)) (fun _ h9 => h9) rfl dX2_count_25 ?_
    have b_198 := b11 hI
    refine lv_icmp_ge (tgt := 67) hx hb dX2_count_28 (by decide) (fun c_199 => ?_) (fun c_199 => ?_)
    · skip
      have c_199 := (cq_le (nI_toInt (by omega)) (show (0 : Int32).toInt = (0 : Int) from by decide)).mp c_199
      refine lv_iconst (v := 0) hx hb dX2_count_67 (by decide) ?_
      refine lv_istore_n (lv' := [(3, .int 0), (2, .int 0), (0, .ref (ad 0)), (1, .int p0)]) hx hb dX2_count_68 rfl hl (by decide) rfl (fun ls hl => ?_)
      refine lv_iload_n hx hb dX2_count_69 rfl (lv_at hl 0 rfl) ?_
      refine lv_sipush (v := 200) hx hb dX2_count_70 (by decide) ?_
      refine lv_icmp_ge (tgt := 104) hx hb dX2_count_73 (by decide) (fun c_200 => ?_) (fun c_200 => ?_)
      · skip
        have c_200 := (cq_le (show (200 : Int32).toInt = (200 : Int) from by decide) (show (0 : Int32).toInt = (0 : Int) from by decide)).mp c_200
        exfalso; omega
      · skip
        have c_200 := mt (cq_le (show (200 : Int32).toInt = (200 : Int) from by decide) (show (0 : Int32).toInt = (0 : Int) from by decide)).mpr c_200
        refine lv_iload_n hx hb dX2_count_76 rfl (lv_at hl 3 rfl) ?_
        refine lv_iconst (v := 4) hx hb dX2_count_77 (by decide) ?_
        refine lv_icmp_ne (tgt := 104) hx hb dX2_count_78 (by decide) (fun c_201 => ?_) (fun c_201 => ?_)
        · skip
          have c_201 := mt (cq_eq rfl (show (4 : Int32).toInt = (4 : Int) from by decide)).mpr c_201
          refine lv_iload_n hx hb dX2_count_104 rfl (lv_at hl 3 rfl) ?_
          refine lv_iconst (v := 5) hx hb dX2_count_105 (by decide) ?_
          refine lv_icmp_ne (tgt := 114) hx hb dX2_count_106 (by decide) (fun c_202 => ?_) (fun c_202 => ?_)
          · skip
            have c_202 := mt (cq_eq rfl (show (5 : Int32).toInt = (5 : Int) from by decide)).mpr c_202
            refine lv_iconst (v := 0) hx hb dX2_count_114 (by decide) ?_
            refine lv_istore_n (lv' := [(3, .int 0), (2, .int 0), (0, .ref (ad 0)), (1, .int p0)]) hx hb dX2_count_115 rfl hl (by decide) rfl (fun ls hl => ?_)
            refine lv_iload_n hx hb dX2_count_116 rfl (lv_at hl 0 rfl) ?_
            refine lv_iconst (v := 4) hx hb dX2_count_117 (by decide) ?_
            refine lv_icmp_ge (tgt := 146) hx hb dX2_count_118 (by decide) (fun c_203 => ?_) (fun c_203 => ?_)
            · skip
              have c_203 := (cq_le (show (4 : Int32).toInt = (4 : Int) from by decide) (show (0 : Int32).toInt = (0 : Int) from by decide)).mp c_203
              exfalso; omega
            · skip
              have c_203 := mt (cq_le (show (4 : Int32).toInt = (4 : Int) from by decide) (show (0 : Int32).toInt = (0 : Int) from by decide)).mpr c_203
              refine lv_iload_n hx hb dX2_count_121 rfl (lv_at hl 3 rfl) ?_
              refine lv_bipush (v := 6) hx hb dX2_count_122 (by decide) ?_
              refine lv_icmp_ne (tgt := 146) hx hb dX2_count_124 (by decide) (fun c_204 => ?_) (fun c_204 => ?_)
              · skip
                have c_204 := mt (cq_eq rfl (show (6 : Int32).toInt = (6 : Int) from by decide)).mpr c_204
                refine lv_iconst (v := 0) hx hb dX2_count_146 (by decide) ?_
                refine lv_istore_n (lv' := [(3, .int 0), (2, .int 0), (0, .ref (ad 0)), (1, .int p0)]) hx hb dX2_count_147 rfl hl (by decide) rfl (fun ls hl => ?_)
                refine lv_iload_n hx hb dX2_count_148 rfl (lv_at hl 0 rfl) ?_
                refine lv_sipush (v := 200) hx hb dX2_count_149 (by decide) ?_
                refine lv_icmp_ge (tgt := 193) hx hb dX2_count_152 (by decide) (fun c_205 => ?_) (fun c_205 => ?_)
                · skip
                  have c_205 := (cq_le (show (200 : Int32).toInt = (200 : Int) from by decide) (show (0 : Int32).toInt = (0 : Int) from by decide)).mp c_205
                  exfalso; omega
                · skip
                  have c_205 := mt (cq_le (show (200 : Int32).toInt = (200 : Int) from by decide) (show (0 : Int32).toInt = (0 : Int) from by decide)).mpr c_205
                  refine lv_iload_n hx hb dX2_count_155 rfl (lv_at hl 3 rfl) ?_
                  refine lv_bipush (v := 7) hx hb dX2_count_156 (by decide) ?_
                  refine lv_icmp_ne (tgt := 193) hx hb dX2_count_158 (by decide) (fun c_206 => ?_) (fun c_206 => ?_)
                  · skip
                    have c_206 := mt (cq_eq rfl (show (7 : Int32).toInt = (7 : Int) from by decide)).mpr c_206
                    refine lv_iload_n hx hb dX2_count_193 rfl (lv_at hl 3 rfl) ?_
                    refine lv_bipush (v := 8) hx hb dX2_count_194 (by decide) ?_
                    refine lv_icmp_ne (tgt := 209) hx hb dX2_count_196 (by decide) (fun c_207 => ?_) (fun c_207 => ?_)
                    · skip
                      have c_207 := mt (cq_eq rfl (show (8 : Int32).toInt = (8 : Int) from by decide)).mpr c_207
                      refine lv_aload_n hx hb dX2_count_209 rfl (lv_at hl 2 rfl) ?_
                      refine va_get (D := D) (ci := 1) (v := .int (nI 0)) (C := RX2) (T := TX2) (N := 19) hx hb hts hin hown hK hP 0 rfl rfl 1 (by decide) (hts (.fieldLink RX2 48 "HandCasesModel" "fault" "I") (by decide +kernel)) (fun _ h9 => h9) rfl dX2_count_210 ?_
                      refine lv_if_le (tgt := 220) hx hb dX2_count_213 (by decide) (fun c_208 => ?_) (fun c_208 => ?_)
                      · skip
                        have c_208 := (cq_le (nI_toInt (by omega)) (show (0 : Int32).toInt = (0 : Int) from by decide)).mp c_208
                        refine lv_iload_n hx hb dX2_count_220 rfl (lv_at hl 3 rfl) ?_
                        refine lv_if_ne (tgt := 231) hx hb dX2_count_221 (by decide) (fun c_209 => ?_) (fun c_209 => ?_)
                        · skip
                          have c_209 := mt (cq_eq rfl (show (0 : Int32).toInt = (0 : Int) from by decide)).mpr c_209
                          refine lv_iload_n hx hb dX2_count_231 rfl (lv_at hl 3 rfl) ?_
                          refine lv_iconst (v := 1) hx hb dX2_count_232 (by decide) ?_
                          refine lv_icmp_ne (tgt := 243) hx hb dX2_count_233 (by decide) (fun c_210 => ?_) (fun c_210 => ?_)
                          · skip
                            have c_210 := mt (cq_eq rfl (show (1 : Int32).toInt = (1 : Int) from by decide)).mpr c_210
                            refine lv_iload_n hx hb dX2_count_243 rfl (lv_at hl 3 rfl) ?_
                            refine lv_iconst (v := 2) hx hb dX2_count_244 (by decide) ?_
                            refine lv_icmp_ne (tgt := 255) hx hb dX2_count_245 (by decide) (fun c_211 => ?_) (fun c_211 => ?_)
                            · skip
                              have c_211 := mt (cq_eq rfl (show (2 : Int32).toInt = (2 : Int) from by decide)).mpr c_211
                              refine lv_iload_n hx hb dX2_count_255 rfl (lv_at hl 1 rfl) ?_
                              have eo : oCnt σ p0 = (0, 0) := by exfalso; omega
                              exact ret_i (σ, setA δ 0 0 0, w0) hx hb hr rfl hK hlocks hP hD hS ⟨setA δ 0 0 0, w0, rfl, by rw [eo], by rw [eo]; rfl⟩ dX2_count_256
                            · skip
                              have c_211 := (cq_eq rfl (show (2 : Int32).toInt = (2 : Int) from by decide)).mp c_211
                              refine lv_aload_n hx hb dX2_count_248 rfl (lv_at hl 2 rfl) ?_
                              refine va_get (D := D) (ci := 1) (v := .int (nI (σ 11 0))) (C := RX2) (T := TX2) (N := 19) hx hb hts hin hown hK hP 0 rfl rfl 8 (by decide) (hts (.fieldLink RX2 55 "HandCasesModel" "items" "I") (by decide +kernel)) (fun _ h9 => h9) rfl dX2_count_249 ?_
                              have b_212 := b11 hI
                              refine lv_goto (tgt := 256) hx hb dX2_count_252 (by decide) ?_
                              have eo : oCnt σ p0 = (0, nI (σ 11 0)) := by unfold oCnt; rw [if_neg (by omega)]; unfold oCount; repeat (first | rw [if_pos (by omega)] | rw [if_neg (by omega)])
                              exact ret_i (σ, setA δ 0 0 0, w0) hx hb hr rfl hK hlocks hP hD hS ⟨setA δ 0 0 0, w0, rfl, by rw [eo], by rw [eo]; rfl⟩ dX2_count_256
                          · skip
                            have c_210 := (cq_eq rfl (show (1 : Int32).toInt = (1 : Int) from by decide)).mp c_210
                            refine lv_aload_n hx hb dX2_count_236 rfl (lv_at hl 2 rfl) ?_
                            refine va_get (D := D) (ci := 1) (v := .int (nI (σ 5 0))) (C := RX2) (T := TX2) (N := 19) hx hb hts hin hown hK hP 0 rfl rfl 2 (by decide) (hts (.fieldLink RX2 58 "HandCasesModel" "houses" "I") (by decide +kernel)) (fun _ h9 => h9) rfl dX2_count_237 ?_
                            have b_213 := b5 hI
                            refine lv_goto (tgt := 256) hx hb dX2_count_240 (by decide) ?_
                            have eo : oCnt σ p0 = (0, nI (σ 5 0)) := by unfold oCnt; rw [if_neg (by omega)]; unfold oCount; repeat (first | rw [if_pos (by omega)] | rw [if_neg (by omega)])
                            exact ret_i (σ, setA δ 0 0 0, w0) hx hb hr rfl hK hlocks hP hD hS ⟨setA δ 0 0 0, w0, rfl, by rw [eo], by rw [eo]; rfl⟩ dX2_count_256
                        · skip
                          have c_209 := (cq_eq rfl (show (0 : Int32).toInt = (0 : Int) from by decide)).mp c_209
                          refine lv_aload_n hx hb dX2_count_224 rfl (lv_at hl 2 rfl) ?_
                          refine va_get (D := D) (ci := 1) (v := .int (nI (σ 0 0))) (C := RX2) (T := TX2) (N := 19) hx hb hts hin hown hK hP 0 rfl rfl 0 (by decide) (hts (.fieldLink RX2 44 "HandCasesModel" "holes" "I") (by decide +kernel)) (fun _ h9 => h9) rfl dX2_count_225 ?_
                          have b_214 := b0 hI
                          refine lv_goto (tgt := 256) hx hb dX2_count_228 (by decide) ?_
                          have eo : oCnt σ p0 = (0, nI (σ 0 0)) := by unfold oCnt; rw [if_neg (by omega)]; unfold oCount; repeat (first | rw [if_pos (by omega)] | rw [if_neg (by omega)])
                          exact ret_i (σ, setA δ 0 0 0, w0) hx hb hr rfl hK hlocks hP hD hS ⟨setA δ 0 0 0, w0, rfl, by rw [eo], by rw [eo]; rfl⟩ dX2_count_256
                      · skip
                        have c_208 := mt (cq_le (nI_toInt (by omega)) (show (0 : Int32).toInt = (0 : Int) from by decide)).mpr c_208
                        exfalso; omega
                    · skip
                      have c_207 := (cq_eq rfl (show (8 : Int32).toInt = (8 : Int) from by decide)).mp c_207
                      exfalso; omega
                  · skip
                    have c_206 := (cq_eq rfl (show (7 : Int32).toInt = (7 : Int) from by decide)).mp c_206
                    exfalso; omega
              · skip
                have c_204 := (cq_eq rfl (show (6 : Int32).toInt = (6 : Int) from by decide)).mp c_204
                exfalso; omega
          · skip
            have c_202 := (cq_eq rfl (show (5 : Int32).toInt = (5 : Int) from by decide)).mp c_202
            exfalso; omega
        · skip
          have c_201 := (cq_eq rfl (show (4 : Int32).toInt = (4 : Int) from by decide)).mp c_201
          exfalso; omega
    · skip
      have c_199 := mt (cq_le (nI_toInt (by omega)) (show (0 : Int32).toInt = (0 : Int) from by decide)).mpr c_199
      refine lv_iload_n hx hb dX2_count_31 rfl (lv_at hl 3 rfl) ?_
      refine lv_iconst (v := 3) hx hb dX2_count_32 (by decide) ?_
      refine lv_icmp_ne (tgt := 67) hx hb dX2_count_33 (by decide) (fun c_215 => ?_) (fun c_215 => ?_)
      · skip
        have c_215 := mt (cq_eq rfl (show (3 : Int32).toInt = (3 : Int) from by decide)).mpr c_215
        refine lv_iconst (v := 0) hx hb dX2_count_67 (by decide) ?_
        refine lv_istore_n (lv' := [(3, .int 0), (2, .int 0), (0, .ref (ad 0)), (1, .int p0)]) hx hb dX2_count_68 rfl hl (by decide) rfl (fun ls hl => ?_)
        refine lv_iload_n hx hb dX2_count_69 rfl (lv_at hl 0 rfl) ?_
        refine lv_sipush (v := 200) hx hb dX2_count_70 (by decide) ?_
        refine lv_icmp_ge (tgt := 104) hx hb dX2_count_73 (by decide) (fun c_216 => ?_) (fun c_216 => ?_)
        · skip
          have c_216 := (cq_le (show (200 : Int32).toInt = (200 : Int) from by decide) (show (0 : Int32).toInt = (0 : Int) from by decide)).mp c_216
          exfalso; omega
        · skip
          have c_216 := mt (cq_le (show (200 : Int32).toInt = (200 : Int) from by decide) (show (0 : Int32).toInt = (0 : Int) from by decide)).mpr c_216
          refine lv_iload_n hx hb dX2_count_76 rfl (lv_at hl 3 rfl) ?_
          refine lv_iconst (v := 4) hx hb dX2_count_77 (by decide) ?_
          refine lv_icmp_ne (tgt := 104) hx hb dX2_count_78 (by decide) (fun c_217 => ?_) (fun c_217 => ?_)
          · skip
            have c_217 := mt (cq_eq rfl (show (4 : Int32).toInt = (4 : Int) from by decide)).mpr c_217
            refine lv_iload_n hx hb dX2_count_104 rfl (lv_at hl 3 rfl) ?_
            refine lv_iconst (v := 5) hx hb dX2_count_105 (by decide) ?_
            refine lv_icmp_ne (tgt := 114) hx hb dX2_count_106 (by decide) (fun c_218 => ?_) (fun c_218 => ?_)
            · skip
              have c_218 := mt (cq_eq rfl (show (5 : Int32).toInt = (5 : Int) from by decide)).mpr c_218
              refine lv_iconst (v := 0) hx hb dX2_count_114 (by decide) ?_
              refine lv_istore_n (lv' := [(3, .int 0), (2, .int 0), (0, .ref (ad 0)), (1, .int p0)]) hx hb dX2_count_115 rfl hl (by decide) rfl (fun ls hl => ?_)
              refine lv_iload_n hx hb dX2_count_116 rfl (lv_at hl 0 rfl) ?_
              refine lv_iconst (v := 4) hx hb dX2_count_117 (by decide) ?_
              refine lv_icmp_ge (tgt := 146) hx hb dX2_count_118 (by decide) (fun c_219 => ?_) (fun c_219 => ?_)
              · skip
                have c_219 := (cq_le (show (4 : Int32).toInt = (4 : Int) from by decide) (show (0 : Int32).toInt = (0 : Int) from by decide)).mp c_219
                exfalso; omega
              · skip
                have c_219 := mt (cq_le (show (4 : Int32).toInt = (4 : Int) from by decide) (show (0 : Int32).toInt = (0 : Int) from by decide)).mpr c_219
                refine lv_iload_n hx hb dX2_count_121 rfl (lv_at hl 3 rfl) ?_
                refine lv_bipush (v := 6) hx hb dX2_count_122 (by decide) ?_
                refine lv_icmp_ne (tgt := 146) hx hb dX2_count_124 (by decide) (fun c_220 => ?_) (fun c_220 => ?_)
                · skip
                  have c_220 := mt (cq_eq rfl (show (6 : Int32).toInt = (6 : Int) from by decide)).mpr c_220
                  refine lv_iconst (v := 0) hx hb dX2_count_146 (by decide) ?_
                  refine lv_istore_n (lv' := [(3, .int 0), (2, .int 0), (0, .ref (ad 0)), (1, .int p0)]) hx hb dX2_count_147 rfl hl (by decide) rfl (fun ls hl => ?_)
                  refine lv_iload_n hx hb dX2_count_148 rfl (lv_at hl 0 rfl) ?_
                  refine lv_sipush (v := 200) hx hb dX2_count_149 (by decide) ?_
                  refine lv_icmp_ge (tgt := 193) hx hb dX2_count_152 (by decide) (fun c_221 => ?_) (fun c_221 => ?_)
                  · skip
                    have c_221 := (cq_le (show (200 : Int32).toInt = (200 : Int) from by decide) (show (0 : Int32).toInt = (0 : Int) from by decide)).mp c_221
                    exfalso; omega
                  · skip
                    have c_221 := mt (cq_le (show (200 : Int32).toInt = (200 : Int) from by decide) (show (0 : Int32).toInt = (0 : Int) from by decide)).mpr c_221
                    refine lv_iload_n hx hb dX2_count_155 rfl (lv_at hl 3 rfl) ?_
                    refine lv_bipush (v := 7) hx hb dX2_count_156 (by decide) ?_
                    refine lv_icmp_ne (tgt := 193) hx hb dX2_count_158 (by decide) (fun c_222 => ?_) (fun c_222 => ?_)
                    · skip
                      have c_222 := mt (cq_eq rfl (show (7 : Int32).toInt = (7 : Int) from by decide)).mpr c_222
                      refine lv_iload_n hx hb dX2_count_193 rfl (lv_at hl 3 rfl) ?_
                      refine lv_bipush (v := 8) hx hb dX2_count_194 (by decide) ?_
                      refine lv_icmp_ne (tgt := 209) hx hb dX2_count_196 (by decide) (fun c_223 => ?_) (fun c_223 => ?_)
                      · skip
                        have c_223 := mt (cq_eq rfl (show (8 : Int32).toInt = (8 : Int) from by decide)).mpr c_223
                        refine lv_aload_n hx hb dX2_count_209 rfl (lv_at hl 2 rfl) ?_
                        refine va_get (D := D) (ci := 1) (v := .int (nI 0)) (C := RX2) (T := TX2) (N := 19) hx hb hts hin hown hK hP 0 rfl rfl 1 (by decide) (hts (.fieldLink RX2 48 "HandCasesModel" "fault" "I") (by decide +kernel)) (fun _ h9 => h9) rfl dX2_count_210 ?_
                        refine lv_if_le (tgt := 220) hx hb dX2_count_213 (by decide) (fun c_224 => ?_) (fun c_224 => ?_)
                        · skip
                          have c_224 := (cq_le (nI_toInt (by omega)) (show (0 : Int32).toInt = (0 : Int) from by decide)).mp c_224
                          refine lv_iload_n hx hb dX2_count_220 rfl (lv_at hl 3 rfl) ?_
                          refine lv_if_ne (tgt := 231) hx hb dX2_count_221 (by decide) (fun c_225 => ?_) (fun c_225 => ?_)
                          · skip
                            have c_225 := mt (cq_eq rfl (show (0 : Int32).toInt = (0 : Int) from by decide)).mpr c_225
                            refine lv_iload_n hx hb dX2_count_231 rfl (lv_at hl 3 rfl) ?_
                            refine lv_iconst (v := 1) hx hb dX2_count_232 (by decide) ?_
                            refine lv_icmp_ne (tgt := 243) hx hb dX2_count_233 (by decide) (fun c_226 => ?_) (fun c_226 => ?_)
                            · skip
                              have c_226 := mt (cq_eq rfl (show (1 : Int32).toInt = (1 : Int) from by decide)).mpr c_226
                              refine lv_iload_n hx hb dX2_count_243 rfl (lv_at hl 3 rfl) ?_
                              refine lv_iconst (v := 2) hx hb dX2_count_244 (by decide) ?_
                              refine lv_icmp_ne (tgt := 255) hx hb dX2_count_245 (by decide) (fun c_227 => ?_) (fun c_227 => ?_)
                              · skip
                                have c_227 := mt (cq_eq rfl (show (2 : Int32).toInt = (2 : Int) from by decide)).mpr c_227
                                refine lv_iload_n hx hb dX2_count_255 rfl (lv_at hl 1 rfl) ?_
                                have eo : oCnt σ p0 = (0, 0) := by exfalso; omega
                                exact ret_i (σ, setA δ 0 0 0, w0) hx hb hr rfl hK hlocks hP hD hS ⟨setA δ 0 0 0, w0, rfl, by rw [eo], by rw [eo]; rfl⟩ dX2_count_256
                              · skip
                                have c_227 := (cq_eq rfl (show (2 : Int32).toInt = (2 : Int) from by decide)).mp c_227
                                refine lv_aload_n hx hb dX2_count_248 rfl (lv_at hl 2 rfl) ?_
                                refine va_get (D := D) (ci := 1) (v := .int (nI (σ 11 0))) (C := RX2) (T := TX2) (N := 19) hx hb hts hin hown hK hP 0 rfl rfl 8 (by decide) (hts (.fieldLink RX2 55 "HandCasesModel" "items" "I") (by decide +kernel)) (fun _ h9 => h9) rfl dX2_count_249 ?_
                                have b_228 := b11 hI
                                refine lv_goto (tgt := 256) hx hb dX2_count_252 (by decide) ?_
                                have eo : oCnt σ p0 = (0, nI (σ 11 0)) := by unfold oCnt; rw [if_neg (by omega)]; unfold oCount; repeat (first | rw [if_pos (by omega)] | rw [if_neg (by omega)])
                                exact ret_i (σ, setA δ 0 0 0, w0) hx hb hr rfl hK hlocks hP hD hS ⟨setA δ 0 0 0, w0, rfl, by rw [eo], by rw [eo]; rfl⟩ dX2_count_256
                            · skip
                              have c_226 := (cq_eq rfl (show (1 : Int32).toInt = (1 : Int) from by decide)).mp c_226
                              refine lv_aload_n hx hb dX2_count_236 rfl (lv_at hl 2 rfl) ?_
                              refine va_get (D := D) (ci := 1) (v := .int (nI (σ 5 0))) (C := RX2) (T := TX2) (N := 19) hx hb hts hin hown hK hP 0 rfl rfl 2 (by decide) (hts (.fieldLink RX2 58 "HandCasesModel" "houses" "I") (by decide +kernel)) (fun _ h9 => h9) rfl dX2_count_237 ?_
                              have b_229 := b5 hI
                              refine lv_goto (tgt := 256) hx hb dX2_count_240 (by decide) ?_
                              have eo : oCnt σ p0 = (0, nI (σ 5 0)) := by unfold oCnt; rw [if_neg (by omega)]; unfold oCount; repeat (first | rw [if_pos (by omega)] | rw [if_neg (by omega)])
                              exact ret_i (σ, setA δ 0 0 0, w0) hx hb hr rfl hK hlocks hP hD hS ⟨setA δ 0 0 0, w0, rfl, by rw [eo], by rw [eo]; rfl⟩ dX2_count_256
                          · skip
                            have c_225 := (cq_eq rfl (show (0 : Int32).toInt = (0 : Int) from by decide)).mp c_225
                            refine lv_aload_n hx hb dX2_count_224 rfl (lv_at hl 2 rfl) ?_
                            refine va_get (D := D) (ci := 1) (v := .int (nI (σ 0 0))) (C := RX2) (T := TX2) (N := 19) hx hb hts hin hown hK hP 0 rfl rfl 0 (by decide) (hts (.fieldLink RX2 44 "HandCasesModel" "holes" "I") (by decide +kernel)) (fun _ h9 => h9) rfl dX2_count_225 ?_
                            have b_230 := b0 hI
                            refine lv_goto (tgt := 256) hx hb dX2_count_228 (by decide) ?_
                            have eo : oCnt σ p0 = (0, nI (σ 0 0)) := by unfold oCnt; rw [if_neg (by omega)]; unfold oCount; repeat (first | rw [if_pos (by omega)] | rw [if_neg (by omega)])
                            exact ret_i (σ, setA δ 0 0 0, w0) hx hb hr rfl hK hlocks hP hD hS ⟨setA δ 0 0 0, w0, rfl, by rw [eo], by rw [eo]; rfl⟩ dX2_count_256
                        · skip
                          have c_224 := mt (cq_le (nI_toInt (by omega)) (show (0 : Int32).toInt = (0 : Int) from by decide)).mpr c_224
                          exfalso; omega
                      · skip
                        have c_223 := (cq_eq rfl (show (8 : Int32).toInt = (8 : Int) from by decide)).mp c_223
                        exfalso; omega
                    · skip
                      have c_222 := (cq_eq rfl (show (7 : Int32).toInt = (7 : Int) from by decide)).mp c_222
                      exfalso; omega
                · skip
                  have c_220 := (cq_eq rfl (show (6 : Int32).toInt = (6 : Int) from by decide)).mp c_220
                  exfalso; omega
            · skip
              have c_218 := (cq_eq rfl (show (5 : Int32).toInt = (5 : Int) from by decide)).mp c_218
              exfalso; omega
          · skip
            have c_217 := (cq_eq rfl (show (4 : Int32).toInt = (4 : Int) from by decide)).mp c_217
            exfalso; omega
      · skip
        have c_215 := (cq_eq rfl (show (3 : Int32).toInt = (3 : Int) from by decide)).mp c_215
        exfalso; omega

