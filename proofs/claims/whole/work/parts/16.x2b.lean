set_option maxHeartbeats 4000000 in
set_option maxRecDepth 100000 in
theorem c_X2_pass (l : Launch) (cI cZ : ClassId) (D : va_G) (ad pl : Nat → Nat) (tb sz : Nat) (σ δ : Sg) (w0 : Int32) (ii : Nat) (L : List Nat) (hI : Inv σ) (hi : ii < σ 11 0) (hPs : PasIs σ δ w0 L) (hL9 : L.length ≤ 100000000) : CtV l yX2_pass wsX2_pass ({ frames := 0, cells := 0, slots := 0, locals := 0 }) cI cZ D ad pl tb sz (WM cI cZ ad) (σ, δ, w0) [.ref (ad 0), .int (nI ii)] (fun u => ∃ δ1, u = (σ, δ1, w0) ∧ PasIs σ δ1 w0 (L ++ chain σ 250 (ii + 1)) ∧ δ1 0 0 = δ 0 0) := by
  refine Met.ofW (cc := cX2_pass) (maxL := 3) (ret := none) (by decide) rfl ?_
  intro p e s m args below meth c s₁ B hml hv
  obtain ⟨rfl, hsz, hP, hK, hD0, hZ⟩ := hv
  have hx := B.exec
  have hb := B.bytes
  have hr := B.returns
  have hts := atoms_spec (ws := wsX2_pass) B.pre
  have hown : s.vm.findClass RX2 = some m.cls := findClass_of_methodNamed B.named
  have hlocks := B.notSynchronized
  have hin : ∀ w ∈ wsX20, w ∈ wsX2_pass := fun w h => List.mem_cons_of_mem _ (List.mem_append_right _ h)
  subst hsz
  have hD : va_D (AC ad s.heap.size) (WM cI cZ ad (σ, δ, w0)) := AC_self WAd_m hD0
  have hA : ∀ q : Nat, s.heap.size ≤ q → AC ad s.heap.size q := fun q h => Or.inr h
  have hS : va_S (AC ad s.heap.size) s.heap s.heap [] := va_S.rf
  have hl := lv_entry ([.ref (ad 0), .int (nI ii)]) (n := 3) (Nat.le_of_ble_eq_true rfl)
  rw [lg_entry_eq]
  generalize (lg_sl ([.ref (ad 0), .int (nI ii)]) ++ List.replicate (3 - (lg_sl ([.ref (ad 0), .int (nI ii)])).length) Slot.unset).toArray = ls at hl ⊢
  have hl : lv_has ls 3 [(0, .ref (ad 0)), (1, .int (nI ii))] := hl
  obtain ⟨-, -, -, dp, rk, ld, hX⟩ := id hI
  refine lv_iload_n hx hb dX2_pass_0 rfl (lv_at hl 1 rfl) ?_
  refine lv_istore_n (lv' := [(2, .int (nI ii)), (0, .ref (ad 0)), (1, .int (nI ii))]) hx hb dX2_pass_1 rfl hl (by decide) rfl (fun ls hl => ?_)
  refine W_loop (ι := Nat × List Nat × Sg) 2 (fun (x : Nat × List Nat × Sg) H locs ls => (x.1 ≤ σ 11 0) ∧ (x.2.1 ++ chain σ (250 - x.2.1.length) x.1 = chain σ 250 (ii + 1)) ∧ (PasIs σ x.2.2 w0 (L ++ x.2.1)) ∧ (x.1 = 0 ∨ rk (x.1 - 1) ≤ 250 - x.2.1.length) ∧ (x.2.2 0 0 = δ 0 0) ∧ va_P D vwCl (WM cI cZ ad (σ, x.2.2, w0)) H ∧ va_D (AC ad s.heap.size) (WM cI cZ ad (σ, x.2.2, w0)) ∧ va_S (AC ad s.heap.size) s.heap H locs ∧ lv_has ls 3 [(0, .ref (ad 0)), (1, .int (nI ii)), (2, .int (mI x.1))]) (fun (x : Nat × List Nat × Sg) => 250 - x.2.1.length) ?_ ((ii + 1), ([] : List Nat), δ) _ _ _ ⟨by (try dsimp only); omega, rfl, by (try dsimp only); rw [List.append_nil]; exact hPs, by (try dsimp only); right; rw [Nat.add_sub_cancel]; have e6 := X_rk hX (i := ii) (by omega); have e7 := b11 hI; show rk ii ≤ 250; omega, rfl, hP, hD, hS, lv_as (lv_sub hl [1, 2, 0] rfl) (lv_c rfl (lv_c rfl (lv_c (congrArg Value.int (mI_s ii).symm) rfl)))⟩
  intro ⟨e1, pr, δ1⟩ H locs ls ⟨h1, h2, h3, h4, h5, hP, hD, hS, hl⟩ ih
  dsimp only at h1 h2 h3 h4 h5 hP hD hl ih
  have e_len := congrArg List.length h2
  rw [List.length_append] at e_len
  have e_l : len σ ii = (chain σ 250 (ii + 1)).length := rfl
  have e_ll := I_len hI (i := ii) hi
  have b_i := b11 hI
  have e_k : e1 = 0 ∨ 1 ≤ rk (e1 - 1) := if e9 : e1 = 0 then Or.inl e9 else Or.inr (X_rk hX (i := e1 - 1) (by omega)).1
  have e_s : δ1 2 0 = L.length + pr.length := by rw [h3.1, List.length_append]
  refine lv_iload_n hx hb dX2_pass_2 rfl (lv_at hl 2 rfl) ?_
  refine lv_if_lt (tgt := 87) hx hb dX2_pass_3 (by decide) (fun c_1 => ?_) (fun c_1 => ?_)
  · skip
    have c_1 := (cq_lt (mI_toInt (by omega)) (show (0 : Int32).toInt = (0 : Int) from by decide)).mp c_1
    exact ret_v (σ, δ1, w0) hx hb hr hK hlocks hP hD hS ⟨δ1, rfl, by rw [← h2, show e1 = 0 from by omega, chain_0, List.append_nil]; exact h3, h5⟩ dX2_pass_87
  · skip
    have c_1 := mt (cq_lt (mI_toInt (by omega)) (show (0 : Int32).toInt = (0 : Int) from by decide)).mpr c_1
    refine lv_aload_n hx hb dX2_pass_6 rfl (lv_at hl 0 rfl) ?_
    refine lv_aload_n hx hb dX2_pass_7 rfl (lv_at hl 0 rfl) ?_
    refine va_get (D := D) (ci := 1) (v := .int (nI (δ1 2 0))) (C := RX2) (T := TX2) (N := 19) hx hb hts hin hown hK hP 0 rfl rfl 15 (by decide) (hts (.fieldLink RX2 82 "HandCasesModel" "seen" "I") (by decide +kernel)) (fun _ h9 => h9) rfl dX2_pass_8 ?_
    refine lv_aload_n hx hb dX2_pass_11 rfl (lv_at hl 0 rfl) ?_
    refine va_get (D := D) (ci := 1) (v := .int w0) (C := RX2) (T := TX2) (N := 19) hx hb hts hin hown hK hP 0 rfl rfl 17 (by decide) (hts (.fieldLink RX2 85 "HandCasesModel" "wanted" "I") (by decide +kernel)) (fun _ h9 => h9) rfl dX2_pass_12 ?_
    refine lv_icmp_ne (tgt := 22) hx hb dX2_pass_15 (by decide) (fun c_2 => ?_) (fun c_2 => ?_)
    · skip
      have c_2 := mt (cq_eq (nI_toInt (by omega)) rfl).mpr c_2
      refine lv_aload_n hx hb dX2_pass_22 rfl (lv_at hl 0 rfl) ?_
      refine va_get (D := D) (ci := 1) (v := .int (mI (δ1 4 0))) (C := RX2) (T := TX2) (N := 19) hx hb hts hin hown hK hP 0 rfl rfl 18 (by decide) (hts (.fieldLink RX2 88 "HandCasesModel" "found" "I") (by decide +kernel)) (fun _ h9 => h9) rfl dX2_pass_23 ?_
      refine va_put (D := D) (ci := 1) (v := .int (mI (δ1 4 0))) (ty := .int) (C := RX2) (T := TX2) (N := 19) hx hb hts hin tyX2 tyX2_ok nmX2 hown hK hP hD hS 0 rfl rfl 18 (by decide) (hts (.fieldLink RX2 88 "HandCasesModel" "found" "I") (by decide +kernel)) (fun _ h9 => h9) rfl (by decide +kernel) rfl rfl (Nat.le_of_ble_eq_true rfl) dX2_pass_26 (fun H locs hP hD hS => ?_)
      have hP : va_P D vwCl (WM cI cZ ad (σ, setA δ1 4 0 (δ1 4 0), w0)) H := hP
      have hD : va_D (AC ad s.heap.size) (WM cI cZ ad (σ, setA δ1 4 0 (δ1 4 0), w0)) := hD
      refine lv_aload_n hx hb dX2_pass_29 rfl (lv_at hl 0 rfl) ?_
      refine lv_dup hx hb dX2_pass_30 rfl ?_
      refine va_get (D := D) (ci := 1) (v := .int (nI (δ1 2 0))) (C := RX2) (T := TX2) (N := 19) hx hb hts hin hown hK hP 0 rfl rfl 15 (by decide) (hts (.fieldLink RX2 82 "HandCasesModel" "seen" "I") (by decide +kernel)) (fun _ h9 => h9) rfl dX2_pass_31 ?_
      refine lv_iconst (v := 1) hx hb dX2_pass_34 (by decide) ?_
      refine lv_iadd hx hb dX2_pass_35 ?_
      refine q_topi (nI ((δ1 2 0) + 1)) (nI_add (δ1 2 0) 1) ?_
      refine va_put (D := D) (ci := 1) (v := .int (nI ((δ1 2 0) + 1))) (ty := .int) (C := RX2) (T := TX2) (N := 19) hx hb hts hin tyX2 tyX2_ok nmX2 hown hK hP hD hS 0 rfl rfl 15 (by decide) (hts (.fieldLink RX2 82 "HandCasesModel" "seen" "I") (by decide +kernel)) (fun _ h9 => h9) rfl (by decide +kernel) rfl rfl (Nat.le_of_ble_eq_true rfl) dX2_pass_36 (fun H locs hP hD hS => ?_)
      have hP : va_P D vwCl (WM cI cZ ad (σ, setA (setA δ1 4 0 (δ1 4 0)) 2 0 ((δ1 2 0) + 1), w0)) H := hP
      have hD : va_D (AC ad s.heap.size) (WM cI cZ ad (σ, setA (setA δ1 4 0 (δ1 4 0)) 2 0 ((δ1 2 0) + 1), w0)) := hD
      refine lv_aload_n hx hb dX2_pass_39 rfl (lv_at hl 0 rfl) ?_
      refine lv_dup hx hb dX2_pass_40 rfl ?_
      refine va_get (D := D) (ci := 1) (v := .int (nI (δ1 3 0))) (C := RX2) (T := TX2) (N := 19) hx hb hts hin hown hK hP 0 rfl rfl 16 (by decide) (hts (.fieldLink RX2 91 "HandCasesModel" "cost" "I") (by decide +kernel)) (fun _ h9 => h9) rfl dX2_pass_41 ?_
      refine lv_aload_n hx hb dX2_pass_44 rfl (lv_at hl 0 rfl) ?_
      refine va_get (D := D) (ci := 1) (v := .ref (ad 7)) (C := RX2) (T := TX2) (N := 19) hx hb hts hin hown hK hP 0 rfl rfl 10 (by decide) (hts (.fieldLink RX2 29 "HandCasesModel" "kind" "[I") (by decide +kernel)) (fun _ h9 => h9) rfl dX2_pass_45 ?_
      refine lv_iload_n hx hb dX2_pass_48 rfl (lv_at hl 2 rfl) ?_
      have b_3 := b7 hI (e1 - 1)
      refine q_iald (v := nI (σ 7 (e1 - 1))) hx hb hK hP 7 0 rfl rfl (e1 - 1) (by rw [mI_toInt (by omega)]; omega) (by omega) rfl dX2_pass_49 ?_
      refine lv_if_ne (tgt := 57) hx hb dX2_pass_50 (by decide) (fun c_4 => ?_) (fun c_4 => ?_)
      · skip
        have c_4 := mt (cq_eq (nI_toInt (by omega)) (show (0 : Int32).toInt = (0 : Int) from by decide)).mpr c_4
        refine lv_aload_n hx hb dX2_pass_57 rfl (lv_at hl 0 rfl) ?_
        refine va_get (D := D) (ci := 1) (v := .ref (ad 7)) (C := RX2) (T := TX2) (N := 19) hx hb hts hin hown hK hP 0 rfl rfl 10 (by decide) (hts (.fieldLink RX2 29 "HandCasesModel" "kind" "[I") (by decide +kernel)) (fun _ h9 => h9) rfl dX2_pass_58 ?_
        refine lv_iload_n hx hb dX2_pass_61 rfl (lv_at hl 2 rfl) ?_
        have b_5 := b7 hI (e1 - 1)
        refine q_iald (v := nI (σ 7 (e1 - 1))) hx hb hK hP 7 0 rfl rfl (e1 - 1) (by rw [mI_toInt (by omega)]; omega) (by omega) rfl dX2_pass_62 ?_
        refine lv_iconst (v := 1) hx hb dX2_pass_63 (by decide) ?_
        refine lv_icmp_ne (tgt := 71) hx hb dX2_pass_64 (by decide) (fun c_6 => ?_) (fun c_6 => ?_)
        · skip
          have c_6 := mt (cq_eq (nI_toInt (by omega)) (show (1 : Int32).toInt = (1 : Int) from by decide)).mpr c_6
          refine lv_bipush (v := 7) hx hb dX2_pass_71 (by decide) ?_
          refine lv_iadd hx hb dX2_pass_73 ?_
          refine q_topi (nI ((δ1 3 0) + 7)) (nI_add (δ1 3 0) 7) ?_
          refine va_put (D := D) (ci := 1) (v := .int (nI ((δ1 3 0) + 7))) (ty := .int) (C := RX2) (T := TX2) (N := 19) hx hb hts hin tyX2 tyX2_ok nmX2 hown hK hP hD hS 0 rfl rfl 16 (by decide) (hts (.fieldLink RX2 91 "HandCasesModel" "cost" "I") (by decide +kernel)) (fun _ h9 => h9) rfl (by decide +kernel) rfl rfl (Nat.le_of_ble_eq_true rfl) dX2_pass_74 (fun H locs hP hD hS => ?_)
          have hP : va_P D vwCl (WM cI cZ ad (σ, setA (setA (setA δ1 4 0 (δ1 4 0)) 2 0 ((δ1 2 0) + 1)) 3 0 ((δ1 3 0) + 7), w0)) H := hP
          have hD : va_D (AC ad s.heap.size) (WM cI cZ ad (σ, setA (setA (setA δ1 4 0 (δ1 4 0)) 2 0 ((δ1 2 0) + 1)) 3 0 ((δ1 3 0) + 7), w0)) := hD
          refine lv_aload_n hx hb dX2_pass_77 rfl (lv_at hl 0 rfl) ?_
          refine va_get (D := D) (ci := 1) (v := .ref (ad 9)) (C := RX2) (T := TX2) (N := 19) hx hb hts hin hown hK hP 0 rfl rfl 12 (by decide) (hts (.fieldLink RX2 35 "HandCasesModel" "next" "[I") (by decide +kernel)) (fun _ h9 => h9) rfl dX2_pass_78 ?_
          refine lv_iload_n hx hb dX2_pass_81 rfl (lv_at hl 2 rfl) ?_
          have b_7 := b10 hI (e1 - 1)
          refine q_iald (v := mI (σ 10 (e1 - 1))) hx hb hK hP 9 0 rfl rfl (e1 - 1) (by rw [mI_toInt (by omega)]; omega) (by omega) rfl dX2_pass_82 ?_
          refine lv_istore_n (lv' := [(2, .int (mI (σ 10 (e1 - 1)))), (0, .ref (ad 0)), (1, .int (nI ii))]) hx hb dX2_pass_83 rfl hl (by decide) rfl (fun ls hl => ?_)
          refine lv_goto (tgt := 2) hx hb dX2_pass_84 (by decide) ?_
          exact ih (σ 10 (e1 - 1), pr ++ [e1 - 1], setA (setA (setA δ1 4 0 (δ1 4 0)) 2 0 ((δ1 2 0) + 1)) 3 0 ((δ1 3 0) + 7)) _ _ _ ⟨I_bh hI (by omega), by (try dsimp only); rw [chain_st (by omega) (by omega)] at h2; rw [List.length_append, List.append_assoc]; exact h2, by (try dsimp only); rw [← List.append_assoc]; exact PasIs_push h3 (by rw [List.length_append]; first | (rw [if_pos (by omega)]; omega) | rw [if_neg (by omega)]) (by unfold sec; repeat (first | rw [if_pos (by omega)] | rw [if_neg (by omega)])), if e6 : σ 10 (e1 - 1) = 0 then Or.inl e6 else Or.inr (by (try dsimp only); have e7 := (X_nx hX (i := e1 - 1) (by omega) e6).2; simp only [List.length_append, List.length_cons, List.length_nil]; omega), h5, hP, hD, hS, lv_sub hl [1, 2, 0] rfl⟩ (by show 250 - (pr ++ [e1 - 1]).length < 250 - pr.length; simp only [List.length_append, List.length_cons, List.length_nil]; omega)
        · skip
          have c_6 := (cq_eq (nI_toInt (by omega)) (show (1 : Int32).toInt = (1 : Int) from by decide)).mp c_6
          refine lv_iconst (v := 3) hx hb dX2_pass_67 (by decide) ?_
          refine lv_goto (tgt := 73) hx hb dX2_pass_68 (by decide) ?_
          refine lv_iadd hx hb dX2_pass_73 ?_
          refine q_topi (nI ((δ1 3 0) + 3)) (nI_add (δ1 3 0) 3) ?_
          refine va_put (D := D) (ci := 1) (v := .int (nI ((δ1 3 0) + 3))) (ty := .int) (C := RX2) (T := TX2) (N := 19) hx hb hts hin tyX2 tyX2_ok nmX2 hown hK hP hD hS 0 rfl rfl 16 (by decide) (hts (.fieldLink RX2 91 "HandCasesModel" "cost" "I") (by decide +kernel)) (fun _ h9 => h9) rfl (by decide +kernel) rfl rfl (Nat.le_of_ble_eq_true rfl) dX2_pass_74 (fun H locs hP hD hS => ?_)
          have hP : va_P D vwCl (WM cI cZ ad (σ, setA (setA (setA δ1 4 0 (δ1 4 0)) 2 0 ((δ1 2 0) + 1)) 3 0 ((δ1 3 0) + 3), w0)) H := hP
          have hD : va_D (AC ad s.heap.size) (WM cI cZ ad (σ, setA (setA (setA δ1 4 0 (δ1 4 0)) 2 0 ((δ1 2 0) + 1)) 3 0 ((δ1 3 0) + 3), w0)) := hD
          refine lv_aload_n hx hb dX2_pass_77 rfl (lv_at hl 0 rfl) ?_
          refine va_get (D := D) (ci := 1) (v := .ref (ad 9)) (C := RX2) (T := TX2) (N := 19) hx hb hts hin hown hK hP 0 rfl rfl 12 (by decide) (hts (.fieldLink RX2 35 "HandCasesModel" "next" "[I") (by decide +kernel)) (fun _ h9 => h9) rfl dX2_pass_78 ?_
          refine lv_iload_n hx hb dX2_pass_81 rfl (lv_at hl 2 rfl) ?_
          have b_8 := b10 hI (e1 - 1)
          refine q_iald (v := mI (σ 10 (e1 - 1))) hx hb hK hP 9 0 rfl rfl (e1 - 1) (by rw [mI_toInt (by omega)]; omega) (by omega) rfl dX2_pass_82 ?_
          refine lv_istore_n (lv' := [(2, .int (mI (σ 10 (e1 - 1)))), (0, .ref (ad 0)), (1, .int (nI ii))]) hx hb dX2_pass_83 rfl hl (by decide) rfl (fun ls hl => ?_)
          refine lv_goto (tgt := 2) hx hb dX2_pass_84 (by decide) ?_
          exact ih (σ 10 (e1 - 1), pr ++ [e1 - 1], setA (setA (setA δ1 4 0 (δ1 4 0)) 2 0 ((δ1 2 0) + 1)) 3 0 ((δ1 3 0) + 3)) _ _ _ ⟨I_bh hI (by omega), by (try dsimp only); rw [chain_st (by omega) (by omega)] at h2; rw [List.length_append, List.append_assoc]; exact h2, by (try dsimp only); rw [← List.append_assoc]; exact PasIs_push h3 (by rw [List.length_append]; first | (rw [if_pos (by omega)]; omega) | rw [if_neg (by omega)]) (by unfold sec; repeat (first | rw [if_pos (by omega)] | rw [if_neg (by omega)])), if e6 : σ 10 (e1 - 1) = 0 then Or.inl e6 else Or.inr (by (try dsimp only); have e7 := (X_nx hX (i := e1 - 1) (by omega) e6).2; simp only [List.length_append, List.length_cons, List.length_nil]; omega), h5, hP, hD, hS, lv_sub hl [1, 2, 0] rfl⟩ (by show 250 - (pr ++ [e1 - 1]).length < 250 - pr.length; simp only [List.length_append, List.length_cons, List.length_nil]; omega)
      · skip
        have c_4 := (cq_eq (nI_toInt (by omega)) (show (0 : Int32).toInt = (0 : Int) from by decide)).mp c_4
        refine lv_iconst (v := 2) hx hb dX2_pass_53 (by decide) ?_
        refine lv_goto (tgt := 73) hx hb dX2_pass_54 (by decide) ?_
        refine lv_iadd hx hb dX2_pass_73 ?_
        refine q_topi (nI ((δ1 3 0) + 2)) (nI_add (δ1 3 0) 2) ?_
        refine va_put (D := D) (ci := 1) (v := .int (nI ((δ1 3 0) + 2))) (ty := .int) (C := RX2) (T := TX2) (N := 19) hx hb hts hin tyX2 tyX2_ok nmX2 hown hK hP hD hS 0 rfl rfl 16 (by decide) (hts (.fieldLink RX2 91 "HandCasesModel" "cost" "I") (by decide +kernel)) (fun _ h9 => h9) rfl (by decide +kernel) rfl rfl (Nat.le_of_ble_eq_true rfl) dX2_pass_74 (fun H locs hP hD hS => ?_)
        have hP : va_P D vwCl (WM cI cZ ad (σ, setA (setA (setA δ1 4 0 (δ1 4 0)) 2 0 ((δ1 2 0) + 1)) 3 0 ((δ1 3 0) + 2), w0)) H := hP
        have hD : va_D (AC ad s.heap.size) (WM cI cZ ad (σ, setA (setA (setA δ1 4 0 (δ1 4 0)) 2 0 ((δ1 2 0) + 1)) 3 0 ((δ1 3 0) + 2), w0)) := hD
        refine lv_aload_n hx hb dX2_pass_77 rfl (lv_at hl 0 rfl) ?_
        refine va_get (D := D) (ci := 1) (v := .ref (ad 9)) (C := RX2) (T := TX2) (N := 19) hx hb hts hin hown hK hP 0 rfl rfl 12 (by decide) (hts (.fieldLink RX2 35 "HandCasesModel" "next" "[I") (by decide +kernel)) (fun _ h9 => h9) rfl dX2_pass_78 ?_
        refine lv_iload_n hx hb dX2_pass_81 rfl (lv_at hl 2 rfl) ?_
        have b_9 := b10 hI (e1 - 1)
        refine q_iald (v := mI (σ 10 (e1 - 1))) hx hb hK hP 9 0 rfl rfl (e1 - 1) (by rw [mI_toInt (by omega)]; omega) (by omega) rfl dX2_pass_82 ?_
        refine lv_istore_n (lv' := [(2, .int (mI (σ 10 (e1 - 1)))), (0, .ref (ad 0)), (1, .int (nI ii))]) hx hb dX2_pass_83 rfl hl (by decide) rfl (fun ls hl => ?_)
        refine lv_goto (tgt := 2) hx hb dX2_pass_84 (by decide) ?_
        exact ih (σ 10 (e1 - 1), pr ++ [e1 - 1], setA (setA (setA δ1 4 0 (δ1 4 0)) 2 0 ((δ1 2 0) + 1)) 3 0 ((δ1 3 0) + 2)) _ _ _ ⟨I_bh hI (by omega), by (try dsimp only); rw [chain_st (by omega) (by omega)] at h2; rw [List.length_append, List.append_assoc]; exact h2, by (try dsimp only); rw [← List.append_assoc]; exact PasIs_push h3 (by rw [List.length_append]; first | (rw [if_pos (by omega)]; omega) | rw [if_neg (by omega)]) (by unfold sec; repeat (first | rw [if_pos (by omega)] | rw [if_neg (by omega)])), if e6 : σ 10 (e1 - 1) = 0 then Or.inl e6 else Or.inr (by (try dsimp only); have e7 := (X_nx hX (i := e1 - 1) (by omega) e6).2; simp only [List.length_append, List.length_cons, List.length_nil]; omega), h5, hP, hD, hS, lv_sub hl [1, 2, 0] rfl⟩ (by show 250 - (pr ++ [e1 - 1]).length < 250 - pr.length; simp only [List.length_append, List.length_cons, List.length_nil]; omega)
    · skip
      have c_2 := (cq_eq (nI_toInt (by omega)) rfl).mp c_2
      refine lv_iload_n hx hb dX2_pass_18 rfl (lv_at hl 2 rfl) ?_
      refine lv_goto (tgt := 26) hx hb dX2_pass_19 (by decide) ?_
      refine va_put (D := D) (ci := 1) (v := .int (mI e1)) (ty := .int) (C := RX2) (T := TX2) (N := 19) hx hb hts hin tyX2 tyX2_ok nmX2 hown hK hP hD hS 0 rfl rfl 18 (by decide) (hts (.fieldLink RX2 88 "HandCasesModel" "found" "I") (by decide +kernel)) (fun _ h9 => h9) rfl (by decide +kernel) rfl rfl (Nat.le_of_ble_eq_true rfl) dX2_pass_26 (fun H locs hP hD hS => ?_)
      have hP : va_P D vwCl (WM cI cZ ad (σ, setA δ1 4 0 e1, w0)) H := hP
      have hD : va_D (AC ad s.heap.size) (WM cI cZ ad (σ, setA δ1 4 0 e1, w0)) := hD
      refine lv_aload_n hx hb dX2_pass_29 rfl (lv_at hl 0 rfl) ?_
      refine lv_dup hx hb dX2_pass_30 rfl ?_
      refine va_get (D := D) (ci := 1) (v := .int (nI (δ1 2 0))) (C := RX2) (T := TX2) (N := 19) hx hb hts hin hown hK hP 0 rfl rfl 15 (by decide) (hts (.fieldLink RX2 82 "HandCasesModel" "seen" "I") (by decide +kernel)) (fun _ h9 => h9) rfl dX2_pass_31 ?_
      refine lv_iconst (v := 1) hx hb dX2_pass_34 (by decide) ?_
      refine lv_iadd hx hb dX2_pass_35 ?_
      refine q_topi (nI ((δ1 2 0) + 1)) (nI_add (δ1 2 0) 1) ?_
      refine va_put (D := D) (ci := 1) (v := .int (nI ((δ1 2 0) + 1))) (ty := .int) (C := RX2) (T := TX2) (N := 19) hx hb hts hin tyX2 tyX2_ok nmX2 hown hK hP hD hS 0 rfl rfl 15 (by decide) (hts (.fieldLink RX2 82 "HandCasesModel" "seen" "I") (by decide +kernel)) (fun _ h9 => h9) rfl (by decide +kernel) rfl rfl (Nat.le_of_ble_eq_true rfl) dX2_pass_36 (fun H locs hP hD hS => ?_)
      have hP : va_P D vwCl (WM cI cZ ad (σ, setA (setA δ1 4 0 e1) 2 0 ((δ1 2 0) + 1), w0)) H := hP
      have hD : va_D (AC ad s.heap.size) (WM cI cZ ad (σ, setA (setA δ1 4 0 e1) 2 0 ((δ1 2 0) + 1), w0)) := hD
      refine lv_aload_n hx hb dX2_pass_39 rfl (lv_at hl 0 rfl) ?_
      refine lv_dup hx hb dX2_pass_40 rfl ?_
      refine va_get (D := D) (ci := 1) (v := .int (nI (δ1 3 0))) (C := RX2) (T := TX2) (N := 19) hx hb hts hin hown hK hP 0 rfl rfl 16 (by decide) (hts (.fieldLink RX2 91 "HandCasesModel" "cost" "I") (by decide +kernel)) (fun _ h9 => h9) rfl dX2_pass_41 ?_
      refine lv_aload_n hx hb dX2_pass_44 rfl (lv_at hl 0 rfl) ?_
      refine va_get (D := D) (ci := 1) (v := .ref (ad 7)) (C := RX2) (T := TX2) (N := 19) hx hb hts hin hown hK hP 0 rfl rfl 10 (by decide) (hts (.fieldLink RX2 29 "HandCasesModel" "kind" "[I") (by decide +kernel)) (fun _ h9 => h9) rfl dX2_pass_45 ?_
      refine lv_iload_n hx hb dX2_pass_48 rfl (lv_at hl 2 rfl) ?_
      have b_10 := b7 hI (e1 - 1)
      refine q_iald (v := nI (σ 7 (e1 - 1))) hx hb hK hP 7 0 rfl rfl (e1 - 1) (by rw [mI_toInt (by omega)]; omega) (by omega) rfl dX2_pass_49 ?_
      refine lv_if_ne (tgt := 57) hx hb dX2_pass_50 (by decide) (fun c_11 => ?_) (fun c_11 => ?_)
      · skip
        have c_11 := mt (cq_eq (nI_toInt (by omega)) (show (0 : Int32).toInt = (0 : Int) from by decide)).mpr c_11
        refine lv_aload_n hx hb dX2_pass_57 rfl (lv_at hl 0 rfl) ?_
        refine va_get (D := D) (ci := 1) (v := .ref (ad 7)) (C := RX2) (T := TX2) (N := 19) hx hb hts hin hown hK hP 0 rfl rfl 10 (by decide) (hts (.fieldLink RX2 29 "HandCasesModel" "kind" "[I") (by decide +kernel)) (fun _ h9 => h9) rfl dX2_pass_58 ?_
        refine lv_iload_n hx hb dX2_pass_61 rfl (lv_at hl 2 rfl) ?_
        have b_12 := b7 hI (e1 - 1)
        refine q_iald (v := nI (σ 7 (e1 - 1))) hx hb hK hP 7 0 rfl rfl (e1 - 1) (by rw [mI_toInt (by omega)]; omega) (by omega) rfl dX2_pass_62 ?_
        refine lv_iconst (v := 1) hx hb dX2_pass_63 (by decide) ?_
        refine lv_icmp_ne (tgt := 71) hx hb dX2_pass_64 (by decide) (fun c_13 => ?_) (fun c_13 => ?_)
        · skip
          have c_13 := mt (cq_eq (nI_toInt (by omega)) (show (1 : Int32).toInt = (1 : Int) from by decide)).mpr c_13
          refine lv_bipush (v := 7) hx hb dX2_pass_71 (by decide) ?_
          refine lv_iadd hx hb dX2_pass_73 ?_
          refine q_topi (nI ((δ1 3 0) + 7)) (nI_add (δ1 3 0) 7) ?_
          refine va_put (D := D) (ci := 1) (v := .int (nI ((δ1 3 0) + 7))) (ty := .int) (C := RX2) (T := TX2) (N := 19) hx hb hts hin tyX2 tyX2_ok nmX2 hown hK hP hD hS 0 rfl rfl 16 (by decide) (hts (.fieldLink RX2 91 "HandCasesModel" "cost" "I") (by decide +kernel)) (fun _ h9 => h9) rfl (by decide +kernel) rfl rfl (Nat.le_of_ble_eq_true rfl) dX2_pass_74 (fun H locs hP hD hS => ?_)
          have hP : va_P D vwCl (WM cI cZ ad (σ, setA (setA (setA δ1 4 0 e1) 2 0 ((δ1 2 0) + 1)) 3 0 ((δ1 3 0) + 7), w0)) H := hP
          have hD : va_D (AC ad s.heap.size) (WM cI cZ ad (σ, setA (setA (setA δ1 4 0 e1) 2 0 ((δ1 2 0) + 1)) 3 0 ((δ1 3 0) + 7), w0)) := hD
          refine lv_aload_n hx hb dX2_pass_77 rfl (lv_at hl 0 rfl) ?_
          refine va_get (D := D) (ci := 1) (v := .ref (ad 9)) (C := RX2) (T := TX2) (N := 19) hx hb hts hin hown hK hP 0 rfl rfl 12 (by decide) (hts (.fieldLink RX2 35 "HandCasesModel" "next" "[I") (by decide +kernel)) (fun _ h9 => h9) rfl dX2_pass_78 ?_
          refine lv_iload_n hx hb dX2_pass_81 rfl (lv_at hl 2 rfl) ?_
          have b_14 := b10 hI (e1 - 1)
          refine q_iald (v := mI (σ 10 (e1 - 1))) hx hb hK hP 9 0 rfl rfl (e1 - 1) (by rw [mI_toInt (by omega)]; omega) (by omega) rfl dX2_pass_82 ?_
          refine lv_istore_n (lv' := [(2, .int (mI (σ 10 (e1 - 1)))), (0, .ref (ad 0)), (1, .int (nI ii))]) hx hb dX2_pass_83 rfl hl (by decide) rfl (fun ls hl => ?_)
          refine lv_goto (tgt := 2) hx hb dX2_pass_84 (by decide) ?_
          exact ih (σ 10 (e1 - 1), pr ++ [e1 - 1], setA (setA (setA δ1 4 0 e1) 2 0 ((δ1 2 0) + 1)) 3 0 ((δ1 3 0) + 7)) _ _ _ ⟨I_bh hI (by omega), by (try dsimp only); rw [chain_st (by omega) (by omega)] at h2; rw [List.length_append, List.append_assoc]; exact h2, by (try dsimp only); rw [← List.append_assoc]; exact PasIs_push h3 (by rw [List.length_append]; first | (rw [if_pos (by omega)]; omega) | rw [if_neg (by omega)]) (by unfold sec; repeat (first | rw [if_pos (by omega)] | rw [if_neg (by omega)])), if e6 : σ 10 (e1 - 1) = 0 then Or.inl e6 else Or.inr (by (try dsimp only); have e7 := (X_nx hX (i := e1 - 1) (by omega) e6).2; simp only [List.length_append, List.length_cons, List.length_nil]; omega), h5, hP, hD, hS, lv_sub hl [1, 2, 0] rfl⟩ (by show 250 - (pr ++ [e1 - 1]).length < 250 - pr.length; simp only [List.length_append, List.length_cons, List.length_nil]; omega)
        · skip
          have c_13 := (cq_eq (nI_toInt (by omega)) (show (1 : Int32).toInt = (1 : Int) from by decide)).mp c_13
          refine lv_iconst (v := 3) hx hb dX2_pass_67 (by decide) ?_
          refine lv_goto (tgt := 73) hx hb dX2_pass_68 (by decide) ?_
          refine lv_iadd hx hb dX2_pass_73 ?_
          refine q_topi (nI ((δ1 3 0) + 3)) (nI_add (δ1 3 0) 3) ?_
          refine va_put (D := D) (ci := 1) (v := .int (nI ((δ1 3 0) + 3))) (ty := .int) (C := RX2) (T := TX2) (N := 19) hx hb hts hin tyX2 tyX2_ok nmX2 hown hK hP hD hS 0 rfl rfl 16 (by decide) (hts (.fieldLink RX2 91 "HandCasesModel" "cost" "I") (by decide +kernel)) (fun _ h9 => h9) rfl (by decide +kernel) rfl rfl (Nat.le_of_ble_eq_true rfl) dX2_pass_74 (fun H locs hP hD hS => ?_)
          have hP : va_P D vwCl (WM cI cZ ad (σ, setA (setA (setA δ1 4 0 e1) 2 0 ((δ1 2 0) + 1)) 3 0 ((δ1 3 0) + 3), w0)) H := hP
          have hD : va_D (AC ad s.heap.size) (WM cI cZ ad (σ, setA (setA (setA δ1 4 0 e1) 2 0 ((δ1 2 0) + 1)) 3 0 ((δ1 3 0) + 3), w0)) := hD
          refine lv_aload_n hx hb dX2_pass_77 rfl (lv_at hl 0 rfl) ?_
          refine va_get (D := D) (ci := 1) (v := .ref (ad 9)) (C := RX2) (T := TX2) (N := 19) hx hb hts hin hown hK hP 0 rfl rfl 12 (by decide) (hts (.fieldLink RX2 35 "HandCasesModel" "next" "[I") (by decide +kernel)) (fun _ h9 => h9) rfl dX2_pass_78 ?_
          refine lv_iload_n hx hb dX2_pass_81 rfl (lv_at hl 2 rfl) ?_
          have b_15 := b10 hI (e1 - 1)
          refine q_iald (v := mI (σ 10 (e1 - 1))) hx hb hK hP 9 0 rfl rfl (e1 - 1) (by rw [mI_toInt (by omega)]; omega) (by omega) rfl dX2_pass_82 ?_
          refine lv_istore_n (lv' := [(2, .int (mI (σ 10 (e1 - 1)))), (0, .ref (ad 0)), (1, .int (nI ii))]) hx hb dX2_pass_83 rfl hl (by decide) rfl (fun ls hl => ?_)
          refine lv_goto (tgt := 2) hx hb dX2_pass_84 (by decide) ?_
          exact ih (σ 10 (e1 - 1), pr ++ [e1 - 1], setA (setA (setA δ1 4 0 e1) 2 0 ((δ1 2 0) + 1)) 3 0 ((δ1 3 0) + 3)) _ _ _ ⟨I_bh hI (by omega), by (try dsimp only); rw [chain_st (by omega) (by omega)] at h2; rw [List.length_append, List.append_assoc]; exact h2, by (try dsimp only); rw [← List.append_assoc]; exact PasIs_push h3 (by rw [List.length_append]; first | (rw [if_pos (by omega)]; omega) | rw [if_neg (by omega)]) (by unfold sec; repeat (first | rw [if_pos (by omega)] | rw [if_neg (by omega)])), if e6 : σ 10 (e1 - 1) = 0 then Or.inl e6 else Or.inr (by (try dsimp only); have e7 := (X_nx hX (i := e1 - 1) (by omega) e6).2; simp only [List.length_append, List.length_cons, List.length_nil]; omega), h5, hP, hD, hS, lv_sub hl [1, 2, 0] rfl⟩ (by show 250 - (pr ++ [e1 - 1]).length < 250 - pr.length; simp only [List.length_append, List.length_cons, List.length_nil]; omega)
      · skip
        have c_11 := (cq_eq (nI_toInt (by omega)) (show (0 : Int32).toInt = (0 : Int) from by decide)).mp c_11
        refine lv_iconst (v := 2) hx hb dX2_pass_53 (by decide) ?_
        refine lv_goto (tgt := 73) hx hb dX2_pass_54 (by decide) ?_
        refine lv_iadd hx hb dX2_pass_73 ?_
        refine q_topi (nI ((δ1 3 0) + 2)) (nI_add (δ1 3 0) 2) ?_
        refine va_put (D := D) (ci := 1) (v := .int (nI ((δ1 3 0) + 2))) (ty := .int) (C := RX2) (T := TX2) (N := 19) hx hb hts hin tyX2 tyX2_ok nmX2 hown hK hP hD hS 0 rfl rfl 16 (by decide) (hts (.fieldLink RX2 91 "HandCasesModel" "cost" "I") (by decide +kernel)) (fun _ h9 => h9) rfl (by decide +kernel) rfl rfl (Nat.le_of_ble_eq_true rfl) dX2_pass_74 (fun H locs hP hD hS => ?_)
        have hP : va_P D vwCl (WM cI cZ ad (σ, setA (setA (setA δ1 4 0 e1) 2 0 ((δ1 2 0) + 1)) 3 0 ((δ1 3 0) + 2), w0)) H := hP
        have hD : va_D (AC ad s.heap.size) (WM cI cZ ad (σ, setA (setA (setA δ1 4 0 e1) 2 0 ((δ1 2 0) + 1)) 3 0 ((δ1 3 0) + 2), w0)) := hD
        refine lv_aload_n hx hb dX2_pass_77 rfl (lv_at hl 0 rfl) ?_
        refine va_get (D := D) (ci := 1) (v := .ref (ad 9)) (C := RX2) (T := TX2) (N := 19) hx hb hts hin hown hK hP 0 rfl rfl 12 (by decide) (hts (.fieldLink RX2 35 "HandCasesModel" "next" "[I") (by decide +kernel)) (fun _ h9 => h9) rfl dX2_pass_78 ?_
        refine lv_iload_n hx hb dX2_pass_81 rfl (lv_at hl 2 rfl) ?_
        have b_16 := b10 hI (e1 - 1)
        refine q_iald (v := mI (σ 10 (e1 - 1))) hx hb hK hP 9 0 rfl rfl (e1 - 1) (by rw [mI_toInt (by omega)]; omega) (by omega) rfl dX2_pass_82 ?_
        refine lv_istore_n (lv' := [(2, .int (mI (σ 10 (e1 - 1)))), (0, .ref (ad 0)), (1, .int (nI ii))]) hx hb dX2_pass_83 rfl hl (by decide) rfl (fun ls hl => ?_)
        refine lv_goto (tgt := 2) hx hb dX2_pass_84 (by decide) ?_
        exact ih (σ 10 (e1 - 1), pr ++ [e1 - 1], setA (setA (setA δ1 4 0 e1) 2 0 ((δ1 2 0) + 1)) 3 0 ((δ1 3 0) + 2)) _ _ _ ⟨I_bh hI (by omega), by (try dsimp only); rw [chain_st (by omega) (by omega)] at h2; rw [List.length_append, List.append_assoc]; exact h2, by (try dsimp only); rw [← List.append_assoc]; exact PasIs_push h3 (by rw [List.length_append]; first | (rw [if_pos (by omega)]; omega) | rw [if_neg (by omega)]) (by unfold sec; repeat (first | rw [if_pos (by omega)] | rw [if_neg (by omega)])), if e6 : σ 10 (e1 - 1) = 0 then Or.inl e6 else Or.inr (by (try dsimp only); have e7 := (X_nx hX (i := e1 - 1) (by omega) e6).2; simp only [List.length_append, List.length_cons, List.length_nil]; omega), h5, hP, hD, hS, lv_sub hl [1, 2, 0] rfl⟩ (by show 250 - (pr ++ [e1 - 1]).length < 250 - pr.length; simp only [List.length_append, List.length_cons, List.length_nil]; omega)

set_option maxHeartbeats 4000000 in
set_option maxRecDepth 100000 in
theorem c_X2_begin (l : Launch) (cI cZ : ClassId) (D : va_G) (ad pl : Nat → Nat) (tb sz : Nat) (σ δ : Sg) (w0 : Int32) (p0 : Int32)  : CtV l yX2_begin wsX2_begin ({ frames := 0, cells := 0, slots := 0, locals := 0 }) cI cZ D ad pl tb sz (WM cI cZ ad) (σ, δ, w0) [.ref (ad 0), .int p0] (fun u => ∃ δ1, u = (σ, δ1, p0) ∧ PasIs σ δ1 p0 ([]) ∧ δ1 0 0 = δ 0 0) := by
  refine Met.ofW (cc := cX2_begin) (maxL := 2) (ret := none) (by decide) rfl ?_
  intro p e s m args below meth c s₁ B hml hv
  obtain ⟨rfl, hsz, hP, hK, hD0, hZ⟩ := hv
  have hx := B.exec
  have hb := B.bytes
  have hr := B.returns
  have hts := atoms_spec (ws := wsX2_begin) B.pre
  have hown : s.vm.findClass RX2 = some m.cls := findClass_of_methodNamed B.named
  have hlocks := B.notSynchronized
  have hin : ∀ w ∈ wsX20, w ∈ wsX2_begin := fun w h => List.mem_cons_of_mem _ (List.mem_append_right _ h)
  subst hsz
  have hD : va_D (AC ad s.heap.size) (WM cI cZ ad (σ, δ, w0)) := AC_self WAd_m hD0
  have hA : ∀ q : Nat, s.heap.size ≤ q → AC ad s.heap.size q := fun q h => Or.inr h
  have hS : va_S (AC ad s.heap.size) s.heap s.heap [] := va_S.rf
  have hl := lv_entry ([.ref (ad 0), .int p0]) (n := 2) (Nat.le_of_ble_eq_true rfl)
  rw [lg_entry_eq]
  generalize (lg_sl ([.ref (ad 0), .int p0]) ++ List.replicate (2 - (lg_sl ([.ref (ad 0), .int p0])).length) Slot.unset).toArray = ls at hl ⊢
  have hl : lv_has ls 2 [(0, .ref (ad 0)), (1, .int p0)] := hl
  refine lv_aload_n hx hb dX2_begin_0 rfl (lv_at hl 0 rfl) ?_
  refine lv_iconst (v := 0) hx hb dX2_begin_1 (by decide) ?_
  refine va_put (D := D) (ci := 1) (v := .int 0) (ty := .int) (C := RX2) (T := TX2) (N := 19) hx hb hts hin tyX2 tyX2_ok nmX2 hown hK hP hD hS 0 rfl rfl 15 (by decide) (hts (.fieldLink RX2 82 "HandCasesModel" "seen" "I") (by decide +kernel)) (fun _ h9 => h9) rfl (by decide +kernel) rfl rfl (Nat.le_of_ble_eq_true rfl) dX2_begin_2 (fun H locs hP hD hS => ?_)
  have hP : va_P D vwCl (WM cI cZ ad (σ, setA δ 2 0 0, w0)) H := hP
  have hD : va_D (AC ad s.heap.size) (WM cI cZ ad (σ, setA δ 2 0 0, w0)) := hD
  refine lv_aload_n hx hb dX2_begin_5 rfl (lv_at hl 0 rfl) ?_
  refine lv_iconst (v := 0) hx hb dX2_begin_6 (by decide) ?_
  refine va_put (D := D) (ci := 1) (v := .int 0) (ty := .int) (C := RX2) (T := TX2) (N := 19) hx hb hts hin tyX2 tyX2_ok nmX2 hown hK hP hD hS 0 rfl rfl 16 (by decide) (hts (.fieldLink RX2 91 "HandCasesModel" "cost" "I") (by decide +kernel)) (fun _ h9 => h9) rfl (by decide +kernel) rfl rfl (Nat.le_of_ble_eq_true rfl) dX2_begin_7 (fun H locs hP hD hS => ?_)
  have hP : va_P D vwCl (WM cI cZ ad (σ, setA (setA δ 2 0 0) 3 0 0, w0)) H := hP
  have hD : va_D (AC ad s.heap.size) (WM cI cZ ad (σ, setA (setA δ 2 0 0) 3 0 0, w0)) := hD
  refine lv_aload_n hx hb dX2_begin_10 rfl (lv_at hl 0 rfl) ?_
  refine lv_iload_n hx hb dX2_begin_11 rfl (lv_at hl 1 rfl) ?_
  refine va_put (D := D) (ci := 1) (v := .int p0) (ty := .int) (C := RX2) (T := TX2) (N := 19) hx hb hts hin tyX2 tyX2_ok nmX2 hown hK hP hD hS 0 rfl rfl 17 (by decide) (hts (.fieldLink RX2 85 "HandCasesModel" "wanted" "I") (by decide +kernel)) (fun _ h9 => h9) rfl (by decide +kernel) rfl rfl (Nat.le_of_ble_eq_true rfl) dX2_begin_12 (fun H locs hP hD hS => ?_)
  have hP : va_P D vwCl (WM cI cZ ad (σ, setA (setA δ 2 0 0) 3 0 0, p0)) H := hP
  have hD : va_D (AC ad s.heap.size) (WM cI cZ ad (σ, setA (setA δ 2 0 0) 3 0 0, p0)) := hD
  refine lv_aload_n hx hb dX2_begin_15 rfl (lv_at hl 0 rfl) ?_
  refine lv_iconst (v := (-1)) hx hb dX2_begin_16 (by decide) ?_
  refine va_put (D := D) (ci := 1) (v := .int (-1)) (ty := .int) (C := RX2) (T := TX2) (N := 19) hx hb hts hin tyX2 tyX2_ok nmX2 hown hK hP hD hS 0 rfl rfl 18 (by decide) (hts (.fieldLink RX2 88 "HandCasesModel" "found" "I") (by decide +kernel)) (fun _ h9 => h9) rfl (by decide +kernel) rfl rfl (Nat.le_of_ble_eq_true rfl) dX2_begin_17 (fun H locs hP hD hS => ?_)
  have hP : va_P D vwCl (WM cI cZ ad (σ, setA (setA (setA δ 2 0 0) 3 0 0) 4 0 0, p0)) H := hP
  have hD : va_D (AC ad s.heap.size) (WM cI cZ ad (σ, setA (setA (setA δ 2 0 0) 3 0 0) 4 0 0, p0)) := hD
  exact ret_v (σ, setA (setA (setA δ 2 0 0) 3 0 0) 4 0 0, p0) hx hb hr hK hlocks hP hD hS ⟨setA (setA (setA δ 2 0 0) 3 0 0) 4 0 0, rfl, PasIs_nil, rfl⟩ dX2_begin_20

set_option maxHeartbeats 4000000 in
set_option maxRecDepth 100000 in
theorem c_X2_passHouse (l : Launch) (cI cZ : ClassId) (D : va_G) (ad pl : Nat → Nat) (tb sz : Nat) (σ δ : Sg) (w0 : Int32) (hh : Nat) (p1 : Int32) (q : Nat) (L : List Nat) (hI : Inv σ) (hh2 : hh < 200) (hq9 : ∀ k : Nat, k < 5 → (p1.toInt = (goe k : Int) ↔ k = q)) (hPs : PasIs σ δ w0 L) (hL9 : L.length ≤ 90000000) : CtV l yX2_passHouse wsX2_passHouse ({ frames := 5, cells := 0, slots := 0, locals := 108 }) cI cZ D ad pl tb sz (WM cI cZ ad) (σ, δ, w0) [.ref (ad 0), .int (nI hh), .int p1] (fun u => ∃ δ1, u = (σ, δ1, w0) ∧ PasIs σ δ1 w0 (L ++ hL σ hh q) ∧ δ1 0 0 = δ 0 0) := by
  refine Met.ofW (cc := cX2_passHouse) (maxL := 4) (ret := none) (by decide) rfl ?_
  intro p e s m args below meth c s₁ B hml hv
  obtain ⟨rfl, hsz, hP, hK, hD0, hZ⟩ := hv
  have hx := B.exec
  have hb := B.bytes
  have hr := B.returns
  have hts := atoms_spec (ws := wsX2_passHouse) B.pre
  have hown : s.vm.findClass RX2 = some m.cls := findClass_of_methodNamed B.named
  have hlocks := B.notSynchronized
  have hin : ∀ w ∈ wsX20, w ∈ wsX2_passHouse := fun w h => List.mem_cons_of_mem _ (List.mem_append_right _ h)
  subst hsz
  have hD : va_D (AC ad s.heap.size) (WM cI cZ ad (σ, δ, w0)) := AC_self WAd_m hD0
  have hA : ∀ q : Nat, s.heap.size ≤ q → AC ad s.heap.size q := fun q h => Or.inr h
  have hS : va_S (AC ad s.heap.size) s.heap s.heap [] := va_S.rf
  have hl := lv_entry ([.ref (ad 0), .int (nI hh), .int p1]) (n := 4) (Nat.le_of_ble_eq_true rfl)
  rw [lg_entry_eq]
  generalize (lg_sl ([.ref (ad 0), .int (nI hh), .int p1]) ++ List.replicate (4 - (lg_sl ([.ref (ad 0), .int (nI hh), .int p1])).length) Slot.unset).toArray = ls at hl ⊢
  have hl : lv_has ls 4 [(0, .ref (ad 0)), (1, .int (nI hh)), (2, .int p1)] := hl
  refine lv_iconst (v := 0) hx hb dX2_passHouse_0 (by decide) ?_
  refine lv_istore_n (lv' := [(3, .int 0), (0, .ref (ad 0)), (1, .int (nI hh)), (2, .int p1)]) hx hb dX2_passHouse_1 rfl hl (by decide) rfl (fun ls hl => ?_)
  refine W_loop (ι := Nat × Sg) 2 (fun (x : Nat × Sg) H locs ls => (x.1 ≤ σ 11 0) ∧ (PasIs σ x.2 w0 (L ++ catN (ofH σ hh q) x.1)) ∧ (x.2 0 0 = δ 0 0) ∧ va_P D vwCl (WM cI cZ ad (σ, x.2, w0)) H ∧ va_D (AC ad s.heap.size) (WM cI cZ ad (σ, x.2, w0)) ∧ va_S (AC ad s.heap.size) s.heap H locs ∧ lv_has ls 4 [(0, .ref (ad 0)), (1, .int (nI hh)), (2, .int p1), (3, .int (nI x.1))]) (fun (x : Nat × Sg) => σ 11 0 - x.1) ?_ (0, δ) _ _ _ ⟨by (try dsimp only); omega, by (try dsimp only); show PasIs σ _ _ (L ++ []); rw [List.append_nil]; exact hPs, rfl, hP, hD, hS, lv_as (lv_sub hl [1, 2, 3, 0] rfl) (lv_c rfl (lv_c rfl (lv_c rfl (lv_c (congrArg Value.int (by rfl)) rfl))))⟩
  intro ⟨i, δ1⟩ H locs ls ⟨h1, h2, h3, hP, hD, hS, hl⟩ ih
  dsimp only at h1 h2 h3 hP hD hl ih
  have b_i := b11 hI
  have e_b := ofH_bd hI hh q (n := i) h1
  refine lv_iload_n hx hb dX2_passHouse_2 rfl (lv_at hl 3 rfl) ?_
  refine lv_aload_n hx hb dX2_passHouse_3 rfl (lv_at hl 0 rfl) ?_
  refine va_get (D := D) (ci := 1) (v := .int (nI (σ 11 0))) (C := RX2) (T := TX2) (N := 19) hx hb hts hin hown hK hP 0 rfl rfl 8 (by decide) (hts (.fieldLink RX2 55 "HandCasesModel" "items" "I") (by decide +kernel)) (fun _ h9 => h9) rfl dX2_passHouse_4 ?_
  have b_1 := b11 hI
  refine lv_icmp_ge (tgt := 49) hx hb dX2_passHouse_7 (by decide) (fun c_2 => ?_) (fun c_2 => ?_)
  · skip
    have c_2 := (cq_le (nI_toInt (by omega)) (nI_toInt (by omega))).mp c_2
    exact ret_v (σ, δ1, w0) hx hb hr hK hlocks hP hD hS ⟨δ1, rfl, by have e9 : hL σ hh q = catN (ofH σ hh q) i := congrArg (catN (ofH σ hh q)) (by omega); rw [e9]; exact h2, h3⟩ dX2_passHouse_49
  · skip
    have c_2 := mt (cq_le (nI_toInt (by omega)) (nI_toInt (by omega))).mpr c_2
    refine lv_aload_n hx hb dX2_passHouse_10 rfl (lv_at hl 0 rfl) ?_
    refine va_get (D := D) (ci := 1) (v := .ref (ad 10)) (C := RX2) (T := TX2) (N := 19) hx hb hts hin hown hK hP 0 rfl rfl 13 (by decide) (hts (.fieldLink RX2 38 "HandCasesModel" "before" "[I") (by decide +kernel)) (fun _ h9 => h9) rfl dX2_passHouse_11 ?_
    refine lv_iload_n hx hb dX2_passHouse_14 rfl (lv_at hl 3 rfl) ?_
    have b_3 := b9 hI i
    refine q_iald (v := mI (σ 9 i)) hx hb hK hP 10 0 rfl rfl i (nI_toInt (by omega)) (by omega) rfl dX2_passHouse_15 ?_
    refine lv_if_ge (tgt := 43) hx hb dX2_passHouse_16 (by decide) (fun c_4 => ?_) (fun c_4 => ?_)
    · skip
      have c_4 := (cq_le (show (0 : Int32).toInt = (0 : Int) from by decide) (mI_toInt (by omega))).mp c_4
      refine lv_iinc (v := nI (i + 1)) (lv' := [(3, .int (nI (i + 1))), (0, .ref (ad 0)), (1, .int (nI hh)), (2, .int p1)]) hx hb dX2_passHouse_43 hl (k := 3) rfl (nI_add i 1) (by decide) rfl (fun ls hl => ?_)
      refine lv_goto (tgt := 2) hx hb dX2_passHouse_46 (by decide) ?_
      exact ih (i + 1, δ1) _ _ _ ⟨by (try dsimp only); omega, by (try dsimp only); have e9 : ofH σ hh q i = [] := if_neg (by omega); show PasIs σ _ _ (L ++ (catN (ofH σ hh q) i ++ ofH σ hh q i)); rw [e9, List.append_nil]; exact h2, h3, hP, hD, hS, lv_sub hl [1, 2, 3, 0] rfl⟩ (by show σ 11 0 - (i + 1) < σ 11 0 - i; omega)
    · skip
      have c_4 := mt (cq_le (show (0 : Int32).toInt = (0 : Int) from by decide) (mI_toInt (by omega))).mpr c_4
      refine lv_aload_n hx hb dX2_passHouse_19 rfl (lv_at hl 0 rfl) ?_
      refine va_get (D := D) (ci := 1) (v := .ref (ad 6)) (C := RX2) (T := TX2) (N := 19) hx hb hts hin hown hK hP 0 rfl rfl 9 (by decide) (hts (.fieldLink RX2 26 "HandCasesModel" "number" "[I") (by decide +kernel)) (fun _ h9 => h9) rfl dX2_passHouse_20 ?_
      refine lv_iload_n hx hb dX2_passHouse_23 rfl (lv_at hl 3 rfl) ?_
      have b_5 := b6 hI i
      refine q_iald (v := nI (σ 6 i)) hx hb hK hP 6 0 rfl rfl i (nI_toInt (by omega)) (by omega) rfl dX2_passHouse_24 ?_
      refine lv_iload_n hx hb dX2_passHouse_25 rfl (lv_at hl 1 rfl) ?_
      refine lv_icmp_ne (tgt := 43) hx hb dX2_passHouse_26 (by decide) (fun c_6 => ?_) (fun c_6 => ?_)
      · skip
        have c_6 := mt (cq_eq (nI_toInt (by omega)) (nI_toInt (by omega))).mpr c_6
        refine lv_iinc (v := nI (i + 1)) (lv' := [(3, .int (nI (i + 1))), (0, .ref (ad 0)), (1, .int (nI hh)), (2, .int p1)]) hx hb dX2_passHouse_43 hl (k := 3) rfl (nI_add i 1) (by decide) rfl (fun ls hl => ?_)
        refine lv_goto (tgt := 2) hx hb dX2_passHouse_46 (by decide) ?_
        exact ih (i + 1, δ1) _ _ _ ⟨by (try dsimp only); omega, by (try dsimp only); have e9 : ofH σ hh q i = [] := if_neg (by omega); show PasIs σ _ _ (L ++ (catN (ofH σ hh q) i ++ ofH σ hh q i)); rw [e9, List.append_nil]; exact h2, h3, hP, hD, hS, lv_sub hl [1, 2, 3, 0] rfl⟩ (by show σ 11 0 - (i + 1) < σ 11 0 - i; omega)
      · skip
        have c_6 := (cq_eq (nI_toInt (by omega)) (nI_toInt (by omega))).mp c_6
        refine lv_aload_n hx hb dX2_passHouse_29 rfl (lv_at hl 0 rfl) ?_
        refine lv_iload_n hx hb dX2_passHouse_30 rfl (lv_at hl 3 rfl) ?_
        refine call_i (As := [.int (nI i)]) (rest := []) WAd_m ⟨hx, hb, hml, hown, hts⟩ (c_X2_goes l cI cZ D ad pl tb _ σ δ1 w0 i hI (by omega)) (cwV 1 hts gX2_passHouse_X2_goes rfl rfl rfl (by decide +kernel) ⟨Nat.le_of_ble_eq_true rfl, Nat.le_of_ble_eq_true rfl⟩) (va_recv hK hP (ci := 1) (q0 := 0) rfl rfl) hK hP hD hS hA hZ rfl rfl (Nat.le_of_ble_eq_true rfl) hl.1 dX2_passHouse_31 ⟨Nat.zero_le _, Nat.zero_le _⟩ (fun r u H locs hq hP hD hS => ?_)
        obtain ⟨rfl, rfl⟩ := hq
        have b_7 := plc_lt σ i
        have b_8 := goe_lt (plc σ i)
        refine lv_iload_n hx hb dX2_passHouse_34 rfl (lv_at hl 2 rfl) ?_
        refine lv_icmp_ne (tgt := 43) hx hb dX2_passHouse_35 (by decide) (fun c_9 => ?_) (fun c_9 => ?_)
        · skip
          have c_9 := mt (cq_eq (nI_toInt (by omega)) rfl).mpr c_9
          have c_9 : plc σ i ≠ q := fun q9 => c_9 ((hq9 (plc σ i) (by omega)).mpr q9).symm
          refine lv_iinc (v := nI (i + 1)) (lv' := [(3, .int (nI (i + 1))), (0, .ref (ad 0)), (1, .int (nI hh)), (2, .int p1)]) hx hb dX2_passHouse_43 hl (k := 3) rfl (nI_add i 1) (by decide) rfl (fun ls hl => ?_)
          refine lv_goto (tgt := 2) hx hb dX2_passHouse_46 (by decide) ?_
          exact ih (i + 1, δ1) _ _ _ ⟨by (try dsimp only); omega, by (try dsimp only); have e9 : ofH σ hh q i = [] := if_neg (by omega); show PasIs σ _ _ (L ++ (catN (ofH σ hh q) i ++ ofH σ hh q i)); rw [e9, List.append_nil]; exact h2, h3, hP, hD, hS, lv_sub hl [1, 2, 3, 0] rfl⟩ (by show σ 11 0 - (i + 1) < σ 11 0 - i; omega)
        · skip
          have c_9 := (cq_eq (nI_toInt (by omega)) rfl).mp c_9
          have c_9 : plc σ i = q := (hq9 (plc σ i) (by omega)).mp c_9.symm
          refine lv_aload_n hx hb dX2_passHouse_38 rfl (lv_at hl 0 rfl) ?_
          refine lv_iload_n hx hb dX2_passHouse_39 rfl (lv_at hl 3 rfl) ?_
          refine call_v (As := [.int (nI i)]) (rest := []) WAd_m ⟨hx, hb, hml, hown, hts⟩ (c_X2_pass l cI cZ D ad pl tb _ σ δ1 w0 i (L ++ catN (ofH σ hh q) i) hI (by omega) h2 (by rw [List.length_append]; omega)) (cwV 1 hts gX2_passHouse_X2_pass rfl rfl rfl (by decide +kernel) ⟨Nat.le_of_ble_eq_true rfl, Nat.le_of_ble_eq_true rfl⟩) (va_recv hK hP (ci := 1) (q0 := 0) rfl rfl) hK hP hD hS hA hZ rfl rfl (Nat.le_of_ble_eq_true rfl) hl.1 dX2_passHouse_40 ⟨Nat.zero_le _, Nat.zero_le _⟩ (fun u H locs hq hP hD hS => ?_)
          obtain ⟨δ_10, rfl, hPs, hf0⟩ := hq
          refine lv_iinc (v := nI (i + 1)) (lv' := [(3, .int (nI (i + 1))), (0, .ref (ad 0)), (1, .int (nI hh)), (2, .int p1)]) hx hb dX2_passHouse_43 hl (k := 3) rfl (nI_add i 1) (by decide) rfl (fun ls hl => ?_)
          refine lv_goto (tgt := 2) hx hb dX2_passHouse_46 (by decide) ?_
          exact ih (i + 1, δ_10) _ _ _ ⟨by (try dsimp only); omega, by (try dsimp only); have e9 : ofH σ hh q i = _ := if_pos (by omega); show PasIs σ _ _ (L ++ (catN (ofH σ hh q) i ++ ofH σ hh q i)); rw [e9, ← List.append_assoc]; exact hPs, hf0.trans h3, hP, hD, hS, lv_sub hl [1, 2, 3, 0] rfl⟩ (by show σ 11 0 - (i + 1) < σ 11 0 - i; omega)

set_option maxHeartbeats 4000000 in
set_option maxRecDepth 100000 in
theorem c_X2_passFrame (l : Launch) (cI cZ : ClassId) (D : va_G) (ad pl : Nat → Nat) (tb sz : Nat) (σ δ : Sg) (w0 : Int32) (cc : Nat) (p1 : Int32) (hI : Inv σ) (hc : cc < 4) : CtV l yX2_passFrame wsX2_passFrame ({ frames := 6, cells := 0, slots := 0, locals := 131 }) cI cZ D ad pl tb sz (WM cI cZ ad) (σ, δ, w0) [.ref (ad 0), .int (nI cc), .int p1] (fun u => ∃ δ1, u = (σ, δ1, p1) ∧ PasIs σ δ1 p1 (frL σ cc) ∧ δ1 0 0 = δ 0 0) := by
  refine Met.ofW (cc := cX2_passFrame) (maxL := 5) (ret := none) (by decide) rfl ?_
  intro p e s m args below meth c s₁ B hml hv
  obtain ⟨rfl, hsz, hP, hK, hD0, hZ⟩ := hv
  have hx := B.exec
  have hb := B.bytes
  have hr := B.returns
  have hts := atoms_spec (ws := wsX2_passFrame) B.pre
  have hown : s.vm.findClass RX2 = some m.cls := findClass_of_methodNamed B.named
  have hlocks := B.notSynchronized
  have hin : ∀ w ∈ wsX20, w ∈ wsX2_passFrame := fun w h => List.mem_cons_of_mem _ (List.mem_append_right _ h)
  subst hsz
  have hD : va_D (AC ad s.heap.size) (WM cI cZ ad (σ, δ, w0)) := AC_self WAd_m hD0
  have hA : ∀ q : Nat, s.heap.size ≤ q → AC ad s.heap.size q := fun q h => Or.inr h
  have hS : va_S (AC ad s.heap.size) s.heap s.heap [] := va_S.rf
  have hl := lv_entry ([.ref (ad 0), .int (nI cc), .int p1]) (n := 5) (Nat.le_of_ble_eq_true rfl)
  rw [lg_entry_eq]
  generalize (lg_sl ([.ref (ad 0), .int (nI cc), .int p1]) ++ List.replicate (5 - (lg_sl ([.ref (ad 0), .int (nI cc), .int p1])).length) Slot.unset).toArray = ls at hl ⊢
  have hl : lv_has ls 5 [(0, .ref (ad 0)), (1, .int (nI cc)), (2, .int p1)] := hl
  refine lv_aload_n hx hb dX2_passFrame_0 rfl (lv_at hl 0 rfl) ?_
  refine lv_iload_n hx hb dX2_passFrame_1 rfl (lv_at hl 2 rfl) ?_
  refine call_v (As := [.int p1]) (rest := []) WAd_m ⟨hx, hb, hml, hown, hts⟩ (c_X2_begin l cI cZ D ad pl tb _ σ δ w0 p1) (cwV 1 hts gX2_passFrame_X2_begin rfl rfl rfl (by decide +kernel) ⟨Nat.le_of_ble_eq_true rfl, Nat.le_of_ble_eq_true rfl⟩) (va_recv hK hP (ci := 1) (q0 := 0) rfl rfl) hK hP hD hS hA hZ rfl rfl (Nat.le_of_ble_eq_true rfl) hl.1 dX2_passFrame_2 ⟨Nat.zero_le _, Nat.zero_le _⟩ (fun u H locs hq hP hD hS => ?_)
  obtain ⟨δ_1, rfl, hPs, hf0⟩ := hq
  refine lv_iconst (v := 0) hx hb dX2_passFrame_5 (by decide) ?_
  refine lv_istore_n (lv' := [(3, .int 0), (0, .ref (ad 0)), (1, .int (nI cc)), (2, .int p1)]) hx hb dX2_passFrame_6 rfl hl (by decide) rfl (fun ls hl => ?_)
  refine W_loop (ι := Nat × Sg) 7 (fun (x : Nat × Sg) H locs ls => (x.1 ≤ σ 13 cc) ∧ (PasIs σ x.2 p1 (catN (rhF σ cc 4) x.1)) ∧ (x.2 0 0 = δ 0 0) ∧ va_P D vwCl (WM cI cZ ad (σ, x.2, p1)) H ∧ va_D (AC ad s.heap.size) (WM cI cZ ad (σ, x.2, p1)) ∧ va_S (AC ad s.heap.size) s.heap H locs ∧ lv_has ls 5 [(0, .ref (ad 0)), (1, .int (nI cc)), (2, .int p1), (3, .int (nI x.1))]) (fun (x : Nat × Sg) => σ 13 cc - x.1) ?_ (0, δ_1) _ _ _ ⟨by (try dsimp only); omega, hPs, hf0, hP, hD, hS, lv_as (lv_sub hl [1, 2, 3, 0] rfl) (lv_c rfl (lv_c rfl (lv_c rfl (lv_c (congrArg Value.int (by rfl)) rfl))))⟩
  intro ⟨k, δ1⟩ H locs ls ⟨h1, h2, h3, hP, hD, hS, hl⟩ ih
  dsimp only at h1 h2 h3 hP hD hl ih
  have b_r := b13 hI cc
  have b_s := I_rs hI (c := cc) (by omega)
  have b_h := b5 hI
  have e_b := rhF_bd hI cc 4 k
  refine lv_iload_n hx hb dX2_passFrame_7 rfl (lv_at hl 3 rfl) ?_
  refine lv_aload_n hx hb dX2_passFrame_8 rfl (lv_at hl 0 rfl) ?_
  refine va_get (D := D) (ci := 1) (v := .ref (ad 5)) (C := RX2) (T := TX2) (N := 19) hx hb hts hin hown hK hP 0 rfl rfl 7 (by decide) (hts (.fieldLink RX2 23 "HandCasesModel" "roundSize" "[I") (by decide +kernel)) (fun _ h9 => h9) rfl dX2_passFrame_9 ?_
  refine lv_iload_n hx hb dX2_passFrame_12 rfl (lv_at hl 1 rfl) ?_
  have b_2 := b13 hI cc
  refine q_iald (v := nI (σ 13 cc)) hx hb hK hP 5 0 rfl rfl cc (nI_toInt (by omega)) (by omega) rfl dX2_passFrame_13 ?_
  refine lv_icmp_ge (tgt := 39) hx hb dX2_passFrame_14 (by decide) (fun c_3 => ?_) (fun c_3 => ?_)
  · skip
    have c_3 := (cq_le (nI_toInt (by omega)) (nI_toInt (by omega))).mp c_3
    have e9 : catN (rhF σ cc 4) k = roL σ cc 4 := (congrArg (catN (rhF σ cc 4)) (by omega)).trans (P_round hI 4 (c := cc) hc)
    rw [e9] at h2
    refine lv_iconst (v := 0) hx hb dX2_passFrame_39 (by decide) ?_
    refine lv_istore_n (lv' := [(3, .int 0), (0, .ref (ad 0)), (1, .int (nI cc)), (2, .int p1)]) hx hb dX2_passFrame_40 rfl hl (by decide) rfl (fun ls hl => ?_)
    refine W_loop (ι := Nat × Sg) 41 (fun (x : Nat × Sg) H locs ls => (x.1 ≤ σ 0 0) ∧ (PasIs σ x.2 p1 (roL σ cc 4 ++ catN (asM σ cc) x.1)) ∧ (x.2 0 0 = δ 0 0) ∧ va_P D vwCl (WM cI cZ ad (σ, x.2, p1)) H ∧ va_D (AC ad s.heap.size) (WM cI cZ ad (σ, x.2, p1)) ∧ va_S (AC ad s.heap.size) s.heap H locs ∧ lv_has ls 5 [(0, .ref (ad 0)), (1, .int (nI cc)), (2, .int p1), (3, .int (nI x.1))]) (fun (x : Nat × Sg) => σ 0 0 - x.1) ?_ (0, δ1) _ _ _ ⟨by (try dsimp only); omega, by (try dsimp only); show PasIs σ _ _ (roL σ cc 4 ++ []); rw [List.append_nil]; exact h2, h3, hP, hD, hS, lv_as (lv_sub hl [1, 2, 3, 0] rfl) (lv_c rfl (lv_c rfl (lv_c rfl (lv_c (congrArg Value.int (by rfl)) rfl))))⟩
    intro ⟨g, δ2⟩ H locs ls ⟨h4, h5, h6, hP, hD, hS, hl⟩ ihg
    dsimp only at h4 h5 h6 hP hD hl ihg
    have b_0 := b0 hI
    refine lv_iload_n hx hb dX2_passFrame_41 rfl (lv_at hl 3 rfl) ?_
    refine lv_aload_n hx hb dX2_passFrame_42 rfl (lv_at hl 0 rfl) ?_
    refine va_get (D := D) (ci := 1) (v := .int (nI (σ 0 0))) (C := RX2) (T := TX2) (N := 19) hx hb hts hin hown hK hP 0 rfl rfl 0 (by decide) (hts (.fieldLink RX2 44 "HandCasesModel" "holes" "I") (by decide +kernel)) (fun _ h9 => h9) rfl dX2_passFrame_43 ?_
    have b_4 := b0 hI
    refine lv_icmp_ge (tgt := 118) hx hb dX2_passFrame_46 (by decide) (fun c_5 => ?_) (fun c_5 => ?_)
    · skip
      have c_5 := (cq_le (nI_toInt (by omega)) (nI_toInt (by omega))).mp c_5
      exact ret_v (σ, δ2, p1) hx hb hr hK hlocks hP hD hS ⟨δ2, rfl, by have e9 : frL σ cc = roL σ cc 4 ++ catN (asM σ cc) g := congrArg (fun z => roL σ cc 4 ++ z) ((P_astray σ cc).symm.trans (congrArg (catN (asM σ cc)) (by omega))); rw [e9]; exact h5, h6⟩ dX2_passFrame_118
    · skip
      have c_5 := mt (cq_le (nI_toInt (by omega)) (nI_toInt (by omega))).mpr c_5
      refine lv_iconst (v := 0) hx hb dX2_passFrame_49 (by decide) ?_
      refine lv_istore (lv' := [(4, .int 0), (0, .ref (ad 0)), (1, .int (nI cc)), (2, .int p1), (3, .int (nI g))]) hx hb dX2_passFrame_50 hl (by decide) rfl (fun ls hl => ?_)
      refine W_loop (ι := Nat × Sg) 52 (fun (x : Nat × Sg) H locs ls => (x.1 ≤ σ 11 0) ∧ (PasIs σ x.2 p1 (roL σ cc 4 ++ catN (asM σ cc) g ++ catN (asI σ cc g) x.1)) ∧ (x.2 0 0 = δ 0 0) ∧ va_P D vwCl (WM cI cZ ad (σ, x.2, p1)) H ∧ va_D (AC ad s.heap.size) (WM cI cZ ad (σ, x.2, p1)) ∧ va_S (AC ad s.heap.size) s.heap H locs ∧ lv_has ls 5 [(0, .ref (ad 0)), (1, .int (nI cc)), (2, .int p1), (3, .int (nI g)), (4, .int (nI x.1))]) (fun (x : Nat × Sg) => σ 11 0 - x.1) ?_ (0, δ2) _ _ _ ⟨by (try dsimp only); omega, by (try dsimp only); show PasIs σ _ _ (roL σ cc 4 ++ catN (asM σ cc) g ++ []); rw [List.append_nil]; exact h5, h6, hP, hD, hS, lv_as (lv_sub hl [1, 2, 3, 4, 0] rfl) (lv_c rfl (lv_c rfl (lv_c rfl (lv_c rfl (lv_c (congrArg Value.int (by rfl)) rfl)))))⟩
      intro ⟨i, δ3⟩ H locs ls ⟨h7, h8, h9, hP, hD, hS, hl⟩ ihi
      dsimp only at h7 h8 h9 hP hD hl ihi
      have b_i := b11 hI
      have e_b2 := pF_bd hI cc g i h7 (by omega)
      refine lv_iload hx hb dX2_passFrame_52 (lv_at hl 4 rfl) ?_
      refine lv_aload_n hx hb dX2_passFrame_54 rfl (lv_at hl 0 rfl) ?_
      refine va_get (D := D) (ci := 1) (v := .int (nI (σ 11 0))) (C := RX2) (T := TX2) (N := 19) hx hb hts hin hown hK hP 0 rfl rfl 8 (by decide) (hts (.fieldLink RX2 55 "HandCasesModel" "items" "I") (by decide +kernel)) (fun _ h9 => h9) rfl dX2_passFrame_55 ?_
      have b_6 := b11 hI
      refine lv_icmp_ge (tgt := 112) hx hb dX2_passFrame_58 (by decide) (fun c_7 => ?_) (fun c_7 => ?_)
      · skip
        have c_7 := (cq_le (nI_toInt (by omega)) (nI_toInt (by omega))).mp c_7
        refine lv_iinc (v := nI (g + 1)) (lv' := [(3, .int (nI (g + 1))), (0, .ref (ad 0)), (1, .int (nI cc)), (2, .int p1), (4, .int (nI i))]) hx hb dX2_passFrame_112 hl (k := 3) rfl (nI_add g 1) (by decide) rfl (fun ls hl => ?_)
        refine lv_goto (tgt := 41) hx hb dX2_passFrame_115 (by decide) ?_
        exact ihg (g + 1, δ3) _ _ _ ⟨by (try dsimp only); omega, by (try dsimp only); have e9 : catN (asI σ cc g) i = asM σ cc g := congrArg (catN (asI σ cc g)) (by omega); rw [e9, List.append_assoc] at h8; exact h8, h9, hP, hD, hS, lv_sub hl [1, 2, 3, 0] rfl⟩ (by show σ 0 0 - (g + 1) < σ 0 0 - g; omega)
      · skip
        have c_7 := mt (cq_le (nI_toInt (by omega)) (nI_toInt (by omega))).mpr c_7
        refine lv_aload_n hx hb dX2_passFrame_61 rfl (lv_at hl 0 rfl) ?_
        refine va_get (D := D) (ci := 1) (v := .ref (ad 10)) (C := RX2) (T := TX2) (N := 19) hx hb hts hin hown hK hP 0 rfl rfl 13 (by decide) (hts (.fieldLink RX2 38 "HandCasesModel" "before" "[I") (by decide +kernel)) (fun _ h9 => h9) rfl dX2_passFrame_62 ?_
        refine lv_iload hx hb dX2_passFrame_65 (lv_at hl 4 rfl) ?_
        have b_8 := b9 hI i
        refine q_iald (v := mI (σ 9 i)) hx hb hK hP 10 0 rfl rfl i (nI_toInt (by omega)) (by omega) rfl dX2_passFrame_67 ?_
        refine lv_if_ge (tgt := 106) hx hb dX2_passFrame_68 (by decide) (fun c_9 => ?_) (fun c_9 => ?_)
        · skip
          have c_9 := (cq_le (show (0 : Int32).toInt = (0 : Int) from by decide) (mI_toInt (by omega))).mp c_9
          refine lv_iinc (v := nI (i + 1)) (lv' := [(4, .int (nI (i + 1))), (0, .ref (ad 0)), (1, .int (nI cc)), (2, .int p1), (3, .int (nI g))]) hx hb dX2_passFrame_106 hl (k := 4) rfl (nI_add i 1) (by decide) rfl (fun ls hl => ?_)
          refine lv_goto (tgt := 52) hx hb dX2_passFrame_109 (by decide) ?_
          exact ihi (i + 1, δ3) _ _ _ ⟨by (try dsimp only); omega, by (try dsimp only); have e9 : asI σ cc g i = [] := if_neg (by omega); show PasIs σ _ _ (roL σ cc 4 ++ catN (asM σ cc) g ++ (catN (asI σ cc g) i ++ asI σ cc g i)); rw [e9, List.append_nil]; exact h8, h9, hP, hD, hS, lv_sub hl [1, 2, 3, 4, 0] rfl⟩ (by show σ 11 0 - (i + 1) < σ 11 0 - i; omega)
        · skip
          have c_9 := mt (cq_le (show (0 : Int32).toInt = (0 : Int) from by decide) (mI_toInt (by omega))).mpr c_9
          refine lv_aload_n hx hb dX2_passFrame_71 rfl (lv_at hl 0 rfl) ?_
          refine lv_iload hx hb dX2_passFrame_72 (lv_at hl 4 rfl) ?_
          refine call_i (As := [.int (nI i)]) (rest := []) WAd_m ⟨hx, hb, hml, hown, hts⟩ (c_X2_holeOfLeader l cI cZ D ad pl tb _ σ δ3 p1 i hI (by omega)) (cwV 1 hts gX2_passFrame_X2_holeOfLeader rfl rfl rfl (by decide +kernel) ⟨Nat.le_of_ble_eq_true rfl, Nat.le_of_ble_eq_true rfl⟩) (va_recv hK hP (ci := 1) (q0 := 0) rfl rfl) hK hP hD hS hA hZ rfl rfl (Nat.le_of_ble_eq_true rfl) hl.1 dX2_passFrame_74 ⟨Nat.zero_le _, Nat.zero_le _⟩ (fun r u H locs hq hP hD hS => ?_)
          obtain ⟨rfl, rfl⟩ := hq
          have b_10 := hol_le hI i
          refine lv_iload_n hx hb dX2_passFrame_77 rfl (lv_at hl 3 rfl) ?_
          refine lv_icmp_ne (tgt := 106) hx hb dX2_passFrame_78 (by decide) (fun c_11 => ?_) (fun c_11 => ?_)
          · skip
            have c_11 := mt (cq_eq (mI_toInt (by omega)) (nI_toInt (by omega))).mpr c_11
            refine lv_iinc (v := nI (i + 1)) (lv' := [(4, .int (nI (i + 1))), (0, .ref (ad 0)), (1, .int (nI cc)), (2, .int p1), (3, .int (nI g))]) hx hb dX2_passFrame_106 hl (k := 4) rfl (nI_add i 1) (by decide) rfl (fun ls hl => ?_)
            refine lv_goto (tgt := 52) hx hb dX2_passFrame_109 (by decide) ?_
            exact ihi (i + 1, δ3) _ _ _ ⟨by (try dsimp only); omega, by (try dsimp only); have e9 : asI σ cc g i = [] := if_neg (by omega); show PasIs σ _ _ (roL σ cc 4 ++ catN (asM σ cc) g ++ (catN (asI σ cc g) i ++ asI σ cc g i)); rw [e9, List.append_nil]; exact h8, h9, hP, hD, hS, lv_sub hl [1, 2, 3, 4, 0] rfl⟩ (by show σ 11 0 - (i + 1) < σ 11 0 - i; omega)
          · skip
            have c_11 := (cq_eq (mI_toInt (by omega)) (nI_toInt (by omega))).mp c_11
            refine lv_aload_n hx hb dX2_passFrame_81 rfl (lv_at hl 0 rfl) ?_
            refine lv_iload hx hb dX2_passFrame_82 (lv_at hl 4 rfl) ?_
            refine call_i (As := [.int (nI i)]) (rest := []) WAd_m ⟨hx, hb, hml, hown, hts⟩ (c_X2_goes l cI cZ D ad pl tb _ σ δ3 p1 i hI (by omega)) (cwV 1 hts gX2_passFrame_X2_goes rfl rfl rfl (by decide +kernel) ⟨Nat.le_of_ble_eq_true rfl, Nat.le_of_ble_eq_true rfl⟩) (va_recv hK hP (ci := 1) (q0 := 0) rfl rfl) hK hP hD hS hA hZ rfl rfl (Nat.le_of_ble_eq_true rfl) hl.1 dX2_passFrame_84 ⟨Nat.zero_le _, Nat.zero_le _⟩ (fun r u H locs hq hP hD hS => ?_)
            obtain ⟨rfl, rfl⟩ := hq
            have b_12 := plc_lt σ i
            have b_13 := goe_lt (plc σ i)
            refine lv_iconst (v := 2) hx hb dX2_passFrame_87 (by decide) ?_
            refine lv_icmp_ne (tgt := 106) hx hb dX2_passFrame_88 (by decide) (fun c_14 => ?_) (fun c_14 => ?_)
            · skip
              have c_14 := mt (cq_eq (nI_toInt (by omega)) (show (2 : Int32).toInt = (2 : Int) from by decide)).mpr c_14
              have c_14 : plc σ i ≠ 1 := fun q9 => c_14 (by rw [q9]; rfl)
              refine lv_iinc (v := nI (i + 1)) (lv' := [(4, .int (nI (i + 1))), (0, .ref (ad 0)), (1, .int (nI cc)), (2, .int p1), (3, .int (nI g))]) hx hb dX2_passFrame_106 hl (k := 4) rfl (nI_add i 1) (by decide) rfl (fun ls hl => ?_)
              refine lv_goto (tgt := 52) hx hb dX2_passFrame_109 (by decide) ?_
              exact ihi (i + 1, δ3) _ _ _ ⟨by (try dsimp only); omega, by (try dsimp only); have e9 : asI σ cc g i = [] := if_neg (by omega); show PasIs σ _ _ (roL σ cc 4 ++ catN (asM σ cc) g ++ (catN (asI σ cc g) i ++ asI σ cc g i)); rw [e9, List.append_nil]; exact h8, h9, hP, hD, hS, lv_sub hl [1, 2, 3, 4, 0] rfl⟩ (by show σ 11 0 - (i + 1) < σ 11 0 - i; omega)
            · skip
              have c_14 := (cq_eq (nI_toInt (by omega)) (show (2 : Int32).toInt = (2 : Int) from by decide)).mp c_14
              have c_14 : plc σ i = 1 := goe_two.mp (by omega)
              refine lv_aload_n hx hb dX2_passFrame_91 rfl (lv_at hl 0 rfl) ?_
              refine lv_iload_n hx hb dX2_passFrame_92 rfl (lv_at hl 3 rfl) ?_
              refine call_i (As := [.int (nI g)]) (rest := []) WAd_m ⟨hx, hb, hml, hown, hts⟩ (c_X2_carrierAt l cI cZ D ad pl tb _ σ δ3 p1 g hI (by omega)) (cwV 1 hts gX2_passFrame_X2_carrierAt rfl rfl rfl (by decide +kernel) ⟨Nat.le_of_ble_eq_true rfl, Nat.le_of_ble_eq_true rfl⟩) (va_recv hK hP (ci := 1) (q0 := 0) rfl rfl) hK hP hD hS hA hZ rfl rfl (Nat.le_of_ble_eq_true rfl) hl.1 dX2_passFrame_93 ⟨Nat.zero_le _, Nat.zero_le _⟩ (fun r u H locs hq hP hD hS => ?_)
              obtain ⟨rfl, rfl⟩ := hq
              have b_15 := leastN_le hI g (σ 5 0)
              refine lv_iload_n hx hb dX2_passFrame_96 rfl (lv_at hl 1 rfl) ?_
              refine lv_icmp_ne (tgt := 106) hx hb dX2_passFrame_97 (by decide) (fun c_16 => ?_) (fun c_16 => ?_)
              · skip
                have c_16 := mt (cq_eq (mI_toInt (by omega)) (nI_toInt (by omega))).mpr c_16
                refine lv_iinc (v := nI (i + 1)) (lv' := [(4, .int (nI (i + 1))), (0, .ref (ad 0)), (1, .int (nI cc)), (2, .int p1), (3, .int (nI g))]) hx hb dX2_passFrame_106 hl (k := 4) rfl (nI_add i 1) (by decide) rfl (fun ls hl => ?_)
                refine lv_goto (tgt := 52) hx hb dX2_passFrame_109 (by decide) ?_
                exact ihi (i + 1, δ3) _ _ _ ⟨by (try dsimp only); omega, by (try dsimp only); have e9 : asI σ cc g i = [] := if_neg (by omega); show PasIs σ _ _ (roL σ cc 4 ++ catN (asM σ cc) g ++ (catN (asI σ cc g) i ++ asI σ cc g i)); rw [e9, List.append_nil]; exact h8, h9, hP, hD, hS, lv_sub hl [1, 2, 3, 4, 0] rfl⟩ (by show σ 11 0 - (i + 1) < σ 11 0 - i; omega)
              · skip
                have c_16 := (cq_eq (mI_toInt (by omega)) (nI_toInt (by omega))).mp c_16
                refine lv_aload_n hx hb dX2_passFrame_100 rfl (lv_at hl 0 rfl) ?_
                refine lv_iload hx hb dX2_passFrame_101 (lv_at hl 4 rfl) ?_
                refine call_v (As := [.int (nI i)]) (rest := []) WAd_m ⟨hx, hb, hml, hown, hts⟩ (c_X2_pass l cI cZ D ad pl tb _ σ δ3 p1 i (roL σ cc 4 ++ catN (asM σ cc) g ++ catN (asI σ cc g) i) hI (by omega) h8 (by omega)) (cwV 1 hts gX2_passFrame_X2_pass rfl rfl rfl (by decide +kernel) ⟨Nat.le_of_ble_eq_true rfl, Nat.le_of_ble_eq_true rfl⟩) (va_recv hK hP (ci := 1) (q0 := 0) rfl rfl) hK hP hD hS hA hZ rfl rfl (Nat.le_of_ble_eq_true rfl) hl.1 dX2_passFrame_103 ⟨Nat.zero_le _, Nat.zero_le _⟩ (fun u H locs hq hP hD hS => ?_)
                obtain ⟨δ_17, rfl, hPs, hf0⟩ := hq
                refine lv_iinc (v := nI (i + 1)) (lv' := [(4, .int (nI (i + 1))), (0, .ref (ad 0)), (1, .int (nI cc)), (2, .int p1), (3, .int (nI g))]) hx hb dX2_passFrame_106 hl (k := 4) rfl (nI_add i 1) (by decide) rfl (fun ls hl => ?_)
                refine lv_goto (tgt := 52) hx hb dX2_passFrame_109 (by decide) ?_
                exact ihi (i + 1, δ_17) _ _ _ ⟨by (try dsimp only); omega, by (try dsimp only); have e9 : asI σ cc g i = _ := if_pos (by omega); show PasIs σ _ _ (roL σ cc 4 ++ catN (asM σ cc) g ++ (catN (asI σ cc g) i ++ asI σ cc g i)); rw [e9, ← List.append_assoc]; exact hPs, hf0.trans h9, hP, hD, hS, lv_sub hl [1, 2, 3, 4, 0] rfl⟩ (by show σ 11 0 - (i + 1) < σ 11 0 - i; omega)
  · skip
    have c_3 := mt (cq_le (nI_toInt (by omega)) (nI_toInt (by omega))).mpr c_3
    refine lv_aload_n hx hb dX2_passFrame_17 rfl (lv_at hl 0 rfl) ?_
    refine lv_aload_n hx hb dX2_passFrame_18 rfl (lv_at hl 0 rfl) ?_
    refine va_get (D := D) (ci := 1) (v := .ref (ad 4)) (C := RX2) (T := TX2) (N := 19) hx hb hts hin hown hK hP 0 rfl rfl 6 (by decide) (hts (.fieldLink RX2 20 "HandCasesModel" "round" "[I") (by decide +kernel)) (fun _ h9 => h9) rfl dX2_passFrame_19 ?_
    refine lv_bipush (v := 60) hx hb dX2_passFrame_22 (by decide) ?_
    refine lv_iload_n hx hb dX2_passFrame_24 rfl (lv_at hl 1 rfl) ?_
    refine lv_imul hx hb dX2_passFrame_25 ?_
    refine q_topi (nI (60 * cc)) (pk_mul 60 cc) ?_
    refine lv_iload_n hx hb dX2_passFrame_26 rfl (lv_at hl 3 rfl) ?_
    refine lv_iadd hx hb dX2_passFrame_27 ?_
    refine q_topi (nI ((60 * cc) + k)) (nI_add (60 * cc) k) ?_
    have b_18 := b12 hI ((60 * cc) + k)
    refine q_iald (v := nI (σ 12 ((60 * cc) + k))) hx hb hK hP 4 0 rfl rfl ((60 * cc) + k) (nI_toInt (by omega)) (by omega) rfl dX2_passFrame_28 ?_
    refine lv_iconst (v := 1) hx hb dX2_passFrame_29 (by decide) ?_
    refine call_v (As := [.int (nI (σ 12 ((60 * cc) + k))), .int 1]) (rest := []) WAd_m ⟨hx, hb, hml, hown, hts⟩ (c_X2_passHouse l cI cZ D ad pl tb _ σ δ1 p1 (σ 12 ((60 * cc) + k)) 1 4 (catN (rhF σ cc 4) k) hI (by omega) goe_1 h2 (by omega)) (cwV 2 hts gX2_passFrame_X2_passHouse rfl rfl rfl (by decide +kernel) ⟨Nat.le_of_ble_eq_true rfl, Nat.le_of_ble_eq_true rfl⟩) (va_recv hK hP (ci := 1) (q0 := 0) rfl rfl) hK hP hD hS hA hZ rfl rfl (Nat.le_of_ble_eq_true rfl) hl.1 dX2_passFrame_30 ⟨Nat.zero_le _, Nat.zero_le _⟩ (fun u H locs hq hP hD hS => ?_)
    obtain ⟨δ_19, rfl, hPs, hf0⟩ := hq
    refine lv_iinc (v := nI (k + 1)) (lv' := [(3, .int (nI (k + 1))), (0, .ref (ad 0)), (1, .int (nI cc)), (2, .int p1)]) hx hb dX2_passFrame_33 hl (k := 3) rfl (nI_add k 1) (by decide) rfl (fun ls hl => ?_)
    refine lv_goto (tgt := 7) hx hb dX2_passFrame_36 (by decide) ?_
    exact ih (k + 1, δ_19) _ _ _ ⟨by (try dsimp only); omega, by (try dsimp only); have e9 : rhF σ cc 4 k = _ := rfl; show PasIs σ _ _ ((catN (rhF σ cc 4) k ++ rhF σ cc 4 k)); rw [e9]; exact hPs, hf0.trans h3, hP, hD, hS, lv_sub hl [1, 2, 3, 0] rfl⟩ (by show σ 13 cc - (k + 1) < σ 13 cc - k; omega)

set_option maxHeartbeats 4000000 in
set_option maxRecDepth 100000 in
theorem c_X2_passList (l : Launch) (cI cZ : ClassId) (D : va_G) (ad pl : Nat → Nat) (tb sz : Nat) (σ δ : Sg) (w0 : Int32) (cc : Nat) (p1 : Int32) (hI : Inv σ) (hc : cc < 4) : CtV l yX2_passList wsX2_passList ({ frames := 6, cells := 0, slots := 0, locals := 131 }) cI cZ D ad pl tb sz (WM cI cZ ad) (σ, δ, w0) [.ref (ad 0), .int (nI cc), .int p1] (fun u => ∃ δ1, u = (σ, δ1, p1) ∧ PasIs σ δ1 p1 (roL σ cc 3) ∧ δ1 0 0 = δ 0 0) := by
  refine Met.ofW (cc := cX2_passList) (maxL := 4) (ret := none) (by decide) rfl ?_
  intro p e s m args below meth c s₁ B hml hv
  obtain ⟨rfl, hsz, hP, hK, hD0, hZ⟩ := hv
  have hx := B.exec
  have hb := B.bytes
  have hr := B.returns
  have hts := atoms_spec (ws := wsX2_passList) B.pre
  have hown : s.vm.findClass RX2 = some m.cls := findClass_of_methodNamed B.named
  have hlocks := B.notSynchronized
  have hin : ∀ w ∈ wsX20, w ∈ wsX2_passList := fun w h => List.mem_cons_of_mem _ (List.mem_append_right _ h)
  subst hsz
  have hD : va_D (AC ad s.heap.size) (WM cI cZ ad (σ, δ, w0)) := AC_self WAd_m hD0
  have hA : ∀ q : Nat, s.heap.size ≤ q → AC ad s.heap.size q := fun q h => Or.inr h
  have hS : va_S (AC ad s.heap.size) s.heap s.heap [] := va_S.rf
  have hl := lv_entry ([.ref (ad 0), .int (nI cc), .int p1]) (n := 4) (Nat.le_of_ble_eq_true rfl)
  rw [lg_entry_eq]
  generalize (lg_sl ([.ref (ad 0), .int (nI cc), .int p1]) ++ List.replicate (4 - (lg_sl ([.ref (ad 0), .int (nI cc), .int p1])).length) Slot.unset).toArray = ls at hl ⊢
  have hl : lv_has ls 4 [(0, .ref (ad 0)), (1, .int (nI cc)), (2, .int p1)] := hl
  refine lv_aload_n hx hb dX2_passList_0 rfl (lv_at hl 0 rfl) ?_
  refine lv_iload_n hx hb dX2_passList_1 rfl (lv_at hl 2 rfl) ?_
  refine call_v (As := [.int p1]) (rest := []) WAd_m ⟨hx, hb, hml, hown, hts⟩ (c_X2_begin l cI cZ D ad pl tb _ σ δ w0 p1) (cwV 1 hts gX2_passList_X2_begin rfl rfl rfl (by decide +kernel) ⟨Nat.le_of_ble_eq_true rfl, Nat.le_of_ble_eq_true rfl⟩) (va_recv hK hP (ci := 1) (q0 := 0) rfl rfl) hK hP hD hS hA hZ rfl rfl (Nat.le_of_ble_eq_true rfl) hl.1 dX2_passList_2 ⟨Nat.zero_le _, Nat.zero_le _⟩ (fun u H locs hq hP hD hS => ?_)
  obtain ⟨δ_1, rfl, hPs, hf0⟩ := hq
  refine lv_iconst (v := 0) hx hb dX2_passList_5 (by decide) ?_
  refine lv_istore_n (lv' := [(3, .int 0), (0, .ref (ad 0)), (1, .int (nI cc)), (2, .int p1)]) hx hb dX2_passList_6 rfl hl (by decide) rfl (fun ls hl => ?_)
  refine W_loop (ι := Nat × Sg) 7 (fun (x : Nat × Sg) H locs ls => (x.1 ≤ σ 13 cc) ∧ (PasIs σ x.2 p1 (catN (rhF σ cc 3) x.1)) ∧ (x.2 0 0 = δ 0 0) ∧ va_P D vwCl (WM cI cZ ad (σ, x.2, p1)) H ∧ va_D (AC ad s.heap.size) (WM cI cZ ad (σ, x.2, p1)) ∧ va_S (AC ad s.heap.size) s.heap H locs ∧ lv_has ls 4 [(0, .ref (ad 0)), (1, .int (nI cc)), (2, .int p1), (3, .int (nI x.1))]) (fun (x : Nat × Sg) => σ 13 cc - x.1) ?_ (0, δ_1) _ _ _ ⟨by (try dsimp only); omega, hPs, hf0, hP, hD, hS, lv_as (lv_sub hl [1, 2, 3, 0] rfl) (lv_c rfl (lv_c rfl (lv_c rfl (lv_c (congrArg Value.int (by rfl)) rfl))))⟩
  intro ⟨k, δ1⟩ H locs ls ⟨h1, h2, h3, hP, hD, hS, hl⟩ ih
  dsimp only at h1 h2 h3 hP hD hl ih
  have b_r := b13 hI cc
  have b_s := I_rs hI (c := cc) (by omega)
  have b_h := b5 hI
  have e_b := rhF_bd hI cc 3 k
  refine lv_iload_n hx hb dX2_passList_7 rfl (lv_at hl 3 rfl) ?_
  refine lv_aload_n hx hb dX2_passList_8 rfl (lv_at hl 0 rfl) ?_
  refine va_get (D := D) (ci := 1) (v := .ref (ad 5)) (C := RX2) (T := TX2) (N := 19) hx hb hts hin hown hK hP 0 rfl rfl 7 (by decide) (hts (.fieldLink RX2 23 "HandCasesModel" "roundSize" "[I") (by decide +kernel)) (fun _ h9 => h9) rfl dX2_passList_9 ?_
  refine lv_iload_n hx hb dX2_passList_12 rfl (lv_at hl 1 rfl) ?_
  have b_2 := b13 hI cc
  refine q_iald (v := nI (σ 13 cc)) hx hb hK hP 5 0 rfl rfl cc (nI_toInt (by omega)) (by omega) rfl dX2_passList_13 ?_
  refine lv_icmp_ge (tgt := 39) hx hb dX2_passList_14 (by decide) (fun c_3 => ?_) (fun c_3 => ?_)
  · skip
    have c_3 := (cq_le (nI_toInt (by omega)) (nI_toInt (by omega))).mp c_3
    exact ret_v (σ, δ1, p1) hx hb hr hK hlocks hP hD hS ⟨δ1, rfl, by have e9 : catN (rhF σ cc 3) k = roL σ cc 3 := (congrArg (catN (rhF σ cc 3)) (by omega)).trans (P_round hI 3 (c := cc) hc); rw [e9] at h2; exact h2, h3⟩ dX2_passList_39
  · skip
    have c_3 := mt (cq_le (nI_toInt (by omega)) (nI_toInt (by omega))).mpr c_3
    refine lv_aload_n hx hb dX2_passList_17 rfl (lv_at hl 0 rfl) ?_
    refine lv_aload_n hx hb dX2_passList_18 rfl (lv_at hl 0 rfl) ?_
    refine va_get (D := D) (ci := 1) (v := .ref (ad 4)) (C := RX2) (T := TX2) (N := 19) hx hb hts hin hown hK hP 0 rfl rfl 6 (by decide) (hts (.fieldLink RX2 20 "HandCasesModel" "round" "[I") (by decide +kernel)) (fun _ h9 => h9) rfl dX2_passList_19 ?_
    refine lv_bipush (v := 60) hx hb dX2_passList_22 (by decide) ?_
    refine lv_iload_n hx hb dX2_passList_24 rfl (lv_at hl 1 rfl) ?_
    refine lv_imul hx hb dX2_passList_25 ?_
    refine q_topi (nI (60 * cc)) (pk_mul 60 cc) ?_
    refine lv_iload_n hx hb dX2_passList_26 rfl (lv_at hl 3 rfl) ?_
    refine lv_iadd hx hb dX2_passList_27 ?_
    refine q_topi (nI ((60 * cc) + k)) (nI_add (60 * cc) k) ?_
    have b_4 := b12 hI ((60 * cc) + k)
    refine q_iald (v := nI (σ 12 ((60 * cc) + k))) hx hb hK hP 4 0 rfl rfl ((60 * cc) + k) (nI_toInt (by omega)) (by omega) rfl dX2_passList_28 ?_
    refine lv_iconst (v := 4) hx hb dX2_passList_29 (by decide) ?_
    refine call_v (As := [.int (nI (σ 12 ((60 * cc) + k))), .int 4]) (rest := []) WAd_m ⟨hx, hb, hml, hown, hts⟩ (c_X2_passHouse l cI cZ D ad pl tb _ σ δ1 p1 (σ 12 ((60 * cc) + k)) 4 3 (catN (rhF σ cc 3) k) hI (by omega) goe_4 h2 (by omega)) (cwV 2 hts gX2_passList_X2_passHouse rfl rfl rfl (by decide +kernel) ⟨Nat.le_of_ble_eq_true rfl, Nat.le_of_ble_eq_true rfl⟩) (va_recv hK hP (ci := 1) (q0 := 0) rfl rfl) hK hP hD hS hA hZ rfl rfl (Nat.le_of_ble_eq_true rfl) hl.1 dX2_passList_30 ⟨Nat.zero_le _, Nat.zero_le _⟩ (fun u H locs hq hP hD hS => ?_)
    obtain ⟨δ_5, rfl, hPs, hf0⟩ := hq
    refine lv_iinc (v := nI (k + 1)) (lv' := [(3, .int (nI (k + 1))), (0, .ref (ad 0)), (1, .int (nI cc)), (2, .int p1)]) hx hb dX2_passList_33 hl (k := 3) rfl (nI_add k 1) (by decide) rfl (fun ls hl => ?_)
    refine lv_goto (tgt := 7) hx hb dX2_passList_36 (by decide) ?_
    exact ih (k + 1, δ_5) _ _ _ ⟨by (try dsimp only); omega, by (try dsimp only); have e9 : rhF σ cc 3 k = _ := rfl; show PasIs σ _ _ ((catN (rhF σ cc 3) k ++ rhF σ cc 3 k)); rw [e9]; exact hPs, hf0.trans h3, hP, hD, hS, lv_sub hl [1, 2, 3, 0] rfl⟩ (by show σ 13 cc - (k + 1) < σ 13 cc - k; omega)

set_option maxHeartbeats 4000000 in
set_option maxRecDepth 100000 in
theorem c_X2_passStray (l : Launch) (cI cZ : ClassId) (D : va_G) (ad pl : Nat → Nat) (tb sz : Nat) (σ δ : Sg) (w0 : Int32) (p0 : Int32) (hI : Inv σ) : CtV l yX2_passStray wsX2_passStray ({ frames := 5, cells := 0, slots := 0, locals := 108 }) cI cZ D ad pl tb sz (WM cI cZ ad) (σ, δ, w0) [.ref (ad 0), .int p0] (fun u => ∃ δ1, u = (σ, δ1, p0) ∧ PasIs σ δ1 p0 (stL σ) ∧ δ1 0 0 = δ 0 0) := by
  refine Met.ofW (cc := cX2_passStray) (maxL := 3) (ret := none) (by decide) rfl ?_
  intro p e s m args below meth c s₁ B hml hv
  obtain ⟨rfl, hsz, hP, hK, hD0, hZ⟩ := hv
  have hx := B.exec
  have hb := B.bytes
  have hr := B.returns
  have hts := atoms_spec (ws := wsX2_passStray) B.pre
  have hown : s.vm.findClass RX2 = some m.cls := findClass_of_methodNamed B.named
  have hlocks := B.notSynchronized
  have hin : ∀ w ∈ wsX20, w ∈ wsX2_passStray := fun w h => List.mem_cons_of_mem _ (List.mem_append_right _ h)
  subst hsz
  have hD : va_D (AC ad s.heap.size) (WM cI cZ ad (σ, δ, w0)) := AC_self WAd_m hD0
  have hA : ∀ q : Nat, s.heap.size ≤ q → AC ad s.heap.size q := fun q h => Or.inr h
  have hS : va_S (AC ad s.heap.size) s.heap s.heap [] := va_S.rf
  have hl := lv_entry ([.ref (ad 0), .int p0]) (n := 3) (Nat.le_of_ble_eq_true rfl)
  rw [lg_entry_eq]
  generalize (lg_sl ([.ref (ad 0), .int p0]) ++ List.replicate (3 - (lg_sl ([.ref (ad 0), .int p0])).length) Slot.unset).toArray = ls at hl ⊢
  have hl : lv_has ls 3 [(0, .ref (ad 0)), (1, .int p0)] := hl
  refine lv_aload_n hx hb dX2_passStray_0 rfl (lv_at hl 0 rfl) ?_
  refine lv_iload_n hx hb dX2_passStray_1 rfl (lv_at hl 1 rfl) ?_
  refine call_v (As := [.int p0]) (rest := []) WAd_m ⟨hx, hb, hml, hown, hts⟩ (c_X2_begin l cI cZ D ad pl tb _ σ δ w0 p0) (cwV 1 hts gX2_passStray_X2_begin rfl rfl rfl (by decide +kernel) ⟨Nat.le_of_ble_eq_true rfl, Nat.le_of_ble_eq_true rfl⟩) (va_recv hK hP (ci := 1) (q0 := 0) rfl rfl) hK hP hD hS hA hZ rfl rfl (Nat.le_of_ble_eq_true rfl) hl.1 dX2_passStray_2 ⟨Nat.zero_le _, Nat.zero_le _⟩ (fun u H locs hq hP hD hS => ?_)
  obtain ⟨δ_1, rfl, hPs, hf0⟩ := hq
  refine lv_iconst (v := 0) hx hb dX2_passStray_5 (by decide) ?_
  refine lv_istore_n (lv' := [(2, .int 0), (0, .ref (ad 0)), (1, .int p0)]) hx hb dX2_passStray_6 rfl hl (by decide) rfl (fun ls hl => ?_)
  refine W_loop (ι := Nat × Sg) 7 (fun (x : Nat × Sg) H locs ls => (x.1 ≤ σ 11 0) ∧ (PasIs σ x.2 p0 (catN (stF σ) x.1)) ∧ (x.2 0 0 = δ 0 0) ∧ va_P D vwCl (WM cI cZ ad (σ, x.2, p0)) H ∧ va_D (AC ad s.heap.size) (WM cI cZ ad (σ, x.2, p0)) ∧ va_S (AC ad s.heap.size) s.heap H locs ∧ lv_has ls 3 [(0, .ref (ad 0)), (1, .int p0), (2, .int (nI x.1))]) (fun (x : Nat × Sg) => σ 11 0 - x.1) ?_ (0, δ_1) _ _ _ ⟨by (try dsimp only); omega, hPs, hf0, hP, hD, hS, lv_as (lv_sub hl [1, 2, 0] rfl) (lv_c rfl (lv_c rfl (lv_c (congrArg Value.int (by rfl)) rfl)))⟩
  intro ⟨i, δ1⟩ H locs ls ⟨h1, h2, h3, hP, hD, hS, hl⟩ ih
  dsimp only at h1 h2 h3 hP hD hl ih
  have b_i := b11 hI
  have e_b := stF_bd hI (n := i) h1
  refine lv_iload_n hx hb dX2_passStray_7 rfl (lv_at hl 2 rfl) ?_
  refine lv_aload_n hx hb dX2_passStray_8 rfl (lv_at hl 0 rfl) ?_
  refine va_get (D := D) (ci := 1) (v := .int (nI (σ 11 0))) (C := RX2) (T := TX2) (N := 19) hx hb hts hin hown hK hP 0 rfl rfl 8 (by decide) (hts (.fieldLink RX2 55 "HandCasesModel" "items" "I") (by decide +kernel)) (fun _ h9 => h9) rfl dX2_passStray_9 ?_
  have b_2 := b11 hI
  refine lv_icmp_ge (tgt := 43) hx hb dX2_passStray_12 (by decide) (fun c_3 => ?_) (fun c_3 => ?_)
  · skip
    have c_3 := (cq_le (nI_toInt (by omega)) (nI_toInt (by omega))).mp c_3
    exact ret_v (σ, δ1, p0) hx hb hr hK hlocks hP hD hS ⟨δ1, rfl, by have e9 : stL σ = catN (stF σ) i := congrArg (catN (stF σ)) (by omega); rw [e9]; exact h2, h3⟩ dX2_passStray_43
  · skip
    have c_3 := mt (cq_le (nI_toInt (by omega)) (nI_toInt (by omega))).mpr c_3
    refine lv_aload_n hx hb dX2_passStray_15 rfl (lv_at hl 0 rfl) ?_
    refine va_get (D := D) (ci := 1) (v := .ref (ad 10)) (C := RX2) (T := TX2) (N := 19) hx hb hts hin hown hK hP 0 rfl rfl 13 (by decide) (hts (.fieldLink RX2 38 "HandCasesModel" "before" "[I") (by decide +kernel)) (fun _ h9 => h9) rfl dX2_passStray_16 ?_
    refine lv_iload_n hx hb dX2_passStray_19 rfl (lv_at hl 2 rfl) ?_
    have b_4 := b9 hI i
    refine q_iald (v := mI (σ 9 i)) hx hb hK hP 10 0 rfl rfl i (nI_toInt (by omega)) (by omega) rfl dX2_passStray_20 ?_
    refine lv_if_ge (tgt := 37) hx hb dX2_passStray_21 (by decide) (fun c_5 => ?_) (fun c_5 => ?_)
    · skip
      have c_5 := (cq_le (show (0 : Int32).toInt = (0 : Int) from by decide) (mI_toInt (by omega))).mp c_5
      refine lv_iinc (v := nI (i + 1)) (lv' := [(2, .int (nI (i + 1))), (0, .ref (ad 0)), (1, .int p0)]) hx hb dX2_passStray_37 hl (k := 2) rfl (nI_add i 1) (by decide) rfl (fun ls hl => ?_)
      refine lv_goto (tgt := 7) hx hb dX2_passStray_40 (by decide) ?_
      exact ih (i + 1, δ1) _ _ _ ⟨by (try dsimp only); omega, by (try dsimp only); have e9 : stF σ i = [] := if_neg (by omega); show PasIs σ _ _ ((catN (stF σ) i ++ stF σ i)); rw [e9, List.append_nil]; exact h2, h3, hP, hD, hS, lv_sub hl [1, 2, 0] rfl⟩ (by show σ 11 0 - (i + 1) < σ 11 0 - i; omega)
    · skip
      have c_5 := mt (cq_le (show (0 : Int32).toInt = (0 : Int) from by decide) (mI_toInt (by omega))).mpr c_5
      refine lv_aload_n hx hb dX2_passStray_24 rfl (lv_at hl 0 rfl) ?_
      refine lv_iload_n hx hb dX2_passStray_25 rfl (lv_at hl 2 rfl) ?_
      refine call_i (As := [.int (nI i)]) (rest := []) WAd_m ⟨hx, hb, hml, hown, hts⟩ (c_X2_goes l cI cZ D ad pl tb _ σ δ1 p0 i hI (by omega)) (cwV 1 hts gX2_passStray_X2_goes rfl rfl rfl (by decide +kernel) ⟨Nat.le_of_ble_eq_true rfl, Nat.le_of_ble_eq_true rfl⟩) (va_recv hK hP (ci := 1) (q0 := 0) rfl rfl) hK hP hD hS hA hZ rfl rfl (Nat.le_of_ble_eq_true rfl) hl.1 dX2_passStray_26 ⟨Nat.zero_le _, Nat.zero_le _⟩ (fun r u H locs hq hP hD hS => ?_)
      obtain ⟨rfl, rfl⟩ := hq
      have b_6 := plc_lt σ i
      have b_7 := goe_lt (plc σ i)
      refine lv_if_ne (tgt := 37) hx hb dX2_passStray_29 (by decide) (fun c_8 => ?_) (fun c_8 => ?_)
      · skip
        have c_8 := mt (cq_eq (nI_toInt (by omega)) (show (0 : Int32).toInt = (0 : Int) from by decide)).mpr c_8
        have c_8 : plc σ i ≠ 0 := fun q9 => c_8 (by rw [q9]; rfl)
        refine lv_iinc (v := nI (i + 1)) (lv' := [(2, .int (nI (i + 1))), (0, .ref (ad 0)), (1, .int p0)]) hx hb dX2_passStray_37 hl (k := 2) rfl (nI_add i 1) (by decide) rfl (fun ls hl => ?_)
        refine lv_goto (tgt := 7) hx hb dX2_passStray_40 (by decide) ?_
        exact ih (i + 1, δ1) _ _ _ ⟨by (try dsimp only); omega, by (try dsimp only); have e9 : stF σ i = [] := if_neg (by omega); show PasIs σ _ _ ((catN (stF σ) i ++ stF σ i)); rw [e9, List.append_nil]; exact h2, h3, hP, hD, hS, lv_sub hl [1, 2, 0] rfl⟩ (by show σ 11 0 - (i + 1) < σ 11 0 - i; omega)
      · skip
        have c_8 := (cq_eq (nI_toInt (by omega)) (show (0 : Int32).toInt = (0 : Int) from by decide)).mp c_8
        have c_8 : plc σ i = 0 := goe_0 (by omega)
        refine lv_aload_n hx hb dX2_passStray_32 rfl (lv_at hl 0 rfl) ?_
        refine lv_iload_n hx hb dX2_passStray_33 rfl (lv_at hl 2 rfl) ?_
        refine call_v (As := [.int (nI i)]) (rest := []) WAd_m ⟨hx, hb, hml, hown, hts⟩ (c_X2_pass l cI cZ D ad pl tb _ σ δ1 p0 i (catN (stF σ) i) hI (by omega) h2 (by omega)) (cwV 1 hts gX2_passStray_X2_pass rfl rfl rfl (by decide +kernel) ⟨Nat.le_of_ble_eq_true rfl, Nat.le_of_ble_eq_true rfl⟩) (va_recv hK hP (ci := 1) (q0 := 0) rfl rfl) hK hP hD hS hA hZ rfl rfl (Nat.le_of_ble_eq_true rfl) hl.1 dX2_passStray_34 ⟨Nat.zero_le _, Nat.zero_le _⟩ (fun u H locs hq hP hD hS => ?_)
        obtain ⟨δ_9, rfl, hPs, hf0⟩ := hq
        refine lv_iinc (v := nI (i + 1)) (lv' := [(2, .int (nI (i + 1))), (0, .ref (ad 0)), (1, .int p0)]) hx hb dX2_passStray_37 hl (k := 2) rfl (nI_add i 1) (by decide) rfl (fun ls hl => ?_)
        refine lv_goto (tgt := 7) hx hb dX2_passStray_40 (by decide) ?_
        exact ih (i + 1, δ_9) _ _ _ ⟨by (try dsimp only); omega, by (try dsimp only); have e9 : stF σ i = _ := if_pos (by omega); show PasIs σ _ _ ((catN (stF σ) i ++ stF σ i)); rw [e9]; exact hPs, hf0.trans h3, hP, hD, hS, lv_sub hl [1, 2, 0] rfl⟩ (by show σ 11 0 - (i + 1) < σ 11 0 - i; omega)

