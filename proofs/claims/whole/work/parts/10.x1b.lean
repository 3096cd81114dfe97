set_option maxHeartbeats 4000000 in
set_option maxRecDepth 100000 in
theorem c_X1_addBundle (l : Launch) (cI cZ : ClassId) (D : va_G) (ad pl : Nat → Nat) (tb sz : Nat) (σ γ : Sg) (ii : Nat) (L : List Nat) (hI : Inv σ) (hi : ii < σ 11 0) (hR : RowIs γ L) (hL9 : L.length + len σ ii ≤ 250) : CtV l yX1_addBundle wsX1_addBundle ({ frames := 0, cells := 0, slots := 0, locals := 0 }) cI cZ D ad pl tb sz (WC cI cZ ad) (σ, γ) [.ref (ad 0), .int (nI ii)] (fun u => ∃ γ1, u = (σ, γ1) ∧ RowIs γ1 (L ++ chain σ 250 (ii + 1))) := by
  refine Met.ofW (cc := cX1_addBundle) (maxL := 3) (ret := none) (by decide) rfl ?_
  intro p e s m args below meth c s₁ B hml hv
  obtain ⟨rfl, hsz, hP, hK, hD0, hZ⟩ := hv
  have hx := B.exec
  have hb := B.bytes
  have hr := B.returns
  have hts := atoms_spec (ws := wsX1_addBundle) B.pre
  have hown : s.vm.findClass RX1 = some m.cls := findClass_of_methodNamed B.named
  have hlocks := B.notSynchronized
  have hin : ∀ w ∈ wsX10, w ∈ wsX1_addBundle := fun w h => List.mem_cons_of_mem _ (List.mem_append_right _ h)
  subst hsz
  have hD : va_D (AC ad s.heap.size) (WC cI cZ ad (σ, γ)) := AC_self WAd_c hD0
  have hA : ∀ q : Nat, s.heap.size ≤ q → AC ad s.heap.size q := fun q h => Or.inr h
  have hS : va_S (AC ad s.heap.size) s.heap s.heap [] := va_S.rf
  have hl := lv_entry ([.ref (ad 0), .int (nI ii)]) (n := 3) (Nat.le_of_ble_eq_true rfl)
  rw [lg_entry_eq]
  generalize (lg_sl ([.ref (ad 0), .int (nI ii)]) ++ List.replicate (3 - (lg_sl ([.ref (ad 0), .int (nI ii)])).length) Slot.unset).toArray = ls at hl ⊢
  have hl : lv_has ls 3 [(0, .ref (ad 0)), (1, .int (nI ii))] := hl
  refine lv_iload_n hx hb dX1_addBundle_0 rfl (lv_at hl 1 rfl) ?_
  refine lv_istore_n (lv' := [(2, .int (nI ii)), (0, .ref (ad 0)), (1, .int (nI ii))]) hx hb dX1_addBundle_1 rfl hl (by decide) rfl (fun ls hl => ?_)
  refine W_loop (ι := Nat × List Nat × Sg) 2 (fun (x : Nat × List Nat × Sg) H locs ls => (x.1 ≤ σ 11 0) ∧ (x.2.1 ++ chain σ (250 - x.2.1.length) x.1 = chain σ 250 (ii + 1)) ∧ (RowIs x.2.2 (L ++ x.2.1)) ∧ (x.2.1.length ≤ 250) ∧ va_P D vwCl (WC cI cZ ad (σ, x.2.2)) H ∧ va_D (AC ad s.heap.size) (WC cI cZ ad (σ, x.2.2)) ∧ va_S (AC ad s.heap.size) s.heap H locs ∧ lv_has ls 3 [(0, .ref (ad 0)), (1, .int (nI ii)), (2, .int (mI x.1))]) (fun (x : Nat × List Nat × Sg) => 250 - x.2.1.length) ?_ ((ii + 1), ([] : List Nat), γ) _ _ _ ⟨by (try dsimp only); omega, rfl, by (try dsimp only); rw [List.append_nil]; exact hR, Nat.zero_le _, hP, hD, hS, lv_as (lv_sub hl [1, 2, 0] rfl) (lv_c rfl (lv_c rfl (lv_c (congrArg Value.int (mI_s ii).symm) rfl)))⟩
  intro ⟨e1, pr, γ1⟩ H locs ls ⟨h1, h2, h3, h4, hP, hD, hS, hl⟩ ih
  dsimp only at h1 h2 h3 h4 hP hD hl ih
  have e_len := congrArg List.length h2
  rw [List.length_append] at e_len
  have e_l : len σ ii = (chain σ 250 (ii + 1)).length := rfl
  have e_r : γ1 1 0 = L.length + pr.length := by rw [h3.1, List.length_append]
  have b_i := b11 hI
  refine lv_iload_n hx hb dX1_addBundle_2 rfl (lv_at hl 2 rfl) ?_
  refine lv_iconst (v := (-1)) hx hb dX1_addBundle_3 (by decide) ?_
  refine lv_icmp_eq (tgt := 47) hx hb dX1_addBundle_4 (by decide) (fun c_1 => ?_) (fun c_1 => ?_)
  · skip
    have c_1 := (cq_eq (mI_toInt (by omega)) (show (-1 : Int32).toInt = (-1 : Int) from by decide)).mp c_1
    exact ret_v (σ, γ1) hx hb hr hK hlocks hP hD hS ⟨γ1, rfl, by rw [← h2]; first | (rw [show e1 = 0 from by omega, chain_0, List.append_nil]; exact h3) | (rw [List.eq_nil_of_length_eq_zero (by omega : (chain σ (250 - pr.length) e1).length = 0), List.append_nil]; exact h3)⟩ dX1_addBundle_47
  · skip
    have c_1 := mt (cq_eq (mI_toInt (by omega)) (show (-1 : Int32).toInt = (-1 : Int) from by decide)).mpr c_1
    refine lv_aload_n hx hb dX1_addBundle_7 rfl (lv_at hl 0 rfl) ?_
    refine va_get (D := D) (ci := 0) (v := .int (nI (γ1 1 0))) (C := RX1) (T := TX1) (N := 15) hx hb hts hin hown hK hP 0 rfl rfl 13 (by decide) (hts (.fieldLink RX1 48 "HandCases" "rowLength" "I") (by decide +kernel)) (fun _ h9 => h9) rfl dX1_addBundle_8 ?_
    refine lv_sipush (v := 250) hx hb dX1_addBundle_11 (by decide) ?_
    refine lv_icmp_ge (tgt := 47) hx hb dX1_addBundle_14 (by decide) (fun c_2 => ?_) (fun c_2 => ?_)
    · skip
      have c_2 := (cq_le (show (250 : Int32).toInt = (250 : Int) from by decide) (nI_toInt (by omega))).mp c_2
      exact ret_v (σ, γ1) hx hb hr hK hlocks hP hD hS ⟨γ1, rfl, by rw [← h2]; first | (rw [show e1 = 0 from by omega, chain_0, List.append_nil]; exact h3) | (rw [List.eq_nil_of_length_eq_zero (by omega : (chain σ (250 - pr.length) e1).length = 0), List.append_nil]; exact h3)⟩ dX1_addBundle_47
    · skip
      have c_2 := mt (cq_le (show (250 : Int32).toInt = (250 : Int) from by decide) (nI_toInt (by omega))).mpr c_2
      refine lv_aload_n hx hb dX1_addBundle_17 rfl (lv_at hl 0 rfl) ?_
      refine va_get (D := D) (ci := 0) (v := .ref (ad 10)) (C := RX1) (T := TX1) (N := 15) hx hb hts hin hown hK hP 0 rfl rfl 12 (by decide) (hts (.fieldLink RX1 45 "HandCases" "row" "[I") (by decide +kernel)) (fun _ h9 => h9) rfl dX1_addBundle_18 ?_
      refine lv_aload_n hx hb dX1_addBundle_21 rfl (lv_at hl 0 rfl) ?_
      refine va_get (D := D) (ci := 0) (v := .int (nI (γ1 1 0))) (C := RX1) (T := TX1) (N := 15) hx hb hts hin hown hK hP 0 rfl rfl 13 (by decide) (hts (.fieldLink RX1 48 "HandCases" "rowLength" "I") (by decide +kernel)) (fun _ h9 => h9) rfl dX1_addBundle_22 ?_
      refine lv_iload_n hx hb dX1_addBundle_25 rfl (lv_at hl 2 rfl) ?_
      refine q_iast (ws2 := WC cI cZ ad (σ, setA γ1 0 (γ1 1 0) (e1 - 1))) hx hb hK hP hD hS 10 0 rfl rfl (γ1 1 0) (nI_toInt (by omega)) (by omega) (by rw [mI_pos (by omega)]; exact updN) rfl dX1_addBundle_26 (fun H locs hP hD hS => ?_)
      refine lv_aload_n hx hb dX1_addBundle_27 rfl (lv_at hl 0 rfl) ?_
      refine lv_dup hx hb dX1_addBundle_28 rfl ?_
      refine va_get (D := D) (ci := 0) (v := .int (nI (γ1 1 0))) (C := RX1) (T := TX1) (N := 15) hx hb hts hin hown hK hP 0 rfl rfl 13 (by decide) (hts (.fieldLink RX1 48 "HandCases" "rowLength" "I") (by decide +kernel)) (fun _ h9 => h9) rfl dX1_addBundle_29 ?_
      refine lv_iconst (v := 1) hx hb dX1_addBundle_32 (by decide) ?_
      refine lv_iadd hx hb dX1_addBundle_33 ?_
      refine q_topi (nI ((γ1 1 0) + 1)) (nI_add (γ1 1 0) 1) ?_
      refine va_put (D := D) (ci := 0) (v := .int (nI ((γ1 1 0) + 1))) (ty := .int) (C := RX1) (T := TX1) (N := 15) hx hb hts hin tyX1 tyX1_ok nmX1 hown hK hP hD hS 0 rfl rfl 13 (by decide) (hts (.fieldLink RX1 48 "HandCases" "rowLength" "I") (by decide +kernel)) (fun _ h9 => h9) rfl (by decide +kernel) rfl rfl (Nat.le_of_ble_eq_true rfl) dX1_addBundle_34 (fun H locs hP hD hS => ?_)
      have hP : va_P D vwCl (WC cI cZ ad (σ, setA (setA γ1 0 (γ1 1 0) (e1 - 1)) 1 0 ((γ1 1 0) + 1))) H := hP
      have hD : va_D (AC ad s.heap.size) (WC cI cZ ad (σ, setA (setA γ1 0 (γ1 1 0) (e1 - 1)) 1 0 ((γ1 1 0) + 1))) := hD
      refine lv_aload_n hx hb dX1_addBundle_37 rfl (lv_at hl 0 rfl) ?_
      refine va_get (D := D) (ci := 0) (v := .ref (ad 9)) (C := RX1) (T := TX1) (N := 15) hx hb hts hin hown hK hP 0 rfl rfl 10 (by decide) (hts (.fieldLink RX1 39 "HandCases" "behind" "[I") (by decide +kernel)) (fun _ h9 => h9) rfl dX1_addBundle_38 ?_
      refine lv_iload_n hx hb dX1_addBundle_41 rfl (lv_at hl 2 rfl) ?_
      have b_3 := b10 hI (e1 - 1)
      refine q_iald (v := mI (σ 10 (e1 - 1))) hx hb hK hP 9 0 rfl rfl (e1 - 1) (by rw [mI_toInt (by omega)]; omega) (by omega) rfl dX1_addBundle_42 ?_
      refine lv_istore_n (lv' := [(2, .int (mI (σ 10 (e1 - 1)))), (0, .ref (ad 0)), (1, .int (nI ii))]) hx hb dX1_addBundle_43 rfl hl (by decide) rfl (fun ls hl => ?_)
      refine lv_goto (tgt := 2) hx hb dX1_addBundle_44 (by decide) ?_
      exact ih (σ 10 (e1 - 1), pr ++ [e1 - 1], setA (setA γ1 0 (γ1 1 0) (e1 - 1)) 1 0 (γ1 1 0 + 1)) _ _ _ ⟨I_bh hI (by omega), by (try dsimp only); rw [chain_st (by omega) (by omega)] at h2; rw [List.length_append, List.append_assoc]; exact h2, by (try dsimp only); rw [← List.append_assoc]; exact RowIs_push h3, by (try dsimp only); simp only [List.length_append, List.length_cons, List.length_nil]; omega, hP, hD, hS, lv_sub hl [1, 2, 0] rfl⟩ (by show 250 - (pr ++ [e1 - 1]).length < 250 - pr.length; simp only [List.length_append, List.length_cons, List.length_nil]; omega)

set_option maxHeartbeats 4000000 in
set_option maxRecDepth 100000 in
theorem c_X1_addOfHouse (l : Launch) (cI cZ : ClassId) (D : va_G) (ad pl : Nat → Nat) (tb sz : Nat) (σ γ : Sg) (p0 : Int32) (hh q : Nat) (L : List Nat) (hI : Inv σ) (hp : ∀ n : Nat, n < 200 → (p0.toInt = (n : Int) ↔ n = hh)) (hq5 : q < 5) (hR : RowIs γ L) (hL9 : L.length + (hL σ hh q).length ≤ 250) : CtV l yX1_addOfHouse wsX1_addOfHouse ({ frames := 3, cells := 0, slots := 0, locals := 66 }) cI cZ D ad pl tb sz (WC cI cZ ad) (σ, γ) [.ref (ad 0), .int p0, .ref (pl q)] (fun u => ∃ γ1, u = (σ, γ1) ∧ RowIs γ1 (L ++ hL σ hh q)) := by
  refine Met.ofW (cc := cX1_addOfHouse) (maxL := 4) (ret := none) (by decide) rfl ?_
  intro p e s m args below meth c s₁ B hml hv
  obtain ⟨rfl, hsz, hP, hK, hD0, hZ⟩ := hv
  have hx := B.exec
  have hb := B.bytes
  have hr := B.returns
  have hts := atoms_spec (ws := wsX1_addOfHouse) B.pre
  have hown : s.vm.findClass RX1 = some m.cls := findClass_of_methodNamed B.named
  have hlocks := B.notSynchronized
  have hin : ∀ w ∈ wsX10, w ∈ wsX1_addOfHouse := fun w h => List.mem_cons_of_mem _ (List.mem_append_right _ h)
  subst hsz
  have hD : va_D (AC ad s.heap.size) (WC cI cZ ad (σ, γ)) := AC_self WAd_c hD0
  have hA : ∀ q : Nat, s.heap.size ≤ q → AC ad s.heap.size q := fun q h => Or.inr h
  have hS : va_S (AC ad s.heap.size) s.heap s.heap [] := va_S.rf
  have hl := lv_entry ([.ref (ad 0), .int p0, .ref (pl q)]) (n := 4) (Nat.le_of_ble_eq_true rfl)
  rw [lg_entry_eq]
  generalize (lg_sl ([.ref (ad 0), .int p0, .ref (pl q)]) ++ List.replicate (4 - (lg_sl ([.ref (ad 0), .int p0, .ref (pl q)])).length) Slot.unset).toArray = ls at hl ⊢
  have hl : lv_has ls 4 [(0, .ref (ad 0)), (1, .int p0), (2, .ref (pl q))] := hl
  refine lv_iconst (v := 0) hx hb dX1_addOfHouse_0 (by decide) ?_
  refine lv_istore_n (lv' := [(3, .int 0), (0, .ref (ad 0)), (1, .int p0), (2, .ref (pl q))]) hx hb dX1_addOfHouse_1 rfl hl (by decide) rfl (fun ls hl => ?_)
  refine W_loop (ι := Nat × Sg) 2 (fun (x : Nat × Sg) H locs ls => (x.1 ≤ σ 11 0) ∧ (RowIs x.2 (L ++ catN (ofH σ hh q) x.1)) ∧ va_P D vwCl (WC cI cZ ad (σ, x.2)) H ∧ va_D (AC ad s.heap.size) (WC cI cZ ad (σ, x.2)) ∧ va_S (AC ad s.heap.size) s.heap H locs ∧ lv_has ls 4 [(0, .ref (ad 0)), (1, .int p0), (2, .ref (pl q)), (3, .int (nI x.1))]) (fun (x : Nat × Sg) => σ 11 0 - x.1) ?_ (0, γ) _ _ _ ⟨by (try dsimp only); omega, by (try dsimp only); show RowIs _ (L ++ []); rw [List.append_nil]; exact hR, hP, hD, hS, lv_as (lv_sub hl [1, 2, 3, 0] rfl) (lv_c rfl (lv_c rfl (lv_c rfl (lv_c (congrArg Value.int (by rfl)) rfl))))⟩
  intro ⟨i, γ1⟩ H locs ls ⟨h1, h2, hP, hD, hS, hl⟩ ih
  dsimp only at h1 h2 hP hD hl ih
  have b_i := b11 hI
  have e_L : (hL σ hh q).length = (catN (ofH σ hh q) (σ 11 0)).length := rfl
  refine lv_iload_n hx hb dX1_addOfHouse_2 rfl (lv_at hl 3 rfl) ?_
  refine lv_aload_n hx hb dX1_addOfHouse_3 rfl (lv_at hl 0 rfl) ?_
  refine va_get (D := D) (ci := 0) (v := .int (nI (σ 11 0))) (C := RX1) (T := TX1) (N := 15) hx hb hts hin hown hK hP 0 rfl rfl 11 (by decide) (hts (.fieldLink RX1 42 "HandCases" "items" "I") (by decide +kernel)) (fun _ h9 => h9) rfl dX1_addOfHouse_4 ?_
  have b_1 := b11 hI
  refine lv_icmp_ge (tgt := 48) hx hb dX1_addOfHouse_7 (by decide) (fun c_2 => ?_) (fun c_2 => ?_)
  · skip
    have c_2 := (cq_le (nI_toInt (by omega)) (nI_toInt (by omega))).mp c_2
    exact ret_v (σ, γ1) hx hb hr hK hlocks hP hD hS ⟨γ1, rfl, by have e9 : hL σ hh q = catN (ofH σ hh q) i := congrArg (catN (ofH σ hh q)) (by omega); rw [e9]; exact h2⟩ dX1_addOfHouse_48
  · skip
    have c_2 := mt (cq_le (nI_toInt (by omega)) (nI_toInt (by omega))).mpr c_2
    refine lv_aload_n hx hb dX1_addOfHouse_10 rfl (lv_at hl 0 rfl) ?_
    refine va_get (D := D) (ci := 0) (v := .ref (ad 5)) (C := RX1) (T := TX1) (N := 15) hx hb hts hin hown hK hP 0 rfl rfl 6 (by decide) (hts (.fieldLink RX1 27 "HandCases" "numberOf" "[I") (by decide +kernel)) (fun _ h9 => h9) rfl dX1_addOfHouse_11 ?_
    refine lv_iload_n hx hb dX1_addOfHouse_14 rfl (lv_at hl 3 rfl) ?_
    have b_3 := b6 hI i
    refine q_iald (v := nI (σ 6 i)) hx hb hK hP 5 0 rfl rfl i (nI_toInt (by omega)) (by omega) rfl dX1_addOfHouse_15 ?_
    refine lv_iload_n hx hb dX1_addOfHouse_16 rfl (lv_at hl 1 rfl) ?_
    refine lv_icmp_ne (tgt := 42) hx hb dX1_addOfHouse_17 (by decide) (fun c_4 => ?_) (fun c_4 => ?_)
    · skip
      have c_4 := mt (cq_eq (nI_toInt (by omega)) rfl).mpr c_4
      have c_4 : σ 6 i ≠ hh := fun q9 => c_4 ((hp (σ 6 i) (by omega)).mpr q9).symm
      refine lv_iinc (v := nI (i + 1)) (lv' := [(3, .int (nI (i + 1))), (0, .ref (ad 0)), (1, .int p0), (2, .ref (pl q))]) hx hb dX1_addOfHouse_42 hl (k := 3) rfl (nI_add i 1) (by decide) rfl (fun ls hl => ?_)
      refine lv_goto (tgt := 2) hx hb dX1_addOfHouse_45 (by decide) ?_
      exact ih (i + 1, γ1) _ _ _ ⟨by (try dsimp only); omega, by (try dsimp only); have e9 : ofH σ hh q i = [] := if_neg (by omega); show RowIs _ (L ++ (catN (ofH σ hh q) i ++ ofH σ hh q i)); rw [e9, List.append_nil]; exact h2, hP, hD, hS, lv_sub hl [1, 2, 3, 0] rfl⟩ (by show σ 11 0 - (i + 1) < σ 11 0 - i; omega)
    · skip
      have c_4 := (cq_eq (nI_toInt (by omega)) rfl).mp c_4
      have c_4 : σ 6 i = hh := (hp (σ 6 i) (by omega)).mp c_4.symm
      refine lv_aload_n hx hb dX1_addOfHouse_20 rfl (lv_at hl 0 rfl) ?_
      refine lv_iload_n hx hb dX1_addOfHouse_21 rfl (lv_at hl 3 rfl) ?_
      refine call_i (As := [.int (nI i)]) (rest := []) WAd_c ⟨hx, hb, hml, hown, hts⟩ (c_X1_leads l cI cZ D ad pl tb _ σ γ1 i hI (by omega)) (cwV 1 hts gX1_addOfHouse_X1_leads rfl rfl rfl (by decide +kernel) ⟨Nat.le_of_ble_eq_true rfl, Nat.le_of_ble_eq_true rfl⟩) (va_recv hK hP (ci := 0) (q0 := 0) rfl rfl) hK hP hD hS hA hZ rfl rfl (Nat.le_of_ble_eq_true rfl) hl.1 dX1_addOfHouse_22 ⟨Nat.zero_le _, Nat.zero_le _⟩ (fun r u H locs hq hP hD hS => ?_)
      obtain ⟨rfl, rfl⟩ := hq
      refine lv_if_eq (tgt := 42) hx hb dX1_addOfHouse_25 (by decide) (fun c_5 => ?_) (fun c_5 => ?_)
      · skip
        have c_5 : ¬ (σ 9 i = 0) := pI_0.mp c_5
        refine lv_iinc (v := nI (i + 1)) (lv' := [(3, .int (nI (i + 1))), (0, .ref (ad 0)), (1, .int p0), (2, .ref (pl q))]) hx hb dX1_addOfHouse_42 hl (k := 3) rfl (nI_add i 1) (by decide) rfl (fun ls hl => ?_)
        refine lv_goto (tgt := 2) hx hb dX1_addOfHouse_45 (by decide) ?_
        exact ih (i + 1, γ1) _ _ _ ⟨by (try dsimp only); omega, by (try dsimp only); have e9 : ofH σ hh q i = [] := if_neg (by omega); show RowIs _ (L ++ (catN (ofH σ hh q) i ++ ofH σ hh q i)); rw [e9, List.append_nil]; exact h2, hP, hD, hS, lv_sub hl [1, 2, 3, 0] rfl⟩ (by show σ 11 0 - (i + 1) < σ 11 0 - i; omega)
      · skip
        have c_5 : σ 9 i = 0 := Decidable.not_not.mp (mt pI_0.mpr c_5)
        refine lv_aload_n hx hb dX1_addOfHouse_28 rfl (lv_at hl 0 rfl) ?_
        refine lv_iload_n hx hb dX1_addOfHouse_29 rfl (lv_at hl 3 rfl) ?_
        refine call_e (As := [.int (nI i)]) (rest := []) WAd_c ⟨hx, hb, hml, hown, hts⟩ (c_X1_placeOf l cI cZ D ad pl tb _ σ γ1 i hI (by omega)) (cwV 1 hts gX1_addOfHouse_X1_placeOf rfl rfl rfl (by decide +kernel) ⟨Nat.le_of_ble_eq_true rfl, Nat.le_of_ble_eq_true rfl⟩) (va_recv hK hP (ci := 0) (q0 := 0) rfl rfl) hK hP hD hS hA hZ rfl rfl (Nat.le_of_ble_eq_true rfl) hl.1 dX1_addOfHouse_30 ⟨Nat.zero_le _, Nat.zero_le _⟩ (fun r u H locs hq hP hD hS => ?_)
        obtain ⟨rfl, rfl⟩ := hq
        have b_6 := plc_lt σ i
        refine lv_aload_n hx hb dX1_addOfHouse_33 rfl (lv_at hl 2 rfl) ?_
        refine lv_acmp_ne (rx := some (pl (plc σ i))) (ry := some (pl q)) (tgt := 42) hx hb dX1_addOfHouse_34 (by decide) (fun c_7 => ?_) (fun c_7 => ?_)
        · skip
          have c_7 : plc σ i ≠ q := fun q => c_7 (by rw [q])
          refine lv_iinc (v := nI (i + 1)) (lv' := [(3, .int (nI (i + 1))), (0, .ref (ad 0)), (1, .int p0), (2, .ref (pl q))]) hx hb dX1_addOfHouse_42 hl (k := 3) rfl (nI_add i 1) (by decide) rfl (fun ls hl => ?_)
          refine lv_goto (tgt := 2) hx hb dX1_addOfHouse_45 (by decide) ?_
          exact ih (i + 1, γ1) _ _ _ ⟨by (try dsimp only); omega, by (try dsimp only); have e9 : ofH σ hh q i = [] := if_neg (by omega); show RowIs _ (L ++ (catN (ofH σ hh q) i ++ ofH σ hh q i)); rw [e9, List.append_nil]; exact h2, hP, hD, hS, lv_sub hl [1, 2, 3, 0] rfl⟩ (by show σ 11 0 - (i + 1) < σ 11 0 - i; omega)
        · skip
          have c_7 : plc σ i = q := hZ.2.2.2.2.2.2.2 _ _ (by omega) (by omega) (Option.some.inj c_7)
          refine lv_aload_n hx hb dX1_addOfHouse_37 rfl (lv_at hl 0 rfl) ?_
          refine lv_iload_n hx hb dX1_addOfHouse_38 rfl (lv_at hl 3 rfl) ?_
          refine call_v (As := [.int (nI i)]) (rest := []) WAd_c ⟨hx, hb, hml, hown, hts⟩ (c_X1_addBundle l cI cZ D ad pl tb _ σ γ1 i (L ++ catN (ofH σ hh q) i) hI (by omega) h2 (by have e7 := catN_step (ofH σ hh q) (n := σ 11 0) (i := i) (by omega); rw [show ofH σ hh q i = _ from if_pos (by omega)] at e7; rw [List.length_append]; first | (unfold len; omega) | omega)) (cwV 1 hts gX1_addOfHouse_X1_addBundle rfl rfl rfl (by decide +kernel) ⟨Nat.le_of_ble_eq_true rfl, Nat.le_of_ble_eq_true rfl⟩) (va_recv hK hP (ci := 0) (q0 := 0) rfl rfl) hK hP hD hS hA hZ rfl rfl (Nat.le_of_ble_eq_true rfl) hl.1 dX1_addOfHouse_39 ⟨Nat.zero_le _, Nat.zero_le _⟩ (fun u H locs hq hP hD hS => ?_)
          obtain ⟨γ_8, rfl, hR⟩ := hq
          refine lv_iinc (v := nI (i + 1)) (lv' := [(3, .int (nI (i + 1))), (0, .ref (ad 0)), (1, .int p0), (2, .ref (pl q))]) hx hb dX1_addOfHouse_42 hl (k := 3) rfl (nI_add i 1) (by decide) rfl (fun ls hl => ?_)
          refine lv_goto (tgt := 2) hx hb dX1_addOfHouse_45 (by decide) ?_
          exact ih (i + 1, γ_8) _ _ _ ⟨by (try dsimp only); omega, by (try dsimp only); have e9 : ofH σ hh q i = _ := if_pos (by omega); show RowIs _ (L ++ (catN (ofH σ hh q) i ++ ofH σ hh q i)); rw [e9, ← List.append_assoc]; exact hR, hP, hD, hS, lv_sub hl [1, 2, 3, 0] rfl⟩ (by show σ 11 0 - (i + 1) < σ 11 0 - i; omega)

set_option maxHeartbeats 4000000 in
set_option maxRecDepth 100000 in
theorem c_X1_addRound (l : Launch) (cI cZ : ClassId) (D : va_G) (ad pl : Nat → Nat) (tb sz : Nat) (σ γ : Sg) (cc q : Nat) (L : List Nat) (hI : Inv σ) (hc : cc < 4) (hq5 : q < 5) (hR : RowIs γ L) (hL9 : L.length + (roL σ cc q).length ≤ 250) : CtV l yX1_addRound wsX1_addRound ({ frames := 4, cells := 0, slots := 0, locals := 89 }) cI cZ D ad pl tb sz (WC cI cZ ad) (σ, γ) [.ref (ad 0), .int (nI cc), .ref (pl q)] (fun u => ∃ γ1, u = (σ, γ1) ∧ RowIs γ1 (L ++ roL σ cc q)) := by
  refine Met.ofW (cc := cX1_addRound) (maxL := 4) (ret := none) (by decide) rfl ?_
  intro p e s m args below meth c s₁ B hml hv
  obtain ⟨rfl, hsz, hP, hK, hD0, hZ⟩ := hv
  have hx := B.exec
  have hb := B.bytes
  have hr := B.returns
  have hts := atoms_spec (ws := wsX1_addRound) B.pre
  have hown : s.vm.findClass RX1 = some m.cls := findClass_of_methodNamed B.named
  have hlocks := B.notSynchronized
  have hin : ∀ w ∈ wsX10, w ∈ wsX1_addRound := fun w h => List.mem_cons_of_mem _ (List.mem_append_right _ h)
  subst hsz
  have hD : va_D (AC ad s.heap.size) (WC cI cZ ad (σ, γ)) := AC_self WAd_c hD0
  have hA : ∀ q : Nat, s.heap.size ≤ q → AC ad s.heap.size q := fun q h => Or.inr h
  have hS : va_S (AC ad s.heap.size) s.heap s.heap [] := va_S.rf
  have hl := lv_entry ([.ref (ad 0), .int (nI cc), .ref (pl q)]) (n := 4) (Nat.le_of_ble_eq_true rfl)
  rw [lg_entry_eq]
  generalize (lg_sl ([.ref (ad 0), .int (nI cc), .ref (pl q)]) ++ List.replicate (4 - (lg_sl ([.ref (ad 0), .int (nI cc), .ref (pl q)])).length) Slot.unset).toArray = ls at hl ⊢
  have hl : lv_has ls 4 [(0, .ref (ad 0)), (1, .int (nI cc)), (2, .ref (pl q))] := hl
  refine lv_iconst (v := 0) hx hb dX1_addRound_0 (by decide) ?_
  refine lv_istore_n (lv' := [(3, .int 0), (0, .ref (ad 0)), (1, .int (nI cc)), (2, .ref (pl q))]) hx hb dX1_addRound_1 rfl hl (by decide) rfl (fun ls hl => ?_)
  refine W_loop (ι := Nat × Sg) 2 (fun (x : Nat × Sg) H locs ls => (x.1 ≤ σ 5 0) ∧ (RowIs x.2 (L ++ catN (roF σ cc q) x.1)) ∧ va_P D vwCl (WC cI cZ ad (σ, x.2)) H ∧ va_D (AC ad s.heap.size) (WC cI cZ ad (σ, x.2)) ∧ va_S (AC ad s.heap.size) s.heap H locs ∧ lv_has ls 4 [(0, .ref (ad 0)), (1, .int (nI cc)), (2, .ref (pl q)), (3, .int (nI x.1))]) (fun (x : Nat × Sg) => σ 5 0 - x.1) ?_ (0, γ) _ _ _ ⟨by (try dsimp only); omega, by (try dsimp only); show RowIs _ (L ++ []); rw [List.append_nil]; exact hR, hP, hD, hS, lv_as (lv_sub hl [1, 2, 3, 0] rfl) (lv_c rfl (lv_c rfl (lv_c rfl (lv_c (congrArg Value.int (by rfl)) rfl))))⟩
  intro ⟨i, γ1⟩ H locs ls ⟨h1, h2, hP, hD, hS, hl⟩ ih
  dsimp only at h1 h2 hP hD hl ih
  have b_i := b5 hI
  have e_L : (roL σ cc q).length = (catN (roF σ cc q) (σ 5 0)).length := rfl
  refine lv_iload_n hx hb dX1_addRound_2 rfl (lv_at hl 3 rfl) ?_
  refine lv_aload_n hx hb dX1_addRound_3 rfl (lv_at hl 0 rfl) ?_
  refine va_get (D := D) (ci := 0) (v := .int (nI (σ 5 0))) (C := RX1) (T := TX1) (N := 15) hx hb hts hin hown hK hP 0 rfl rfl 5 (by decide) (hts (.fieldLink RX1 23 "HandCases" "houses" "I") (by decide +kernel)) (fun _ h9 => h9) rfl dX1_addRound_4 ?_
  have b_1 := b5 hI
  refine lv_icmp_ge (tgt := 42) hx hb dX1_addRound_7 (by decide) (fun c_2 => ?_) (fun c_2 => ?_)
  · skip
    have c_2 := (cq_le (nI_toInt (by omega)) (nI_toInt (by omega))).mp c_2
    exact ret_v (σ, γ1) hx hb hr hK hlocks hP hD hS ⟨γ1, rfl, by have e9 : roL σ cc q = catN (roF σ cc q) i := congrArg (catN (roF σ cc q)) (by omega); rw [e9]; exact h2⟩ dX1_addRound_42
  · skip
    have c_2 := mt (cq_le (nI_toInt (by omega)) (nI_toInt (by omega))).mpr c_2
    refine lv_aload_n hx hb dX1_addRound_10 rfl (lv_at hl 0 rfl) ?_
    refine va_get (D := D) (ci := 0) (v := .ref (ad 1)) (C := RX1) (T := TX1) (N := 15) hx hb hts hin hown hK hP 0 rfl rfl 1 (by decide) (hts (.fieldLink RX1 9 "HandCases" "carrierOf" "[I") (by decide +kernel)) (fun _ h9 => h9) rfl dX1_addRound_11 ?_
    refine lv_aload_n hx hb dX1_addRound_14 rfl (lv_at hl 0 rfl) ?_
    refine va_get (D := D) (ci := 0) (v := .ref (ad 4)) (C := RX1) (T := TX1) (N := 15) hx hb hts hin hown hK hP 0 rfl rfl 4 (by decide) (hts (.fieldLink RX1 20 "HandCases" "told" "[I") (by decide +kernel)) (fun _ h9 => h9) rfl dX1_addRound_15 ?_
    refine lv_iload_n hx hb dX1_addRound_18 rfl (lv_at hl 3 rfl) ?_
    have b_3 := b4 hI i
    refine q_iald (v := nI (σ 4 i)) hx hb hK hP 4 0 rfl rfl i (nI_toInt (by omega)) (by omega) rfl dX1_addRound_19 ?_
    have b_4 := b1 hI (σ 4 i)
    refine q_iald (v := mI (σ 1 (σ 4 i))) hx hb hK hP 1 0 rfl rfl (σ 4 i) (nI_toInt (by omega)) (by omega) rfl dX1_addRound_20 ?_
    refine lv_iload_n hx hb dX1_addRound_21 rfl (lv_at hl 1 rfl) ?_
    refine lv_icmp_ne (tgt := 36) hx hb dX1_addRound_22 (by decide) (fun c_5 => ?_) (fun c_5 => ?_)
    · skip
      have c_5 := mt (cq_eq (mI_toInt (by omega)) (nI_toInt (by omega))).mpr c_5
      refine lv_iinc (v := nI (i + 1)) (lv' := [(3, .int (nI (i + 1))), (0, .ref (ad 0)), (1, .int (nI cc)), (2, .ref (pl q))]) hx hb dX1_addRound_36 hl (k := 3) rfl (nI_add i 1) (by decide) rfl (fun ls hl => ?_)
      refine lv_goto (tgt := 2) hx hb dX1_addRound_39 (by decide) ?_
      exact ih (i + 1, γ1) _ _ _ ⟨by (try dsimp only); omega, by (try dsimp only); have e9 : roF σ cc q i = [] := if_neg (by omega); show RowIs _ (L ++ (catN (roF σ cc q) i ++ roF σ cc q i)); rw [e9, List.append_nil]; exact h2, hP, hD, hS, lv_sub hl [1, 2, 3, 0] rfl⟩ (by show σ 5 0 - (i + 1) < σ 5 0 - i; omega)
    · skip
      have c_5 := (cq_eq (mI_toInt (by omega)) (nI_toInt (by omega))).mp c_5
      refine lv_aload_n hx hb dX1_addRound_25 rfl (lv_at hl 0 rfl) ?_
      refine lv_aload_n hx hb dX1_addRound_26 rfl (lv_at hl 0 rfl) ?_
      refine va_get (D := D) (ci := 0) (v := .ref (ad 4)) (C := RX1) (T := TX1) (N := 15) hx hb hts hin hown hK hP 0 rfl rfl 4 (by decide) (hts (.fieldLink RX1 20 "HandCases" "told" "[I") (by decide +kernel)) (fun _ h9 => h9) rfl dX1_addRound_27 ?_
      refine lv_iload_n hx hb dX1_addRound_30 rfl (lv_at hl 3 rfl) ?_
      have b_6 := b4 hI i
      refine q_iald (v := nI (σ 4 i)) hx hb hK hP 4 0 rfl rfl i (nI_toInt (by omega)) (by omega) rfl dX1_addRound_31 ?_
      refine lv_aload_n hx hb dX1_addRound_32 rfl (lv_at hl 2 rfl) ?_
      refine call_v (As := [.int (nI (σ 4 i)), .ref (pl q)]) (rest := []) WAd_c ⟨hx, hb, hml, hown, hts⟩ (c_X1_addOfHouse l cI cZ D ad pl tb _ σ γ1 (nI (σ 4 i)) (σ 4 i) q (L ++ catN (roF σ cc q) i) hI (fun n hn => by rw [nI_toInt (by omega)]; omega) (by omega) h2 (by have e7 := catN_step (roF σ cc q) (n := σ 5 0) (i := i) (by omega); rw [show roF σ cc q i = _ from if_pos (by omega)] at e7; rw [List.length_append]; first | (unfold len; omega) | omega)) (cwV 2 hts gX1_addRound_X1_addOfHouse rfl rfl rfl (by decide +kernel) ⟨Nat.le_of_ble_eq_true rfl, Nat.le_of_ble_eq_true rfl⟩) (va_recv hK hP (ci := 0) (q0 := 0) rfl rfl) hK hP hD hS hA hZ rfl rfl (Nat.le_of_ble_eq_true rfl) hl.1 dX1_addRound_33 ⟨Nat.zero_le _, Nat.zero_le _⟩ (fun u H locs hq hP hD hS => ?_)
      obtain ⟨γ_7, rfl, hR⟩ := hq
      refine lv_iinc (v := nI (i + 1)) (lv' := [(3, .int (nI (i + 1))), (0, .ref (ad 0)), (1, .int (nI cc)), (2, .ref (pl q))]) hx hb dX1_addRound_36 hl (k := 3) rfl (nI_add i 1) (by decide) rfl (fun ls hl => ?_)
      refine lv_goto (tgt := 2) hx hb dX1_addRound_39 (by decide) ?_
      exact ih (i + 1, γ_7) _ _ _ ⟨by (try dsimp only); omega, by (try dsimp only); have e9 : roF σ cc q i = _ := if_pos (by omega); show RowIs _ (L ++ (catN (roF σ cc q) i ++ roF σ cc q i)); rw [e9, ← List.append_assoc]; exact hR, hP, hD, hS, lv_sub hl [1, 2, 3, 0] rfl⟩ (by show σ 5 0 - (i + 1) < σ 5 0 - i; omega)

set_option maxHeartbeats 4000000 in
set_option maxRecDepth 100000 in
theorem c_X1_addAstrayAt (l : Launch) (cI cZ : ClassId) (D : va_G) (ad pl : Nat → Nat) (tb sz : Nat) (σ γ : Sg) (gg : Nat) (L : List Nat) (hI : Inv σ) (hg : gg < σ 0 0) (hR : RowIs γ L) (hL9 : L.length + (catN (asF σ gg) (σ 11 0)).length ≤ 250) : CtV l yX1_addAstrayAt wsX1_addAstrayAt ({ frames := 3, cells := 0, slots := 0, locals := 66 }) cI cZ D ad pl tb sz (WC cI cZ ad) (σ, γ) [.ref (ad 0), .int (nI gg)] (fun u => ∃ γ1, u = (σ, γ1) ∧ RowIs γ1 (L ++ catN (asF σ gg) (σ 11 0))) := by
  refine Met.ofW (cc := cX1_addAstrayAt) (maxL := 3) (ret := none) (by decide) rfl ?_
  intro p e s m args below meth c s₁ B hml hv
  obtain ⟨rfl, hsz, hP, hK, hD0, hZ⟩ := hv
  have hx := B.exec
  have hb := B.bytes
  have hr := B.returns
  have hts := atoms_spec (ws := wsX1_addAstrayAt) B.pre
  have hown : s.vm.findClass RX1 = some m.cls := findClass_of_methodNamed B.named
  have hlocks := B.notSynchronized
  have hin : ∀ w ∈ wsX10, w ∈ wsX1_addAstrayAt := fun w h => List.mem_cons_of_mem _ (List.mem_append_right _ h)
  subst hsz
  have hD : va_D (AC ad s.heap.size) (WC cI cZ ad (σ, γ)) := AC_self WAd_c hD0
  have hA : ∀ q : Nat, s.heap.size ≤ q → AC ad s.heap.size q := fun q h => Or.inr h
  have hS : va_S (AC ad s.heap.size) s.heap s.heap [] := va_S.rf
  have hl := lv_entry ([.ref (ad 0), .int (nI gg)]) (n := 3) (Nat.le_of_ble_eq_true rfl)
  rw [lg_entry_eq]
  generalize (lg_sl ([.ref (ad 0), .int (nI gg)]) ++ List.replicate (3 - (lg_sl ([.ref (ad 0), .int (nI gg)])).length) Slot.unset).toArray = ls at hl ⊢
  have hl : lv_has ls 3 [(0, .ref (ad 0)), (1, .int (nI gg))] := hl
  refine lv_iconst (v := 0) hx hb dX1_addAstrayAt_0 (by decide) ?_
  refine lv_istore_n (lv' := [(2, .int 0), (0, .ref (ad 0)), (1, .int (nI gg))]) hx hb dX1_addAstrayAt_1 rfl hl (by decide) rfl (fun ls hl => ?_)
  refine W_loop (ι := Nat × Sg) 2 (fun (x : Nat × Sg) H locs ls => (x.1 ≤ σ 11 0) ∧ (RowIs x.2 (L ++ catN (asF σ gg) x.1)) ∧ va_P D vwCl (WC cI cZ ad (σ, x.2)) H ∧ va_D (AC ad s.heap.size) (WC cI cZ ad (σ, x.2)) ∧ va_S (AC ad s.heap.size) s.heap H locs ∧ lv_has ls 3 [(0, .ref (ad 0)), (1, .int (nI gg)), (2, .int (nI x.1))]) (fun (x : Nat × Sg) => σ 11 0 - x.1) ?_ (0, γ) _ _ _ ⟨by (try dsimp only); omega, by (try dsimp only); show RowIs _ (L ++ []); rw [List.append_nil]; exact hR, hP, hD, hS, lv_as (lv_sub hl [1, 2, 0] rfl) (lv_c rfl (lv_c rfl (lv_c (congrArg Value.int (by rfl)) rfl)))⟩
  intro ⟨i, γ1⟩ H locs ls ⟨h1, h2, hP, hD, hS, hl⟩ ih
  dsimp only at h1 h2 hP hD hl ih
  have b_i := b11 hI
  have b_0 := b0 hI
  refine lv_iload_n hx hb dX1_addAstrayAt_2 rfl (lv_at hl 2 rfl) ?_
  refine lv_aload_n hx hb dX1_addAstrayAt_3 rfl (lv_at hl 0 rfl) ?_
  refine va_get (D := D) (ci := 0) (v := .int (nI (σ 11 0))) (C := RX1) (T := TX1) (N := 15) hx hb hts hin hown hK hP 0 rfl rfl 11 (by decide) (hts (.fieldLink RX1 42 "HandCases" "items" "I") (by decide +kernel)) (fun _ h9 => h9) rfl dX1_addAstrayAt_4 ?_
  have b_1 := b11 hI
  refine lv_icmp_ge (tgt := 49) hx hb dX1_addAstrayAt_7 (by decide) (fun c_2 => ?_) (fun c_2 => ?_)
  · skip
    have c_2 := (cq_le (nI_toInt (by omega)) (nI_toInt (by omega))).mp c_2
    exact ret_v (σ, γ1) hx hb hr hK hlocks hP hD hS ⟨γ1, rfl, by have e9 : catN (asF σ gg) (σ 11 0) = catN (asF σ gg) i := congrArg (catN (asF σ gg)) (by omega); rw [e9]; exact h2⟩ dX1_addAstrayAt_49
  · skip
    have c_2 := mt (cq_le (nI_toInt (by omega)) (nI_toInt (by omega))).mpr c_2
    refine lv_aload_n hx hb dX1_addAstrayAt_10 rfl (lv_at hl 0 rfl) ?_
    refine lv_iload_n hx hb dX1_addAstrayAt_11 rfl (lv_at hl 2 rfl) ?_
    refine call_i (As := [.int (nI i)]) (rest := []) WAd_c ⟨hx, hb, hml, hown, hts⟩ (c_X1_leads l cI cZ D ad pl tb _ σ γ1 i hI (by omega)) (cwV 1 hts gX1_addAstrayAt_X1_leads rfl rfl rfl (by decide +kernel) ⟨Nat.le_of_ble_eq_true rfl, Nat.le_of_ble_eq_true rfl⟩) (va_recv hK hP (ci := 0) (q0 := 0) rfl rfl) hK hP hD hS hA hZ rfl rfl (Nat.le_of_ble_eq_true rfl) hl.1 dX1_addAstrayAt_12 ⟨Nat.zero_le _, Nat.zero_le _⟩ (fun r u H locs hq hP hD hS => ?_)
    obtain ⟨rfl, rfl⟩ := hq
    refine lv_if_eq (tgt := 43) hx hb dX1_addAstrayAt_15 (by decide) (fun c_3 => ?_) (fun c_3 => ?_)
    · skip
      have c_3 : ¬ (σ 9 i = 0) := pI_0.mp c_3
      refine lv_iinc (v := nI (i + 1)) (lv' := [(2, .int (nI (i + 1))), (0, .ref (ad 0)), (1, .int (nI gg))]) hx hb dX1_addAstrayAt_43 hl (k := 2) rfl (nI_add i 1) (by decide) rfl (fun ls hl => ?_)
      refine lv_goto (tgt := 2) hx hb dX1_addAstrayAt_46 (by decide) ?_
      exact ih (i + 1, γ1) _ _ _ ⟨by (try dsimp only); omega, by (try dsimp only); have e9 : asF σ gg i = [] := if_neg (by omega); show RowIs _ (L ++ (catN (asF σ gg) i ++ asF σ gg i)); rw [e9, List.append_nil]; exact h2, hP, hD, hS, lv_sub hl [1, 2, 0] rfl⟩ (by show σ 11 0 - (i + 1) < σ 11 0 - i; omega)
    · skip
      have c_3 : σ 9 i = 0 := Decidable.not_not.mp (mt pI_0.mpr c_3)
      refine lv_aload_n hx hb dX1_addAstrayAt_18 rfl (lv_at hl 0 rfl) ?_
      refine lv_iload_n hx hb dX1_addAstrayAt_19 rfl (lv_at hl 2 rfl) ?_
      refine call_i (As := [.int (nI i)]) (rest := []) WAd_c ⟨hx, hb, hml, hown, hts⟩ (c_X1_holeOfLead l cI cZ D ad pl tb _ σ γ1 i hI (by omega)) (cwV 1 hts gX1_addAstrayAt_X1_holeOfLead rfl rfl rfl (by decide +kernel) ⟨Nat.le_of_ble_eq_true rfl, Nat.le_of_ble_eq_true rfl⟩) (va_recv hK hP (ci := 0) (q0 := 0) rfl rfl) hK hP hD hS hA hZ rfl rfl (Nat.le_of_ble_eq_true rfl) hl.1 dX1_addAstrayAt_20 ⟨Nat.zero_le _, Nat.zero_le _⟩ (fun r u H locs hq hP hD hS => ?_)
      obtain ⟨rfl, rfl⟩ := hq
      have b_4 := hol_le hI i
      refine lv_iload_n hx hb dX1_addAstrayAt_23 rfl (lv_at hl 1 rfl) ?_
      refine lv_icmp_ne (tgt := 43) hx hb dX1_addAstrayAt_24 (by decide) (fun c_5 => ?_) (fun c_5 => ?_)
      · skip
        have c_5 := mt (cq_eq (mI_toInt (by omega)) (nI_toInt (by omega))).mpr c_5
        refine lv_iinc (v := nI (i + 1)) (lv' := [(2, .int (nI (i + 1))), (0, .ref (ad 0)), (1, .int (nI gg))]) hx hb dX1_addAstrayAt_43 hl (k := 2) rfl (nI_add i 1) (by decide) rfl (fun ls hl => ?_)
        refine lv_goto (tgt := 2) hx hb dX1_addAstrayAt_46 (by decide) ?_
        exact ih (i + 1, γ1) _ _ _ ⟨by (try dsimp only); omega, by (try dsimp only); have e9 : asF σ gg i = [] := if_neg (by omega); show RowIs _ (L ++ (catN (asF σ gg) i ++ asF σ gg i)); rw [e9, List.append_nil]; exact h2, hP, hD, hS, lv_sub hl [1, 2, 0] rfl⟩ (by show σ 11 0 - (i + 1) < σ 11 0 - i; omega)
      · skip
        have c_5 := (cq_eq (mI_toInt (by omega)) (nI_toInt (by omega))).mp c_5
        refine lv_aload_n hx hb dX1_addAstrayAt_27 rfl (lv_at hl 0 rfl) ?_
        refine lv_iload_n hx hb dX1_addAstrayAt_28 rfl (lv_at hl 2 rfl) ?_
        refine call_e (As := [.int (nI i)]) (rest := []) WAd_c ⟨hx, hb, hml, hown, hts⟩ (c_X1_placeOf l cI cZ D ad pl tb _ σ γ1 i hI (by omega)) (cwV 1 hts gX1_addAstrayAt_X1_placeOf rfl rfl rfl (by decide +kernel) ⟨Nat.le_of_ble_eq_true rfl, Nat.le_of_ble_eq_true rfl⟩) (va_recv hK hP (ci := 0) (q0 := 0) rfl rfl) hK hP hD hS hA hZ rfl rfl (Nat.le_of_ble_eq_true rfl) hl.1 dX1_addAstrayAt_29 ⟨Nat.zero_le _, Nat.zero_le _⟩ (fun r u H locs hq hP hD hS => ?_)
        obtain ⟨rfl, rfl⟩ := hq
        have b_6 := plc_lt σ i
        refine va_gets hx hb hZ.2.1 hS hown (hts (.fieldLink RX1 193 "HandCases$Place" "ASTRAY" "LHandCases$Place;") (by decide +kernel)) (fun _ h9 => h9) dX1_addAstrayAt_32 ?_
        refine lv_acmp_ne (rx := some (pl (plc σ i))) (ry := some (pl 1)) (tgt := 43) hx hb dX1_addAstrayAt_35 (by decide) (fun c_7 => ?_) (fun c_7 => ?_)
        · skip
          have c_7 : plc σ i ≠ 1 := fun q => c_7 (by rw [q])
          refine lv_iinc (v := nI (i + 1)) (lv' := [(2, .int (nI (i + 1))), (0, .ref (ad 0)), (1, .int (nI gg))]) hx hb dX1_addAstrayAt_43 hl (k := 2) rfl (nI_add i 1) (by decide) rfl (fun ls hl => ?_)
          refine lv_goto (tgt := 2) hx hb dX1_addAstrayAt_46 (by decide) ?_
          exact ih (i + 1, γ1) _ _ _ ⟨by (try dsimp only); omega, by (try dsimp only); have e9 : asF σ gg i = [] := if_neg (by omega); show RowIs _ (L ++ (catN (asF σ gg) i ++ asF σ gg i)); rw [e9, List.append_nil]; exact h2, hP, hD, hS, lv_sub hl [1, 2, 0] rfl⟩ (by show σ 11 0 - (i + 1) < σ 11 0 - i; omega)
        · skip
          have c_7 : plc σ i = 1 := hZ.2.2.2.2.2.2.2 _ _ (by omega) (by decide) (Option.some.inj c_7)
          refine lv_aload_n hx hb dX1_addAstrayAt_38 rfl (lv_at hl 0 rfl) ?_
          refine lv_iload_n hx hb dX1_addAstrayAt_39 rfl (lv_at hl 2 rfl) ?_
          refine call_v (As := [.int (nI i)]) (rest := []) WAd_c ⟨hx, hb, hml, hown, hts⟩ (c_X1_addBundle l cI cZ D ad pl tb _ σ γ1 i (L ++ catN (asF σ gg) i) hI (by omega) h2 (by have e7 := catN_step (asF σ gg) (n := σ 11 0) (i := i) (by omega); rw [show asF σ gg i = _ from if_pos (by omega)] at e7; rw [List.length_append]; first | (unfold len; omega) | omega)) (cwV 1 hts gX1_addAstrayAt_X1_addBundle rfl rfl rfl (by decide +kernel) ⟨Nat.le_of_ble_eq_true rfl, Nat.le_of_ble_eq_true rfl⟩) (va_recv hK hP (ci := 0) (q0 := 0) rfl rfl) hK hP hD hS hA hZ rfl rfl (Nat.le_of_ble_eq_true rfl) hl.1 dX1_addAstrayAt_40 ⟨Nat.zero_le _, Nat.zero_le _⟩ (fun u H locs hq hP hD hS => ?_)
          obtain ⟨γ_8, rfl, hR⟩ := hq
          refine lv_iinc (v := nI (i + 1)) (lv' := [(2, .int (nI (i + 1))), (0, .ref (ad 0)), (1, .int (nI gg))]) hx hb dX1_addAstrayAt_43 hl (k := 2) rfl (nI_add i 1) (by decide) rfl (fun ls hl => ?_)
          refine lv_goto (tgt := 2) hx hb dX1_addAstrayAt_46 (by decide) ?_
          exact ih (i + 1, γ_8) _ _ _ ⟨by (try dsimp only); omega, by (try dsimp only); have e9 : asF σ gg i = _ := if_pos (by omega); show RowIs _ (L ++ (catN (asF σ gg) i ++ asF σ gg i)); rw [e9, ← List.append_assoc]; exact hR, hP, hD, hS, lv_sub hl [1, 2, 0] rfl⟩ (by show σ 11 0 - (i + 1) < σ 11 0 - i; omega)

set_option maxHeartbeats 4000000 in
set_option maxRecDepth 100000 in
theorem c_X1_addAstray (l : Launch) (cI cZ : ClassId) (D : va_G) (ad pl : Nat → Nat) (tb sz : Nat) (σ γ : Sg) (cc : Nat) (L : List Nat) (hI : Inv σ) (hc : cc < 4) (hR : RowIs γ L) (hL9 : L.length + (asL σ cc).length ≤ 250) : CtV l yX1_addAstray wsX1_addAstray ({ frames := 4, cells := 0, slots := 0, locals := 88 }) cI cZ D ad pl tb sz (WC cI cZ ad) (σ, γ) [.ref (ad 0), .int (nI cc)] (fun u => ∃ γ1, u = (σ, γ1) ∧ RowIs γ1 (L ++ asL σ cc)) := by
  refine Met.ofW (cc := cX1_addAstray) (maxL := 3) (ret := none) (by decide) rfl ?_
  intro p e s m args below meth c s₁ B hml hv
  obtain ⟨rfl, hsz, hP, hK, hD0, hZ⟩ := hv
  have hx := B.exec
  have hb := B.bytes
  have hr := B.returns
  have hts := atoms_spec (ws := wsX1_addAstray) B.pre
  have hown : s.vm.findClass RX1 = some m.cls := findClass_of_methodNamed B.named
  have hlocks := B.notSynchronized
  have hin : ∀ w ∈ wsX10, w ∈ wsX1_addAstray := fun w h => List.mem_cons_of_mem _ (List.mem_append_right _ h)
  subst hsz
  have hD : va_D (AC ad s.heap.size) (WC cI cZ ad (σ, γ)) := AC_self WAd_c hD0
  have hA : ∀ q : Nat, s.heap.size ≤ q → AC ad s.heap.size q := fun q h => Or.inr h
  have hS : va_S (AC ad s.heap.size) s.heap s.heap [] := va_S.rf
  have hl := lv_entry ([.ref (ad 0), .int (nI cc)]) (n := 3) (Nat.le_of_ble_eq_true rfl)
  rw [lg_entry_eq]
  generalize (lg_sl ([.ref (ad 0), .int (nI cc)]) ++ List.replicate (3 - (lg_sl ([.ref (ad 0), .int (nI cc)])).length) Slot.unset).toArray = ls at hl ⊢
  have hl : lv_has ls 3 [(0, .ref (ad 0)), (1, .int (nI cc))] := hl
  refine lv_iconst (v := 0) hx hb dX1_addAstray_0 (by decide) ?_
  refine lv_istore_n (lv' := [(2, .int 0), (0, .ref (ad 0)), (1, .int (nI cc))]) hx hb dX1_addAstray_1 rfl hl (by decide) rfl (fun ls hl => ?_)
  refine W_loop (ι := Nat × Sg) 2 (fun (x : Nat × Sg) H locs ls => (x.1 ≤ σ 0 0) ∧ (RowIs x.2 (L ++ catN (asG σ cc) x.1)) ∧ va_P D vwCl (WC cI cZ ad (σ, x.2)) H ∧ va_D (AC ad s.heap.size) (WC cI cZ ad (σ, x.2)) ∧ va_S (AC ad s.heap.size) s.heap H locs ∧ lv_has ls 3 [(0, .ref (ad 0)), (1, .int (nI cc)), (2, .int (nI x.1))]) (fun (x : Nat × Sg) => σ 0 0 - x.1) ?_ (0, γ) _ _ _ ⟨by (try dsimp only); omega, by (try dsimp only); show RowIs _ (L ++ []); rw [List.append_nil]; exact hR, hP, hD, hS, lv_as (lv_sub hl [1, 2, 0] rfl) (lv_c rfl (lv_c rfl (lv_c (congrArg Value.int (by rfl)) rfl)))⟩
  intro ⟨i, γ1⟩ H locs ls ⟨h1, h2, hP, hD, hS, hl⟩ ih
  dsimp only at h1 h2 hP hD hl ih
  have b_0 := b0 hI
  have e_L : (asL σ cc).length = (catN (asG σ cc) (σ 0 0)).length := rfl
  refine lv_iload_n hx hb dX1_addAstray_2 rfl (lv_at hl 2 rfl) ?_
  refine lv_aload_n hx hb dX1_addAstray_3 rfl (lv_at hl 0 rfl) ?_
  refine va_get (D := D) (ci := 0) (v := .int (nI (σ 0 0))) (C := RX1) (T := TX1) (N := 15) hx hb hts hin hown hK hP 0 rfl rfl 0 (by decide) (hts (.fieldLink RX1 63 "HandCases" "holes" "I") (by decide +kernel)) (fun _ h9 => h9) rfl dX1_addAstray_4 ?_
  have b_1 := b0 hI
  refine lv_icmp_ge (tgt := 30) hx hb dX1_addAstray_7 (by decide) (fun c_2 => ?_) (fun c_2 => ?_)
  · skip
    have c_2 := (cq_le (nI_toInt (by omega)) (nI_toInt (by omega))).mp c_2
    exact ret_v (σ, γ1) hx hb hr hK hlocks hP hD hS ⟨γ1, rfl, by have e9 : asL σ cc = catN (asG σ cc) i := congrArg (catN (asG σ cc)) (by omega); rw [e9]; exact h2⟩ dX1_addAstray_30
  · skip
    have c_2 := mt (cq_le (nI_toInt (by omega)) (nI_toInt (by omega))).mpr c_2
    refine lv_aload_n hx hb dX1_addAstray_10 rfl (lv_at hl 0 rfl) ?_
    refine lv_iload_n hx hb dX1_addAstray_11 rfl (lv_at hl 2 rfl) ?_
    refine call_i (As := [.int (nI i)]) (rest := []) WAd_c ⟨hx, hb, hml, hown, hts⟩ (c_X1_leastCarrierAt l cI cZ D ad pl tb _ σ γ1 i hI (by omega)) (cwV 1 hts gX1_addAstray_X1_leastCarrierAt rfl rfl rfl (by decide +kernel) ⟨Nat.le_of_ble_eq_true rfl, Nat.le_of_ble_eq_true rfl⟩) (va_recv hK hP (ci := 0) (q0 := 0) rfl rfl) hK hP hD hS hA hZ rfl rfl (Nat.le_of_ble_eq_true rfl) hl.1 dX1_addAstray_12 ⟨Nat.zero_le _, Nat.zero_le _⟩ (fun r u H locs hq hP hD hS => ?_)
    obtain ⟨rfl, rfl⟩ := hq
    have b_3 := leastN_le hI i (σ 5 0)
    refine lv_iload_n hx hb dX1_addAstray_15 rfl (lv_at hl 1 rfl) ?_
    refine lv_icmp_ne (tgt := 24) hx hb dX1_addAstray_16 (by decide) (fun c_4 => ?_) (fun c_4 => ?_)
    · skip
      have c_4 := mt (cq_eq (mI_toInt (by omega)) (nI_toInt (by omega))).mpr c_4
      refine lv_iinc (v := nI (i + 1)) (lv' := [(2, .int (nI (i + 1))), (0, .ref (ad 0)), (1, .int (nI cc))]) hx hb dX1_addAstray_24 hl (k := 2) rfl (nI_add i 1) (by decide) rfl (fun ls hl => ?_)
      refine lv_goto (tgt := 2) hx hb dX1_addAstray_27 (by decide) ?_
      exact ih (i + 1, γ1) _ _ _ ⟨by (try dsimp only); omega, by (try dsimp only); have e9 : asG σ cc i = [] := if_neg (by omega); show RowIs _ (L ++ (catN (asG σ cc) i ++ asG σ cc i)); rw [e9, List.append_nil]; exact h2, hP, hD, hS, lv_sub hl [1, 2, 0] rfl⟩ (by show σ 0 0 - (i + 1) < σ 0 0 - i; omega)
    · skip
      have c_4 := (cq_eq (mI_toInt (by omega)) (nI_toInt (by omega))).mp c_4
      refine lv_aload_n hx hb dX1_addAstray_19 rfl (lv_at hl 0 rfl) ?_
      refine lv_iload_n hx hb dX1_addAstray_20 rfl (lv_at hl 2 rfl) ?_
      refine call_v (As := [.int (nI i)]) (rest := []) WAd_c ⟨hx, hb, hml, hown, hts⟩ (c_X1_addAstrayAt l cI cZ D ad pl tb _ σ γ1 i (L ++ catN (asG σ cc) i) hI (by omega) h2 (by have e7 := catN_step (asG σ cc) (n := σ 0 0) (i := i) (by omega); rw [show asG σ cc i = _ from if_pos (by omega)] at e7; rw [List.length_append]; first | (unfold len; omega) | omega)) (cwV 1 hts gX1_addAstray_X1_addAstrayAt rfl rfl rfl (by decide +kernel) ⟨Nat.le_of_ble_eq_true rfl, Nat.le_of_ble_eq_true rfl⟩) (va_recv hK hP (ci := 0) (q0 := 0) rfl rfl) hK hP hD hS hA hZ rfl rfl (Nat.le_of_ble_eq_true rfl) hl.1 dX1_addAstray_21 ⟨Nat.zero_le _, Nat.zero_le _⟩ (fun u H locs hq hP hD hS => ?_)
      obtain ⟨γ_5, rfl, hR⟩ := hq
      refine lv_iinc (v := nI (i + 1)) (lv' := [(2, .int (nI (i + 1))), (0, .ref (ad 0)), (1, .int (nI cc))]) hx hb dX1_addAstray_24 hl (k := 2) rfl (nI_add i 1) (by decide) rfl (fun ls hl => ?_)
      refine lv_goto (tgt := 2) hx hb dX1_addAstray_27 (by decide) ?_
      exact ih (i + 1, γ_5) _ _ _ ⟨by (try dsimp only); omega, by (try dsimp only); have e9 : asG σ cc i = _ := if_pos (by omega); show RowIs _ (L ++ (catN (asG σ cc) i ++ asG σ cc i)); rw [e9, ← List.append_assoc]; exact hR, hP, hD, hS, lv_sub hl [1, 2, 0] rfl⟩ (by show σ 0 0 - (i + 1) < σ 0 0 - i; omega)

set_option maxHeartbeats 4000000 in
set_option maxRecDepth 100000 in
theorem c_X1_lineUpFrame (l : Launch) (cI cZ : ClassId) (D : va_G) (ad pl : Nat → Nat) (tb sz : Nat) (σ γ : Sg) (cc : Nat) (hI : Inv σ) (hc : cc < 4) (hL9 : (frL σ cc).length ≤ 250) : CtV l yX1_lineUpFrame wsX1_lineUpFrame ({ frames := 5, cells := 0, slots := 0, locals := 112 }) cI cZ D ad pl tb sz (WC cI cZ ad) (σ, γ) [.ref (ad 0), .int (nI cc)] (fun u => ∃ γ1, u = (σ, γ1) ∧ RowIs γ1 (frL σ cc)) := by
  refine Met.ofW (cc := cX1_lineUpFrame) (maxL := 2) (ret := none) (by decide) rfl ?_
  intro p e s m args below meth c s₁ B hml hv
  obtain ⟨rfl, hsz, hP, hK, hD0, hZ⟩ := hv
  have hx := B.exec
  have hb := B.bytes
  have hr := B.returns
  have hts := atoms_spec (ws := wsX1_lineUpFrame) B.pre
  have hown : s.vm.findClass RX1 = some m.cls := findClass_of_methodNamed B.named
  have hlocks := B.notSynchronized
  have hin : ∀ w ∈ wsX10, w ∈ wsX1_lineUpFrame := fun w h => List.mem_cons_of_mem _ (List.mem_append_right _ h)
  subst hsz
  have hD : va_D (AC ad s.heap.size) (WC cI cZ ad (σ, γ)) := AC_self WAd_c hD0
  have hA : ∀ q : Nat, s.heap.size ≤ q → AC ad s.heap.size q := fun q h => Or.inr h
  have hS : va_S (AC ad s.heap.size) s.heap s.heap [] := va_S.rf
  have hl := lv_entry ([.ref (ad 0), .int (nI cc)]) (n := 2) (Nat.le_of_ble_eq_true rfl)
  rw [lg_entry_eq]
  generalize (lg_sl ([.ref (ad 0), .int (nI cc)]) ++ List.replicate (2 - (lg_sl ([.ref (ad 0), .int (nI cc)])).length) Slot.unset).toArray = ls at hl ⊢
  have hl : lv_has ls 2 [(0, .ref (ad 0)), (1, .int (nI cc))] := hl
  refine lv_aload_n hx hb dX1_lineUpFrame_0 rfl (lv_at hl 0 rfl) ?_
  refine lv_iconst (v := 0) hx hb dX1_lineUpFrame_1 (by decide) ?_
  refine va_put (D := D) (ci := 0) (v := .int 0) (ty := .int) (C := RX1) (T := TX1) (N := 15) hx hb hts hin tyX1 tyX1_ok nmX1 hown hK hP hD hS 0 rfl rfl 13 (by decide) (hts (.fieldLink RX1 48 "HandCases" "rowLength" "I") (by decide +kernel)) (fun _ h9 => h9) rfl (by decide +kernel) rfl rfl (Nat.le_of_ble_eq_true rfl) dX1_lineUpFrame_2 (fun H locs hP hD hS => ?_)
  have hP : va_P D vwCl (WC cI cZ ad (σ, setA γ 1 0 0)) H := hP
  have hD : va_D (AC ad s.heap.size) (WC cI cZ ad (σ, setA γ 1 0 0)) := hD
  refine lv_aload_n hx hb dX1_lineUpFrame_5 rfl (lv_at hl 0 rfl) ?_
  refine lv_iload_n hx hb dX1_lineUpFrame_6 rfl (lv_at hl 1 rfl) ?_
  refine va_gets hx hb hZ.2.2.2.2.1 hS hown (hts (.fieldLink RX1 196 "HandCases$Place" "FRAME" "LHandCases$Place;") (by decide +kernel)) (fun _ h9 => h9) dX1_lineUpFrame_7 ?_
  refine call_v (As := [.int (nI cc), .ref (pl 4)]) (rest := []) WAd_c ⟨hx, hb, hml, hown, hts⟩ (c_X1_addRound l cI cZ D ad pl tb _ σ (setA γ 1 0 0) cc 4 ([]) hI (by omega) (by omega) RowIs_nil (by rw [List.length_nil]; unfold frL at hL9; rw [List.length_append] at hL9; omega)) (cwV 2 hts gX1_lineUpFrame_X1_addRound rfl rfl rfl (by decide +kernel) ⟨Nat.le_of_ble_eq_true rfl, Nat.le_of_ble_eq_true rfl⟩) (va_recv hK hP (ci := 0) (q0 := 0) rfl rfl) hK hP hD hS hA hZ rfl rfl (Nat.le_of_ble_eq_true rfl) hl.1 dX1_lineUpFrame_10 ⟨Nat.zero_le _, Nat.zero_le _⟩ (fun u H locs hq hP hD hS => ?_)
  obtain ⟨γ_1, rfl, hR⟩ := hq
  refine lv_aload_n hx hb dX1_lineUpFrame_13 rfl (lv_at hl 0 rfl) ?_
  refine lv_iload_n hx hb dX1_lineUpFrame_14 rfl (lv_at hl 1 rfl) ?_
  refine call_v (As := [.int (nI cc)]) (rest := []) WAd_c ⟨hx, hb, hml, hown, hts⟩ (c_X1_addAstray l cI cZ D ad pl tb _ σ γ_1 cc ([] ++ roL σ cc 4) hI (by omega) hR (by rw [List.nil_append]; unfold frL at hL9; rw [List.length_append] at hL9; exact hL9)) (cwV 1 hts gX1_lineUpFrame_X1_addAstray rfl rfl rfl (by decide +kernel) ⟨Nat.le_of_ble_eq_true rfl, Nat.le_of_ble_eq_true rfl⟩) (va_recv hK hP (ci := 0) (q0 := 0) rfl rfl) hK hP hD hS hA hZ rfl rfl (Nat.le_of_ble_eq_true rfl) hl.1 dX1_lineUpFrame_15 ⟨Nat.zero_le _, Nat.zero_le _⟩ (fun u H locs hq hP hD hS => ?_)
  obtain ⟨γ_2, rfl, hR⟩ := hq
  exact ret_v (σ, γ_2) hx hb hr hK hlocks hP hD hS ⟨γ_2, rfl, hR⟩ dX1_lineUpFrame_18

set_option maxHeartbeats 4000000 in
set_option maxRecDepth 100000 in
theorem c_X1_inRow (l : Launch) (cI cZ : ClassId) (D : va_G) (ad pl : Nat → Nat) (tb sz : Nat) (σ γ : Sg) (p0 : Int32) (L : List Nat) (hR : RowIs γ L) (hL9 : L.length ≤ 250) : CtI l yX1_inRow wsX1_inRow ({ frames := 0, cells := 0, slots := 0, locals := 0 }) cI cZ D ad pl tb sz (WC cI cZ ad) (σ, γ) [.ref (ad 0), .int p0] (fun r u => r = pickI p0 L ∧ u = (σ, γ)) := by
  refine Met.ofW (cc := cX1_inRow) (maxL := 2) (ret := (some .int)) (by decide) rfl ?_
  intro p e s m args below meth c s₁ B hml hv
  obtain ⟨rfl, hsz, hP, hK, hD0, hZ⟩ := hv
  have hx := B.exec
  have hb := B.bytes
  have hr := B.returns
  have hts := atoms_spec (ws := wsX1_inRow) B.pre
  have hown : s.vm.findClass RX1 = some m.cls := findClass_of_methodNamed B.named
  have hlocks := B.notSynchronized
  have hin : ∀ w ∈ wsX10, w ∈ wsX1_inRow := fun w h => List.mem_cons_of_mem _ (List.mem_append_right _ h)
  subst hsz
  have hD : va_D (AC ad s.heap.size) (WC cI cZ ad (σ, γ)) := AC_self WAd_c hD0
  have hA : ∀ q : Nat, s.heap.size ≤ q → AC ad s.heap.size q := fun q h => Or.inr h
  have hS : va_S (AC ad s.heap.size) s.heap s.heap [] := va_S.rf
  have hl := lv_entry ([.ref (ad 0), .int p0]) (n := 2) (Nat.le_of_ble_eq_true rfl)
  rw [lg_entry_eq]
  generalize (lg_sl ([.ref (ad 0), .int p0]) ++ List.replicate (2 - (lg_sl ([.ref (ad 0), .int p0])).length) Slot.unset).toArray = ls at hl ⊢
  have hl : lv_has ls 2 [(0, .ref (ad 0)), (1, .int p0)] := hl
  have e_r := hR.1
  refine lv_iload_n hx hb dX1_inRow_0 rfl (lv_at hl 1 rfl) ?_
  refine lv_if_lt (tgt := 21) hx hb dX1_inRow_1 (by decide) (fun c_1 => ?_) (fun c_1 => ?_)
  · skip
    have c_1 := (cq_lt rfl (show (0 : Int32).toInt = (0 : Int) from by decide)).mp c_1
    refine lv_iconst (v := (-1)) hx hb dX1_inRow_21 (by decide) ?_
    exact ret_i (σ, γ) hx hb hr rfl hK hlocks hP hD hS ⟨pickI_no (by have := hR.1; omega), rfl⟩ dX1_inRow_22
  · skip
    have c_1 := mt (cq_lt rfl (show (0 : Int32).toInt = (0 : Int) from by decide)).mpr c_1
    refine lv_iload_n hx hb dX1_inRow_4 rfl (lv_at hl 1 rfl) ?_
    refine lv_aload_n hx hb dX1_inRow_5 rfl (lv_at hl 0 rfl) ?_
    refine va_get (D := D) (ci := 0) (v := .int (nI (γ 1 0))) (C := RX1) (T := TX1) (N := 15) hx hb hts hin hown hK hP 0 rfl rfl 13 (by decide) (hts (.fieldLink RX1 48 "HandCases" "rowLength" "I") (by decide +kernel)) (fun _ h9 => h9) rfl dX1_inRow_6 ?_
    refine lv_icmp_ge (tgt := 21) hx hb dX1_inRow_9 (by decide) (fun c_2 => ?_) (fun c_2 => ?_)
    · skip
      have c_2 := (cq_le (nI_toInt (by omega)) rfl).mp c_2
      refine lv_iconst (v := (-1)) hx hb dX1_inRow_21 (by decide) ?_
      exact ret_i (σ, γ) hx hb hr rfl hK hlocks hP hD hS ⟨pickI_no (by have := hR.1; omega), rfl⟩ dX1_inRow_22
    · skip
      have c_2 := mt (cq_le (nI_toInt (by omega)) rfl).mpr c_2
      refine lv_aload_n hx hb dX1_inRow_12 rfl (lv_at hl 0 rfl) ?_
      refine va_get (D := D) (ci := 0) (v := .ref (ad 10)) (C := RX1) (T := TX1) (N := 15) hx hb hts hin hown hK hP 0 rfl rfl 12 (by decide) (hts (.fieldLink RX1 45 "HandCases" "row" "[I") (by decide +kernel)) (fun _ h9 => h9) rfl dX1_inRow_13 ?_
      refine lv_iload_n hx hb dX1_inRow_16 rfl (lv_at hl 1 rfl) ?_
      refine q_iald (v := nI (γ 0 p0.toInt.toNat)) hx hb hK hP 10 0 rfl rfl p0.toInt.toNat (by omega) (by omega) rfl dX1_inRow_17 ?_
      refine lv_goto (tgt := 22) hx hb dX1_inRow_18 (by decide) ?_
      exact ret_i (σ, γ) hx hb hr rfl hK hlocks hP hD hS ⟨by have e1 := hR.1; unfold pickI; rw [if_pos (by omega), hR.2 _ (by omega)], rfl⟩ dX1_inRow_22

set_option maxHeartbeats 4000000 in
set_option maxRecDepth 100000 in
theorem c_X1_secondsOfRow (l : Launch) (cI cZ : ClassId) (D : va_G) (ad pl : Nat → Nat) (tb sz : Nat) (σ γ : Sg) (L : List Nat) (hI : Inv σ) (hR : RowIs γ L) (hx9 : ∀ x ∈ L, x < 250) (hL9 : L.length ≤ 250) : CtI l yX1_secondsOfRow wsX1_secondsOfRow ({ frames := 0, cells := 0, slots := 0, locals := 0 }) cI cZ D ad pl tb sz (WC cI cZ ad) (σ, γ) [.ref (ad 0)] (fun r u => r = nI (costL σ L) ∧ u = (σ, γ)) := by
  refine Met.ofW (cc := cX1_secondsOfRow) (maxL := 3) (ret := (some .int)) (by decide) rfl ?_
  intro p e s m args below meth c s₁ B hml hv
  obtain ⟨rfl, hsz, hP, hK, hD0, hZ⟩ := hv
  have hx := B.exec
  have hb := B.bytes
  have hr := B.returns
  have hts := atoms_spec (ws := wsX1_secondsOfRow) B.pre
  have hown : s.vm.findClass RX1 = some m.cls := findClass_of_methodNamed B.named
  have hlocks := B.notSynchronized
  have hin : ∀ w ∈ wsX10, w ∈ wsX1_secondsOfRow := fun w h => List.mem_cons_of_mem _ (List.mem_append_right _ h)
  subst hsz
  have hD : va_D (AC ad s.heap.size) (WC cI cZ ad (σ, γ)) := AC_self WAd_c hD0
  have hA : ∀ q : Nat, s.heap.size ≤ q → AC ad s.heap.size q := fun q h => Or.inr h
  have hS : va_S (AC ad s.heap.size) s.heap s.heap [] := va_S.rf
  have hl := lv_entry ([.ref (ad 0)]) (n := 3) (Nat.le_of_ble_eq_true rfl)
  rw [lg_entry_eq]
  generalize (lg_sl ([.ref (ad 0)]) ++ List.replicate (3 - (lg_sl ([.ref (ad 0)])).length) Slot.unset).toArray = ls at hl ⊢
  have hl : lv_has ls 3 [(0, .ref (ad 0))] := hl
  refine lv_iconst (v := 0) hx hb dX1_secondsOfRow_0 (by decide) ?_
  refine lv_istore_n (lv' := [(1, .int 0), (0, .ref (ad 0))]) hx hb dX1_secondsOfRow_1 rfl hl (by decide) rfl (fun ls hl => ?_)
  refine lv_iconst (v := 0) hx hb dX1_secondsOfRow_2 (by decide) ?_
  refine lv_istore_n (lv' := [(2, .int 0), (1, .int 0), (0, .ref (ad 0))]) hx hb dX1_secondsOfRow_3 rfl hl (by decide) rfl (fun ls hl => ?_)
  refine W_loop (ι := Nat) 4 (fun (i : Nat) H locs ls => (i ≤ L.length) ∧ va_P D vwCl (WC cI cZ ad (σ, γ)) H ∧ va_D (AC ad s.heap.size) (WC cI cZ ad (σ, γ)) ∧ va_S (AC ad s.heap.size) s.heap H locs ∧ lv_has ls 3 [(0, .ref (ad 0)), (1, .int (nI (sumN (scF σ L) i))), (2, .int (nI i))]) (fun (i : Nat) => L.length - i) ?_ 0 _ _ _ ⟨by omega, hP, hD, hS, lv_as (lv_sub hl [2, 1, 0] rfl) (lv_c rfl (lv_c (congrArg Value.int (by rfl)) (lv_c (congrArg Value.int (by rfl)) rfl)))⟩
  intro i H locs ls ⟨h1, hP, hD, hS, hl⟩ ih
  have e_r := hR.1
  refine lv_iload_n hx hb dX1_secondsOfRow_4 rfl (lv_at hl 2 rfl) ?_
  refine lv_aload_n hx hb dX1_secondsOfRow_5 rfl (lv_at hl 0 rfl) ?_
  refine va_get (D := D) (ci := 0) (v := .int (nI (γ 1 0))) (C := RX1) (T := TX1) (N := 15) hx hb hts hin hown hK hP 0 rfl rfl 13 (by decide) (hts (.fieldLink RX1 48 "HandCases" "rowLength" "I") (by decide +kernel)) (fun _ h9 => h9) rfl dX1_secondsOfRow_6 ?_
  refine lv_icmp_ge (tgt := 36) hx hb dX1_secondsOfRow_9 (by decide) (fun c_1 => ?_) (fun c_1 => ?_)
  · skip
    have c_1 := (cq_le (nI_toInt (by omega)) (nI_toInt (by omega))).mp c_1
    refine lv_iload_n hx hb dX1_secondsOfRow_36 rfl (lv_at hl 1 rfl) ?_
    exact ret_i (σ, γ) hx hb hr rfl hK hlocks hP hD hS ⟨congrArg nI (by rw [costL_sum]; exact congrArg (sumN (scF σ L)) (by omega)), rfl⟩ dX1_secondsOfRow_37
  · skip
    have c_1 := mt (cq_le (nI_toInt (by omega)) (nI_toInt (by omega))).mpr c_1
    refine lv_iload_n hx hb dX1_secondsOfRow_12 rfl (lv_at hl 1 rfl) ?_
    refine va_gets hx hb hZ.2.2.2.2.2.1 hS hown (hts (.fieldLink RX1 208 "HandCases" "SECONDS" "[I") (by decide +kernel)) (fun _ h9 => h9) dX1_secondsOfRow_13 ?_
    refine lv_aload_n hx hb dX1_secondsOfRow_16 rfl (lv_at hl 0 rfl) ?_
    refine va_get (D := D) (ci := 0) (v := .ref (ad 6)) (C := RX1) (T := TX1) (N := 15) hx hb hts hin hown hK hP 0 rfl rfl 7 (by decide) (hts (.fieldLink RX1 30 "HandCases" "kindOf" "[I") (by decide +kernel)) (fun _ h9 => h9) rfl dX1_secondsOfRow_17 ?_
    refine lv_aload_n hx hb dX1_secondsOfRow_20 rfl (lv_at hl 0 rfl) ?_
    refine va_get (D := D) (ci := 0) (v := .ref (ad 10)) (C := RX1) (T := TX1) (N := 15) hx hb hts hin hown hK hP 0 rfl rfl 12 (by decide) (hts (.fieldLink RX1 45 "HandCases" "row" "[I") (by decide +kernel)) (fun _ h9 => h9) rfl dX1_secondsOfRow_21 ?_
    refine lv_iload_n hx hb dX1_secondsOfRow_24 rfl (lv_at hl 2 rfl) ?_
    have e_x := hR.2 i (by omega)
    have e_m := hx9 _ (getD_mem (L := L) (i := i) (by omega))
    refine q_iald (v := nI (L.getD i 0)) hx hb hK hP 10 0 rfl rfl i (nI_toInt (by omega)) (by omega) (congrArg nI (hR.2 i (by omega))) dX1_secondsOfRow_25 ?_
    have b_2 := b7 hI (L.getD i 0)
    refine q_iald (v := nI (σ 7 (L.getD i 0))) hx hb hK hP 6 0 rfl rfl (L.getD i 0) (nI_toInt (by omega)) (by omega) rfl dX1_secondsOfRow_26 ?_
    refine va_ti (v := .int (nI (sec (σ 7 (L.getD i 0))))) hx hb hZ.2.2.2.2.2.2.1 hS (q_vin (nI_toInt (by omega)) (by omega)) (by rw [q_clamp (nI_toInt (by omega))]; exact sec_I _) dX1_secondsOfRow_27 ?_
    refine lv_iadd hx hb dX1_secondsOfRow_28 ?_
    refine q_topi (nI ((sumN (scF σ L) i) + (sec (σ 7 (L.getD i 0))))) (nI_add (sumN (scF σ L) i) (sec (σ 7 (L.getD i 0)))) ?_
    refine lv_istore_n (lv' := [(1, .int (nI ((sumN (scF σ L) i) + (sec (σ 7 (L.getD i 0)))))), (0, .ref (ad 0)), (2, .int (nI i))]) hx hb dX1_secondsOfRow_29 rfl hl (by decide) rfl (fun ls hl => ?_)
    refine lv_iinc (v := nI (i + 1)) (lv' := [(2, .int (nI (i + 1))), (1, .int (nI ((sumN (scF σ L) i) + (sec (σ 7 (L.getD i 0)))))), (0, .ref (ad 0))]) hx hb dX1_secondsOfRow_30 hl (k := 2) rfl (nI_add i 1) (by decide) rfl (fun ls hl => ?_)
    refine lv_goto (tgt := 4) hx hb dX1_secondsOfRow_33 (by decide) ?_
    exact ih (i + 1) _ _ _ ⟨by omega, hP, hD, hS, lv_as (lv_sub hl [2, 1, 0] rfl) (lv_c rfl (lv_c (congrArg Value.int rfl) (lv_c rfl rfl)))⟩ (by omega)

set_option maxHeartbeats 4000000 in
set_option maxRecDepth 100000 in
theorem c_X1_secondsOf (l : Launch) (cI cZ : ClassId) (D : va_G) (ad pl : Nat → Nat) (tb sz : Nat) (σ γ : Sg) (cc : Nat) (hI : Inv σ) (hc : cc < 4) (hL9 : (catN (mF σ cc) (σ 5 0) ++ asL σ cc).length ≤ 250) : CtI l yX1_secondsOf wsX1_secondsOf ({ frames := 5, cells := 0, slots := 0, locals := 110 }) cI cZ D ad pl tb sz (WC cI cZ ad) (σ, γ) [.ref (ad 0), .int (nI cc)] (fun r u => ∃ γ1, u = (σ, γ1) ∧ r = nI (secL σ cc)) := by
  refine Met.ofW (cc := cX1_secondsOf) (maxL := 5) (ret := (some .int)) (by decide) rfl ?_
  intro p e s m args below meth c s₁ B hml hv
  obtain ⟨rfl, hsz, hP, hK, hD0, hZ⟩ := hv
  have hx := B.exec
  have hb := B.bytes
  have hr := B.returns
  have hts := atoms_spec (ws := wsX1_secondsOf) B.pre
  have hown : s.vm.findClass RX1 = some m.cls := findClass_of_methodNamed B.named
  have hlocks := B.notSynchronized
  have hin : ∀ w ∈ wsX10, w ∈ wsX1_secondsOf := fun w h => List.mem_cons_of_mem _ (List.mem_append_right _ h)
  subst hsz
  have hD : va_D (AC ad s.heap.size) (WC cI cZ ad (σ, γ)) := AC_self WAd_c hD0
  have hA : ∀ q : Nat, s.heap.size ≤ q → AC ad s.heap.size q := fun q h => Or.inr h
  have hS : va_S (AC ad s.heap.size) s.heap s.heap [] := va_S.rf
  have hl := lv_entry ([.ref (ad 0), .int (nI cc)]) (n := 5) (Nat.le_of_ble_eq_true rfl)
  rw [lg_entry_eq]
  generalize (lg_sl ([.ref (ad 0), .int (nI cc)]) ++ List.replicate (5 - (lg_sl ([.ref (ad 0), .int (nI cc)])).length) Slot.unset).toArray = ls at hl ⊢
  have hl : lv_has ls 5 [(0, .ref (ad 0)), (1, .int (nI cc))] := hl
  refine lv_iconst (v := 0) hx hb dX1_secondsOf_0 (by decide) ?_
  refine lv_istore_n (lv' := [(2, .int 0), (0, .ref (ad 0)), (1, .int (nI cc))]) hx hb dX1_secondsOf_1 rfl hl (by decide) rfl (fun ls hl => ?_)
  refine lv_aload_n hx hb dX1_secondsOf_2 rfl (lv_at hl 1 rfl) ?_
  refine lv_iconst (v := 0) hx hb dX1_secondsOf_3 (by decide) ?_
  refine va_put (D := D) (ci := 0) (v := .int 0) (ty := .int) (C := RX1) (T := TX1) (N := 15) hx hb hts hin tyX1 tyX1_ok nmX1 hown hK hP hD hS 0 rfl rfl 13 (by decide) (hts (.fieldLink RX1 48 "HandCases" "rowLength" "I") (by decide +kernel)) (fun _ h9 => h9) rfl (by decide +kernel) rfl rfl (Nat.le_of_ble_eq_true rfl) dX1_secondsOf_4 (fun H locs hP hD hS => ?_)
  have hP : va_P D vwCl (WC cI cZ ad (σ, setA γ 1 0 0)) H := hP
  have hD : va_D (AC ad s.heap.size) (WC cI cZ ad (σ, setA γ 1 0 0)) := hD
  refine lv_iconst (v := 0) hx hb dX1_secondsOf_7 (by decide) ?_
  refine lv_istore_n (lv' := [(3, .int 0), (2, .int 0), (0, .ref (ad 0)), (1, .int (nI cc))]) hx hb dX1_secondsOf_8 rfl hl (by decide) rfl (fun ls hl => ?_)
  refine W_loop (ι := Nat × Sg) 9 (fun (x : Nat × Sg) H locs ls => (x.1 ≤ σ 5 0) ∧ (RowIs x.2 (catN (mF σ cc) x.1)) ∧ va_P D vwCl (WC cI cZ ad (σ, x.2)) H ∧ va_D (AC ad s.heap.size) (WC cI cZ ad (σ, x.2)) ∧ va_S (AC ad s.heap.size) s.heap H locs ∧ lv_has ls 5 [(0, .ref (ad 0)), (1, .int (nI cc)), (2, .int (nI (sumN (fvF σ cc) x.1))), (3, .int (nI x.1))]) (fun (x : Nat × Sg) => σ 5 0 - x.1) ?_ (0, (setA γ 1 0 0)) _ _ _ ⟨by (try dsimp only); omega, RowIs_nil, hP, hD, hS, lv_as (lv_sub hl [2, 3, 1, 0] rfl) (lv_c rfl (lv_c rfl (lv_c (congrArg Value.int (by rfl)) (lv_c (congrArg Value.int (by rfl)) rfl))))⟩
  intro ⟨i, γ1⟩ H locs ls ⟨h1, h2, hP, hD, hS, hl⟩ ih
  dsimp only at h1 h2 hP hD hl ih
  have b_i := b5 hI
  have e_L : (catN (mF σ cc) (σ 5 0) ++ asL σ cc).length = (catN (mF σ cc) (σ 5 0)).length + (asL σ cc).length := List.length_append
  refine lv_iload_n hx hb dX1_secondsOf_9 rfl (lv_at hl 3 rfl) ?_
  refine lv_aload_n hx hb dX1_secondsOf_10 rfl (lv_at hl 0 rfl) ?_
  refine va_get (D := D) (ci := 0) (v := .int (nI (σ 5 0))) (C := RX1) (T := TX1) (N := 15) hx hb hts hin hown hK hP 0 rfl rfl 5 (by decide) (hts (.fieldLink RX1 23 "HandCases" "houses" "I") (by decide +kernel)) (fun _ h9 => h9) rfl dX1_secondsOf_11 ?_
  have b_1 := b5 hI
  refine lv_icmp_ge (tgt := 82) hx hb dX1_secondsOf_14 (by decide) (fun c_2 => ?_) (fun c_2 => ?_)
  · skip
    have c_2 := (cq_le (nI_toInt (by omega)) (nI_toInt (by omega))).mp c_2
    have e9 : catN (mF σ cc) i = catN (mF σ cc) (σ 5 0) := congrArg (catN (mF σ cc)) (by omega)
    rw [e9] at h2
    refine lv_aload_n hx hb dX1_secondsOf_82 rfl (lv_at hl 0 rfl) ?_
    refine lv_iload_n hx hb dX1_secondsOf_83 rfl (lv_at hl 1 rfl) ?_
    refine call_v (As := [.int (nI cc)]) (rest := []) WAd_c ⟨hx, hb, hml, hown, hts⟩ (c_X1_addAstray l cI cZ D ad pl tb _ σ γ1 cc (catN (mF σ cc) (σ 5 0)) hI (by omega) h2 (by omega)) (cwV 1 hts gX1_secondsOf_X1_addAstray rfl rfl rfl (by decide +kernel) ⟨Nat.le_of_ble_eq_true rfl, Nat.le_of_ble_eq_true rfl⟩) (va_recv hK hP (ci := 0) (q0 := 0) rfl rfl) hK hP hD hS hA hZ rfl rfl (Nat.le_of_ble_eq_true rfl) hl.1 dX1_secondsOf_84 ⟨Nat.zero_le _, Nat.zero_le _⟩ (fun u H locs hq hP hD hS => ?_)
    obtain ⟨γ_3, rfl, hR⟩ := hq
    refine lv_iload_n hx hb dX1_secondsOf_87 rfl (lv_at hl 2 rfl) ?_
    refine lv_aload_n hx hb dX1_secondsOf_88 rfl (lv_at hl 0 rfl) ?_
    refine call_i (As := []) (rest := [.int (nI (sumN (fvF σ cc) i))]) WAd_c ⟨hx, hb, hml, hown, hts⟩ (c_X1_secondsOfRow l cI cZ D ad pl tb _ σ γ_3 (catN (mF σ cc) (σ 5 0) ++ asL σ cc) hI hR (fun x hx => Nat.lt_of_lt_of_le (mL_mem hI hx) (b11 hI)) hL9) (cwV 0 hts gX1_secondsOf_X1_secondsOfRow rfl rfl rfl (by decide +kernel) ⟨Nat.le_of_ble_eq_true rfl, Nat.le_of_ble_eq_true rfl⟩) (va_recv hK hP (ci := 0) (q0 := 0) rfl rfl) hK hP hD hS hA hZ rfl rfl (Nat.le_of_ble_eq_true rfl) hl.1 dX1_secondsOf_89 ⟨Nat.zero_le _, Nat.zero_le _⟩ (fun r u H locs hq hP hD hS => ?_)
    obtain ⟨rfl, rfl⟩ := hq
    refine lv_iadd hx hb dX1_secondsOf_92 ?_
    refine q_topi (nI ((sumN (fvF σ cc) i) + (costL σ (catN (mF σ cc) (σ 5 0) ++ asL σ cc)))) (nI_add (sumN (fvF σ cc) i) (costL σ (catN (mF σ cc) (σ 5 0) ++ asL σ cc))) ?_
    exact ret_i (σ, γ_3) hx hb hr rfl hK hlocks hP hD hS ⟨γ_3, rfl, congrArg nI (by show sumN (fvF σ cc) i + _ = sumN (fvF σ cc) (σ 5 0) + _; rw [show i = σ 5 0 from by omega])⟩ dX1_secondsOf_93
  · skip
    have c_2 := mt (cq_le (nI_toInt (by omega)) (nI_toInt (by omega))).mpr c_2
    refine lv_aload_n hx hb dX1_secondsOf_17 rfl (lv_at hl 0 rfl) ?_
    refine va_get (D := D) (ci := 0) (v := .ref (ad 1)) (C := RX1) (T := TX1) (N := 15) hx hb hts hin hown hK hP 0 rfl rfl 1 (by decide) (hts (.fieldLink RX1 9 "HandCases" "carrierOf" "[I") (by decide +kernel)) (fun _ h9 => h9) rfl dX1_secondsOf_18 ?_
    refine lv_aload_n hx hb dX1_secondsOf_21 rfl (lv_at hl 0 rfl) ?_
    refine va_get (D := D) (ci := 0) (v := .ref (ad 4)) (C := RX1) (T := TX1) (N := 15) hx hb hts hin hown hK hP 0 rfl rfl 4 (by decide) (hts (.fieldLink RX1 20 "HandCases" "told" "[I") (by decide +kernel)) (fun _ h9 => h9) rfl dX1_secondsOf_22 ?_
    refine lv_iload_n hx hb dX1_secondsOf_25 rfl (lv_at hl 3 rfl) ?_
    have b_4 := b4 hI i
    refine q_iald (v := nI (σ 4 i)) hx hb hK hP 4 0 rfl rfl i (nI_toInt (by omega)) (by omega) rfl dX1_secondsOf_26 ?_
    have b_5 := b1 hI (σ 4 i)
    refine q_iald (v := mI (σ 1 (σ 4 i))) hx hb hK hP 1 0 rfl rfl (σ 4 i) (nI_toInt (by omega)) (by omega) rfl dX1_secondsOf_27 ?_
    refine lv_iload_n hx hb dX1_secondsOf_28 rfl (lv_at hl 1 rfl) ?_
    refine lv_icmp_ne (tgt := 76) hx hb dX1_secondsOf_29 (by decide) (fun c_6 => ?_) (fun c_6 => ?_)
    · skip
      have c_6 := mt (cq_eq (mI_toInt (by omega)) (nI_toInt (by omega))).mpr c_6
      refine lv_iinc (v := nI (i + 1)) (lv' := [(3, .int (nI (i + 1))), (0, .ref (ad 0)), (1, .int (nI cc)), (2, .int (nI (sumN (fvF σ cc) i)))]) hx hb dX1_secondsOf_76 hl (k := 3) rfl (nI_add i 1) (by decide) rfl (fun ls hl => ?_)
      refine lv_goto (tgt := 9) hx hb dX1_secondsOf_79 (by decide) ?_
      exact ih (i + 1, γ1) _ _ _ ⟨by (try dsimp only); omega, by (try dsimp only); have e9 : mF σ cc i = [] := if_neg (by omega); show RowIs _ (catN (mF σ cc) i ++ mF σ cc i); rw [e9, List.append_nil]; exact h2, hP, hD, hS, lv_as (lv_sub hl [1, 2, 3, 0] rfl) (lv_c rfl (lv_c rfl (lv_c (congrArg Value.int (congrArg nI (by have e9 : fvF σ cc i = 0 := if_neg (by omega); show _ = sumN (fvF σ cc) i + fvF σ cc i; omega))) (lv_c rfl rfl))))⟩ (by show σ 5 0 - (i + 1) < σ 5 0 - i; omega)
    · skip
      have c_6 := (cq_eq (mI_toInt (by omega)) (nI_toInt (by omega))).mp c_6
      have e_o := h2.1
      have e_c := catN_le (mF σ cc) (n := σ 5 0) (i := i) (by omega)
      refine lv_aload_n hx hb dX1_secondsOf_32 rfl (lv_at hl 0 rfl) ?_
      refine va_get (D := D) (ci := 0) (v := .int (nI (γ1 1 0))) (C := RX1) (T := TX1) (N := 15) hx hb hts hin hown hK hP 0 rfl rfl 13 (by decide) (hts (.fieldLink RX1 48 "HandCases" "rowLength" "I") (by decide +kernel)) (fun _ h9 => h9) rfl dX1_secondsOf_33 ?_
      refine lv_istore (lv' := [(4, .int (nI (γ1 1 0))), (0, .ref (ad 0)), (1, .int (nI cc)), (2, .int (nI (sumN (fvF σ cc) i))), (3, .int (nI i))]) hx hb dX1_secondsOf_36 hl (by decide) rfl (fun ls hl => ?_)
      refine lv_aload_n hx hb dX1_secondsOf_38 rfl (lv_at hl 1 rfl) ?_
      refine lv_aload_n hx hb dX1_secondsOf_39 rfl (lv_at hl 1 rfl) ?_
      refine va_get (D := D) (ci := 0) (v := .ref (ad 4)) (C := RX1) (T := TX1) (N := 15) hx hb hts hin hown hK hP 0 rfl rfl 4 (by decide) (hts (.fieldLink RX1 20 "HandCases" "told" "[I") (by decide +kernel)) (fun _ h9 => h9) rfl dX1_secondsOf_40 ?_
      refine lv_iload_n hx hb dX1_secondsOf_43 rfl (lv_at hl 4 rfl) ?_
      have b_7 := b4 hI i
      refine q_iald (v := nI (σ 4 i)) hx hb hK hP 4 0 rfl rfl i (nI_toInt (by omega)) (by omega) rfl dX1_secondsOf_44 ?_
      refine va_gets hx hb hZ.2.2.2.2.1 hS hown (hts (.fieldLink RX1 196 "HandCases$Place" "FRAME" "LHandCases$Place;") (by decide +kernel)) (fun _ h9 => h9) dX1_secondsOf_45 ?_
      refine call_v (As := [.int (nI (σ 4 i)), .ref (pl 4)]) (rest := []) WAd_c ⟨hx, hb, hml, hown, hts⟩ (c_X1_addOfHouse l cI cZ D ad pl tb _ σ γ1 (nI (σ 4 i)) (σ 4 i) 4 (catN (mF σ cc) i) hI (fun n hn => by rw [nI_toInt (by omega)]; omega) (by omega) h2 (by have e7 := catN_step (mF σ cc) (n := σ 5 0) (i := i) (by omega); rw [show mF σ cc i = _ from if_pos (by omega), List.length_append] at e7; omega)) (cwV 2 hts gX1_secondsOf_X1_addOfHouse rfl rfl rfl (by decide +kernel) ⟨Nat.le_of_ble_eq_true rfl, Nat.le_of_ble_eq_true rfl⟩) (va_recv hK hP (ci := 0) (q0 := 0) rfl rfl) hK hP hD hS hA hZ rfl rfl (Nat.le_of_ble_eq_true rfl) hl.1 dX1_secondsOf_48 ⟨Nat.zero_le _, Nat.zero_le _⟩ (fun u H locs hq hP hD hS => ?_)
      obtain ⟨γ_8, rfl, hR⟩ := hq
      refine lv_aload_n hx hb dX1_secondsOf_51 rfl (lv_at hl 1 rfl) ?_
      refine lv_aload_n hx hb dX1_secondsOf_52 rfl (lv_at hl 1 rfl) ?_
      refine va_get (D := D) (ci := 0) (v := .ref (ad 4)) (C := RX1) (T := TX1) (N := 15) hx hb hts hin hown hK hP 0 rfl rfl 4 (by decide) (hts (.fieldLink RX1 20 "HandCases" "told" "[I") (by decide +kernel)) (fun _ h9 => h9) rfl dX1_secondsOf_53 ?_
      refine lv_iload_n hx hb dX1_secondsOf_56 rfl (lv_at hl 4 rfl) ?_
      have b_9 := b4 hI i
      refine q_iald (v := nI (σ 4 i)) hx hb hK hP 4 0 rfl rfl i (nI_toInt (by omega)) (by omega) rfl dX1_secondsOf_57 ?_
      refine va_gets hx hb hZ.2.2.2.1 hS hown (hts (.fieldLink RX1 138 "HandCases$Place" "LIST" "LHandCases$Place;") (by decide +kernel)) (fun _ h9 => h9) dX1_secondsOf_58 ?_
      refine call_v (As := [.int (nI (σ 4 i)), .ref (pl 3)]) (rest := []) WAd_c ⟨hx, hb, hml, hown, hts⟩ (c_X1_addOfHouse l cI cZ D ad pl tb _ σ γ_8 (nI (σ 4 i)) (σ 4 i) 3 (catN (mF σ cc) i ++ hL σ (σ 4 i) 4) hI (fun n hn => by rw [nI_toInt (by omega)]; omega) (by omega) hR (by have e7 := catN_step (mF σ cc) (n := σ 5 0) (i := i) (by omega); rw [show mF σ cc i = _ from if_pos (by omega), List.length_append] at e7; rw [List.length_append]; omega)) (cwV 2 hts gX1_secondsOf_X1_addOfHouse rfl rfl rfl (by decide +kernel) ⟨Nat.le_of_ble_eq_true rfl, Nat.le_of_ble_eq_true rfl⟩) (va_recv hK hP (ci := 0) (q0 := 0) rfl rfl) hK hP hD hS hA hZ rfl rfl (Nat.le_of_ble_eq_true rfl) hl.1 dX1_secondsOf_61 ⟨Nat.zero_le _, Nat.zero_le _⟩ (fun u H locs hq hP hD hS => ?_)
      obtain ⟨γ_10, rfl, hR⟩ := hq
      have e_n := hR.1
      have e_o := h2.1
      rw [List.length_append, List.length_append] at e_n
      have e7 := catN_step (mF σ cc) (n := σ 5 0) (i := i) (by omega)
      rw [show mF σ cc i = _ from if_pos (by omega), List.length_append] at e7
      refine lv_aload_n hx hb dX1_secondsOf_64 rfl (lv_at hl 1 rfl) ?_
      refine va_get (D := D) (ci := 0) (v := .int (nI (γ_10 1 0))) (C := RX1) (T := TX1) (N := 15) hx hb hts hin hown hK hP 0 rfl rfl 13 (by decide) (hts (.fieldLink RX1 48 "HandCases" "rowLength" "I") (by decide +kernel)) (fun _ h9 => h9) rfl dX1_secondsOf_65 ?_
      refine lv_iload hx hb dX1_secondsOf_68 (lv_at hl 0 rfl) ?_
      refine lv_icmp_le (tgt := 76) hx hb dX1_secondsOf_70 (by decide) (fun c_11 => ?_) (fun c_11 => ?_)
      · skip
        have c_11 := (cq_le (nI_toInt (by omega)) (nI_toInt (by omega))).mp c_11
        refine lv_iinc (v := nI (i + 1)) (lv' := [(3, .int (nI (i + 1))), (4, .int (nI (γ1 1 0))), (0, .ref (ad 0)), (1, .int (nI cc)), (2, .int (nI (sumN (fvF σ cc) i)))]) hx hb dX1_secondsOf_76 hl (k := 4) rfl (nI_add i 1) (by decide) rfl (fun ls hl => ?_)
        refine lv_goto (tgt := 9) hx hb dX1_secondsOf_79 (by decide) ?_
        exact ih (i + 1, γ_10) _ _ _ ⟨by (try dsimp only); omega, by (try dsimp only); have e9 : mF σ cc i = _ := if_pos (by omega); show RowIs _ (catN (mF σ cc) i ++ mF σ cc i); rw [e9, ← List.append_assoc]; exact hR, hP, hD, hS, lv_as (lv_sub hl [2, 3, 4, 0] rfl) (lv_c rfl (lv_c rfl (lv_c (congrArg Value.int (congrArg nI (by have e9 : fvF σ cc i = 0 := if_neg (by omega); show _ = sumN (fvF σ cc) i + fvF σ cc i; omega))) (lv_c rfl rfl))))⟩ (by show σ 5 0 - (i + 1) < σ 5 0 - i; omega)
      · skip
        have c_11 := mt (cq_le (nI_toInt (by omega)) (nI_toInt (by omega))).mpr c_11
        refine lv_iinc (v := nI ((sumN (fvF σ cc) i) + 5)) (lv' := [(2, .int (nI ((sumN (fvF σ cc) i) + 5))), (4, .int (nI (γ1 1 0))), (0, .ref (ad 0)), (1, .int (nI cc)), (3, .int (nI i))]) hx hb dX1_secondsOf_73 hl (k := 3) rfl (nI_add (sumN (fvF σ cc) i) 5) (by decide) rfl (fun ls hl => ?_)
        refine lv_iinc (v := nI (i + 1)) (lv' := [(3, .int (nI (i + 1))), (2, .int (nI ((sumN (fvF σ cc) i) + 5))), (4, .int (nI (γ1 1 0))), (0, .ref (ad 0)), (1, .int (nI cc))]) hx hb dX1_secondsOf_76 hl (k := 4) rfl (nI_add i 1) (by decide) rfl (fun ls hl => ?_)
        refine lv_goto (tgt := 9) hx hb dX1_secondsOf_79 (by decide) ?_
        exact ih (i + 1, γ_10) _ _ _ ⟨by (try dsimp only); omega, by (try dsimp only); have e9 : mF σ cc i = _ := if_pos (by omega); show RowIs _ (catN (mF σ cc) i ++ mF σ cc i); rw [e9, ← List.append_assoc]; exact hR, hP, hD, hS, lv_as (lv_sub hl [3, 4, 1, 0] rfl) (lv_c rfl (lv_c rfl (lv_c (congrArg Value.int (congrArg nI (by have e9 : fvF σ cc i = 5 := if_pos (by omega); show _ = sumN (fvF σ cc) i + fvF σ cc i; omega))) (lv_c rfl rfl))))⟩ (by show σ 5 0 - (i + 1) < σ 5 0 - i; omega)

