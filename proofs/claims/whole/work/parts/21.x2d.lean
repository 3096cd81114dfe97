set_option maxHeartbeats 4000000 in
set_option maxRecDepth 100000 in
theorem c_X2_sample (l : Launch) (cI cZ : ClassId) (D : va_G) (ad pl : Nat → Nat) (tb sz : Nat) (σ δ : Sg) (w0 : Int32) (p0 p1 p2 : Int32) (hI : Inv σ) : CtI l yX2_sample wsX2_sample ({ frames := 4, cells := 0, slots := 0, locals := 86 }) cI cZ D ad pl tb sz (WM cI cZ ad) (σ, δ, w0) [.ref (ad 0), .int p0, .int p1, .int p2] (fun r u => ∃ δ1 w1, u = ((oSample σ p0 p1 p2).2, δ1, w1) ∧ r = (oSample σ p0 p1 p2).1) := by
  refine Met.ofW (cc := cX2_sample) (maxL := 9) (ret := (some .int)) (by decide) rfl ?_
  intro p e s m args below meth c s₁ B hml hv
  obtain ⟨rfl, hsz, hP, hK, hD0, hZ⟩ := hv
  have hx := B.exec
  have hb := B.bytes
  have hr := B.returns
  have hts := atoms_spec (ws := wsX2_sample) B.pre
  have hown : s.vm.findClass RX2 = some m.cls := findClass_of_methodNamed B.named
  have hlocks := B.notSynchronized
  have hin : ∀ w ∈ wsX20, w ∈ wsX2_sample := fun w h => List.mem_cons_of_mem _ (List.mem_append_right _ h)
  subst hsz
  have hD : va_D (AC ad s.heap.size) (WM cI cZ ad (σ, δ, w0)) := AC_self WAd_m hD0
  have hA : ∀ q : Nat, s.heap.size ≤ q → AC ad s.heap.size q := fun q h => Or.inr h
  have hS : va_S (AC ad s.heap.size) s.heap s.heap [] := va_S.rf
  have hl := lv_entry ([.ref (ad 0), .int p0, .int p1, .int p2]) (n := 9) (Nat.le_of_ble_eq_true rfl)
  rw [lg_entry_eq]
  generalize (lg_sl ([.ref (ad 0), .int p0, .int p1, .int p2]) ++ List.replicate (9 - (lg_sl ([.ref (ad 0), .int p0, .int p1, .int p2])).length) Slot.unset).toArray = ls at hl ⊢
  have hl : lv_has ls 9 [(0, .ref (ad 0)), (1, .int p0), (2, .int p1), (3, .int p2)] := hl
  refine lv_aload_n hx hb dX2_sample_0 rfl (lv_at hl 0 rfl) ?_
  refine lv_iconst (v := 0) hx hb dX2_sample_1 (by decide) ?_
  refine va_put (D := D) (ci := 1) (v := .int 0) (ty := .int) (C := RX2) (T := TX2) (N := 19) hx hb hts hin tyX2 tyX2_ok nmX2 hown hK hP hD hS 0 rfl rfl 1 (by decide) (hts (.fieldLink RX2 48 "HandCasesModel" "fault" "I") (by decide +kernel)) (fun _ h9 => h9) rfl (by decide +kernel) rfl rfl (Nat.le_of_ble_eq_true rfl) dX2_sample_2 (fun H locs hP hD hS => ?_)
  have hP : va_P D vwCl (WM cI cZ ad (σ, setA δ 0 0 0, w0)) H := hP
  have hD : va_D (AC ad s.heap.size) (WM cI cZ ad (σ, setA δ 0 0 0, w0)) := hD
  refine lv_iload_n hx hb dX2_sample_5 rfl (lv_at hl 3 rfl) ?_
  refine lv_iconst (v := 1) hx hb dX2_sample_6 (by decide) ?_
  refine lv_sipush (v := 1000) hx hb dX2_sample_7 (by decide) ?_
  refine call_si (As := [.int p2, .int 1, .int 1000]) (rest := []) WAd_m ⟨hx, hb, hml, hown, hts⟩ (c_X2_in l cI cZ D ad pl tb _ σ (setA δ 0 0 0) w0 p2 1 1000) (va_cwS 3 hts gX2_sample_X2_in rfl rfl rfl (by decide +kernel) ⟨Nat.le_of_ble_eq_true rfl, Nat.le_of_ble_eq_true rfl⟩) hK hP hD hS hA hZ rfl rfl (Nat.le_of_ble_eq_true rfl) hl.1 dX2_sample_10 ⟨Nat.zero_le _, Nat.zero_le _⟩ (fun r u H locs hq hP hD hS => ?_)
  obtain ⟨rfl, rfl⟩ := hq
  refine lv_if_eq (tgt := 25) hx hb dX2_sample_13 (by decide) (fun c_1 => ?_) (fun c_1 => ?_)
  · skip
    have c_1 : ¬ ((1 : Int32).toInt ≤ (p2 : Int32).toInt ∧ (p2 : Int32).toInt ≤ (1000 : Int32).toInt) := pI_0.mp c_1
    have c_1 : ¬ ((1 : Int) ≤ p2.toInt ∧ p2.toInt ≤ (1000 : Int)) := mt (in_c rfl (show (1 : Int32).toInt = (1 : Int) from by decide) (show (1000 : Int32).toInt = (1000 : Int) from by decide)).mpr c_1
    refine lv_bipush (v := (-2)) hx hb dX2_sample_25 (by decide) ?_
    have eo : oSample σ p0 p1 p2 = ((-2), σ) := by unfold oSample; repeat (first | rw [if_pos (by omega)] | rw [if_neg (by omega)])
    exact ret_i (σ, setA δ 0 0 0, w0) hx hb hr rfl hK hlocks hP hD hS ⟨setA δ 0 0 0, w0, by rw [eo], by rw [eo]⟩ dX2_sample_27
  · skip
    have c_1 : (1 : Int32).toInt ≤ (p2 : Int32).toInt ∧ (p2 : Int32).toInt ≤ (1000 : Int32).toInt := Decidable.not_not.mp (mt pI_0.mpr c_1)
    have c_1 : (1 : Int) ≤ p2.toInt ∧ p2.toInt ≤ (1000 : Int) := (in_c rfl (show (1 : Int32).toInt = (1 : Int) from by decide) (show (1000 : Int32).toInt = (1000 : Int) from by decide)).mp c_1
    refine lv_iload_n hx hb dX2_sample_16 rfl (lv_at hl 2 rfl) ?_
    refine lv_iconst (v := 0) hx hb dX2_sample_17 (by decide) ?_
    refine lv_iload_n hx hb dX2_sample_18 rfl (lv_at hl 3 rfl) ?_
    refine call_si (As := [.int p1, .int 0, .int p2]) (rest := []) WAd_m ⟨hx, hb, hml, hown, hts⟩ (c_X2_in l cI cZ D ad pl tb _ σ (setA δ 0 0 0) w0 p1 0 p2) (va_cwS 3 hts gX2_sample_X2_in rfl rfl rfl (by decide +kernel) ⟨Nat.le_of_ble_eq_true rfl, Nat.le_of_ble_eq_true rfl⟩) hK hP hD hS hA hZ rfl rfl (Nat.le_of_ble_eq_true rfl) hl.1 dX2_sample_19 ⟨Nat.zero_le _, Nat.zero_le _⟩ (fun r u H locs hq hP hD hS => ?_)
    obtain ⟨rfl, rfl⟩ := hq
    refine lv_if_ne (tgt := 28) hx hb dX2_sample_22 (by decide) (fun c_2 => ?_) (fun c_2 => ?_)
    · skip
      have c_2 : (0 : Int32).toInt ≤ (p1 : Int32).toInt ∧ (p1 : Int32).toInt ≤ (p2 : Int32).toInt := Decidable.not_not.mp (mt pI_0.mpr c_2)
      have c_2 : (0 : Int) ≤ p1.toInt ∧ p1.toInt ≤ p2.toInt := (in_c rfl (show (0 : Int32).toInt = (0 : Int) from by decide) rfl).mp c_2
      refine lv_iconst (v := 0) hx hb dX2_sample_28 (by decide) ?_
      refine lv_istore (lv' := [(4, .int 0), (0, .ref (ad 0)), (1, .int p0), (2, .int p1), (3, .int p2)]) hx hb dX2_sample_29 hl (by decide) rfl (fun ls hl => ?_)
      refine W_loop (ι := Nat × Sg) 31 (fun (x : Nat × Sg) H locs ls => (x.1 ≤ σ 11 0) ∧ (∀ j, j < x.1 → x.2 1 j = layF σ j) ∧ va_P D vwCl (WM cI cZ ad (σ, x.2, w0)) H ∧ va_D (AC ad s.heap.size) (WM cI cZ ad (σ, x.2, w0)) ∧ va_S (AC ad s.heap.size) s.heap H locs ∧ lv_has ls 9 [(0, .ref (ad 0)), (1, .int p0), (2, .int p1), (3, .int p2), (4, .int (nI x.1))]) (fun (x : Nat × Sg) => σ 11 0 - x.1) ?_ (0, (setA δ 0 0 0)) _ _ _ ⟨by (try dsimp only); omega, fun j hj => absurd hj (by omega), hP, hD, hS, lv_as (lv_sub hl [1, 2, 3, 4, 0] rfl) (lv_c rfl (lv_c rfl (lv_c rfl (lv_c rfl (lv_c (congrArg Value.int (by rfl)) rfl)))))⟩
      intro ⟨i, δ1⟩ H locs ls ⟨h1, h2, hP, hD, hS, hl⟩ ih
      dsimp only at h1 h2 hP hD hl ih
      have b_i := b11 hI
      refine lv_iload hx hb dX2_sample_31 (lv_at hl 4 rfl) ?_
      refine lv_aload_n hx hb dX2_sample_33 rfl (lv_at hl 0 rfl) ?_
      refine va_get (D := D) (ci := 1) (v := .int (nI (σ 11 0))) (C := RX2) (T := TX2) (N := 19) hx hb hts hin hown hK hP 0 rfl rfl 8 (by decide) (hts (.fieldLink RX2 55 "HandCasesModel" "items" "I") (by decide +kernel)) (fun _ h9 => h9) rfl dX2_sample_34 ?_
      have b_3 := b11 hI
      refine lv_icmp_ge (tgt := 73) hx hb dX2_sample_37 (by decide) (fun c_4 => ?_) (fun c_4 => ?_)
      · skip
        have c_4 := (cq_le (nI_toInt (by omega)) (nI_toInt (by omega))).mp c_4
        have hlay : ∀ j, j < σ 11 0 → δ1 1 j = layF σ j := fun j hj => h2 j (by omega)
        refine lv_iload_n hx hb dX2_sample_73 rfl (lv_at hl 1 rfl) ?_
        refine lv_istore (lv' := [(4, .int p0), (0, .ref (ad 0)), (1, .int p0), (2, .int p1), (3, .int p2)]) hx hb dX2_sample_74 hl (by decide) rfl (fun ls hl => ?_)
        refine lv_iconst (v := 0) hx hb dX2_sample_76 (by decide) ?_
        refine lv_istore (lv' := [(5, .int 0), (4, .int p0), (0, .ref (ad 0)), (1, .int p0), (2, .int p1), (3, .int p2)]) hx hb dX2_sample_77 hl (by decide) rfl (fun ls hl => ?_)
        refine lv_iconst (v := 0) hx hb dX2_sample_79 (by decide) ?_
        refine lv_istore (lv' := [(6, .int 0), (5, .int 0), (4, .int p0), (0, .ref (ad 0)), (1, .int p0), (2, .int p1), (3, .int p2)]) hx hb dX2_sample_80 hl (by decide) rfl (fun ls hl => ?_)
        refine W_loop (ι := Nat × Int32 × Sg × Nat) 82 (fun (x : Nat × Int32 × Sg × Nat) H locs ls => (x.1 ≤ σ 0 0) ∧ ((x.2.1, x.2.2.1, x.2.2.2) = foldS (smG σ p1 p2) (p0, σ, 0) x.1) ∧ (Inv x.2.2.1) ∧ (x.2.2.1 11 0 = σ 11 0) ∧ (x.2.2.1 0 0 = σ 0 0) ∧ va_P D vwCl (WM cI cZ ad (x.2.2.1, δ1, w0)) H ∧ va_D (AC ad s.heap.size) (WM cI cZ ad (x.2.2.1, δ1, w0)) ∧ va_S (AC ad s.heap.size) s.heap H locs ∧ lv_has ls 9 [(0, .ref (ad 0)), (1, .int p0), (2, .int p1), (3, .int p2), (4, .int x.2.1), (5, .int (nI x.2.2.2)), (6, .int (nI x.1))]) (fun (x : Nat × Int32 × Sg × Nat) => σ 0 0 - x.1) ?_ (0, p0, σ, 0) _ _ _ ⟨by (try dsimp only); omega, rfl, hI, rfl, rfl, hP, hD, hS, lv_as (lv_sub hl [3, 4, 5, 6, 2, 1, 0] rfl) (lv_c rfl (lv_c rfl (lv_c rfl (lv_c rfl (lv_c rfl (lv_c (congrArg Value.int (by rfl)) (lv_c (congrArg Value.int (by rfl)) rfl)))))))⟩
        intro ⟨g, x, σ1, n⟩ H locs ls ⟨h1, h2, h4, h5, h6, hP, hD, hS, hl⟩ ihg
        dsimp only at h1 h2 h4 h5 h6 hP hD hl ihg
        have b_0 := b0 hI
        have b_i := b11 hI
        refine lv_iload hx hb dX2_sample_82 (lv_at hl 6 rfl) ?_
        refine lv_aload_n hx hb dX2_sample_84 rfl (lv_at hl 0 rfl) ?_
        refine va_get (D := D) (ci := 1) (v := .int (nI (σ1 0 0))) (C := RX2) (T := TX2) (N := 19) hx hb hts hin hown hK hP 0 rfl rfl 0 (by decide) (hts (.fieldLink RX2 44 "HandCasesModel" "holes" "I") (by decide +kernel)) (fun _ h9 => h9) rfl dX2_sample_85 ?_
        have b_5 := b0 h4
        refine lv_icmp_ge (tgt := 213) hx hb dX2_sample_88 (by decide) (fun c_6 => ?_) (fun c_6 => ?_)
        · skip
          have c_6 := (cq_le (nI_toInt (by omega)) (nI_toInt (by omega))).mp c_6
          refine lv_iload hx hb dX2_sample_213 (lv_at hl 5 rfl) ?_
          have eo : oSample σ p0 p1 p2 = (nI n, σ1) := by unfold oSample; rw [if_neg (by omega)]; have e9 : smT σ p0 p1 p2 = (x, σ1, n) := (by rw [h2]; exact congrArg (foldS (smG σ p1 p2) (p0, σ, 0)) (by omega)); rw [e9]
          exact ret_i (σ1, δ1, w0) hx hb hr rfl hK hlocks hP hD hS ⟨δ1, w0, by rw [eo], by rw [eo]⟩ dX2_sample_215
        · skip
          have c_6 := mt (cq_le (nI_toInt (by omega)) (nI_toInt (by omega))).mpr c_6
          refine lv_iconst (v := 0) hx hb dX2_sample_91 (by decide) ?_
          refine lv_istore (lv' := [(7, .int 0), (0, .ref (ad 0)), (1, .int p0), (2, .int p1), (3, .int p2), (4, .int x), (5, .int (nI n)), (6, .int (nI g))]) hx hb dX2_sample_92 hl (by decide) rfl (fun ls hl => ?_)
          refine W_loop (ι := Nat × Int32 × Sg × Nat) 94 (fun (x : Nat × Int32 × Sg × Nat) H locs ls => (x.1 ≤ σ 11 0) ∧ ((x.2.1, x.2.2.1, x.2.2.2) = foldS (smI (layF σ) g p1 p2) (foldS (smG σ p1 p2) (p0, σ, 0) g) x.1) ∧ (Inv x.2.2.1) ∧ (x.2.2.1 11 0 = σ 11 0) ∧ (x.2.2.1 0 0 = σ 0 0) ∧ va_P D vwCl (WM cI cZ ad (x.2.2.1, δ1, w0)) H ∧ va_D (AC ad s.heap.size) (WM cI cZ ad (x.2.2.1, δ1, w0)) ∧ va_S (AC ad s.heap.size) s.heap H locs ∧ lv_has ls 9 [(0, .ref (ad 0)), (1, .int p0), (2, .int p1), (3, .int p2), (4, .int x.2.1), (5, .int (nI x.2.2.2)), (6, .int (nI g)), (7, .int (nI x.1))]) (fun (x : Nat × Int32 × Sg × Nat) => σ 11 0 - x.1) ?_ (0, x, σ1, n) _ _ _ ⟨by (try dsimp only); omega, h2, h4, h5, h6, hP, hD, hS, lv_as (lv_sub hl [1, 2, 3, 4, 5, 6, 7, 0] rfl) (lv_c rfl (lv_c rfl (lv_c rfl (lv_c rfl (lv_c rfl (lv_c rfl (lv_c rfl (lv_c (congrArg Value.int (by rfl)) rfl))))))))⟩
          intro ⟨i, x2, σ2, n2⟩ H locs ls ⟨h7, h8, h9, h10, h11, hP, hD, hS, hl⟩ ihi
          dsimp only at h7 h8 h9 h10 h11 hP hD hl ihi
          have b_0 := b0 hI
          have b_i := b11 hI
          refine lv_iload hx hb dX2_sample_94 (lv_at hl 7 rfl) ?_
          refine lv_aload_n hx hb dX2_sample_96 rfl (lv_at hl 0 rfl) ?_
          refine va_get (D := D) (ci := 1) (v := .int (nI (σ2 11 0))) (C := RX2) (T := TX2) (N := 19) hx hb hts hin hown hK hP 0 rfl rfl 8 (by decide) (hts (.fieldLink RX2 55 "HandCasesModel" "items" "I") (by decide +kernel)) (fun _ h9 => h9) rfl dX2_sample_97 ?_
          have b_7 := b11 h9
          refine lv_icmp_ge (tgt := 207) hx hb dX2_sample_100 (by decide) (fun c_8 => ?_) (fun c_8 => ?_)
          · skip
            have c_8 := (cq_le (nI_toInt (by omega)) (nI_toInt (by omega))).mp c_8
            refine lv_iinc (v := nI (g + 1)) (lv' := [(6, .int (nI (g + 1))), (0, .ref (ad 0)), (1, .int p0), (2, .int p1), (3, .int p2), (4, .int x2), (5, .int (nI n2)), (7, .int (nI i))]) hx hb dX2_sample_207 hl (k := 6) rfl (nI_add g 1) (by decide) rfl (fun ls hl => ?_)
            refine lv_goto (tgt := 82) hx hb dX2_sample_210 (by decide) ?_
            exact ihg (g + 1, x2, σ2, n2) _ _ _ ⟨by (try dsimp only); omega, by (try dsimp only); rw [h8]; exact congrArg (foldS (smI (layF σ) g p1 p2) (foldS (smG σ p1 p2) (p0, σ, 0) g)) (by omega), h9, h10, h11, hP, hD, hS, lv_sub hl [1, 2, 3, 4, 5, 6, 0] rfl⟩ (by show σ 0 0 - (g + 1) < σ 0 0 - g; omega)
          · skip
            have c_8 := mt (cq_le (nI_toInt (by omega)) (nI_toInt (by omega))).mpr c_8
            refine lv_aload_n hx hb dX2_sample_103 rfl (lv_at hl 0 rfl) ?_
            refine va_get (D := D) (ci := 1) (v := .ref (ad 11)) (C := RX2) (T := TX2) (N := 19) hx hb hts hin hown hK hP 0 rfl rfl 14 (by decide) (hts (.fieldLink RX2 41 "HandCasesModel" "lay" "[I") (by decide +kernel)) (fun _ h9 => h9) rfl dX2_sample_104 ?_
            refine lv_iload hx hb dX2_sample_107 (lv_at hl 7 rfl) ?_
            have b_y := layF_le hI i
            refine q_iald (v := mI (layF σ i)) hx hb hK hP 11 0 rfl rfl i (nI_toInt (by omega)) (by omega) (congrArg mI (hlay i (by omega))) dX2_sample_109 ?_
            refine lv_iload hx hb dX2_sample_110 (lv_at hl 6 rfl) ?_
            refine lv_icmp_eq (tgt := 118) hx hb dX2_sample_112 (by decide) (fun c_9 => ?_) (fun c_9 => ?_)
            · skip
              have c_9 := (cq_eq (mI_toInt (by omega)) (nI_toInt (by omega))).mp c_9
              have f_h := I_nh h9 (h := σ2 6 i) (b6 h9 i)
              refine lv_iload hx hb dX2_sample_118 (lv_at hl 4 rfl) ?_
              refine lv_ldc hx hb hown (hts (.constant RX2 78 (1103515245)) (by decide +kernel)) dX2_sample_120 ?_
              refine lv_imul hx hb dX2_sample_122 ?_
              refine lv_sipush (v := 12345) hx hb dX2_sample_123 (by decide) ?_
              refine lv_iadd hx hb dX2_sample_126 ?_
              refine q_topi (smX x2) rfl ?_
              refine lv_istore (lv' := [(4, .int (smX x2)), (0, .ref (ad 0)), (1, .int p0), (2, .int p1), (3, .int p2), (5, .int (nI n2)), (6, .int (nI g)), (7, .int (nI i))]) hx hb dX2_sample_127 hl (by decide) rfl (fun ls hl => ?_)
              refine lv_iload hx hb dX2_sample_129 (lv_at hl 0 rfl) ?_
              refine lv_bipush (v := 16) hx hb dX2_sample_131 (by decide) ?_
              refine lv_iushr (v := smU (smX x2)) hx hb dX2_sample_133 rfl ?_
              refine lv_iload_n hx hb dX2_sample_134 rfl (lv_at hl 4 rfl) ?_
              refine lv_irem hx hb dX2_sample_135 (fun q9 => by have e9 : p2.toInt = 0 := (by rw [q9]; rfl); omega) ?_
              refine lv_iload_n hx hb dX2_sample_136 rfl (lv_at hl 3 rfl) ?_
              refine lv_icmp_ge (tgt := 144) hx hb dX2_sample_137 (by decide) (fun c_10 => ?_) (fun c_10 => ?_)
              · skip
                have c_10 := (cq_le rfl rfl).mp c_10
                have hdr : ¬ ((smU (smX x2) - smU (smX x2) / p2 * p2).toInt < p1.toInt) := Int.not_lt.mpr c_10
                refine lv_iconst (v := 0) hx hb dX2_sample_144 (by decide) ?_
                refine lv_istore (lv' := [(8, .int 0), (4, .int (smX x2)), (0, .ref (ad 0)), (1, .int p0), (2, .int p1), (3, .int p2), (5, .int (nI n2)), (6, .int (nI g)), (7, .int (nI i))]) hx hb dX2_sample_145 hl (by decide) rfl (fun ls hl => ?_)
                refine lv_iload hx hb dX2_sample_147 (lv_at hl 0 rfl) ?_
                refine lv_if_eq (tgt := 201) hx hb dX2_sample_149 (by decide) (fun c_11 => ?_) (fun c_11 => ?_)
                · skip
                  have c_11 := (cq_eq (show (0 : Int32).toInt = (0 : Int) from by decide) (show (0 : Int32).toInt = (0 : Int) from by decide)).mp c_11
                  refine lv_iinc (v := nI (i + 1)) (lv' := [(7, .int (nI (i + 1))), (8, .int 0), (4, .int (smX x2)), (0, .ref (ad 0)), (1, .int p0), (2, .int p1), (3, .int p2), (5, .int (nI n2)), (6, .int (nI g))]) hx hb dX2_sample_201 hl (k := 8) rfl (nI_add i 1) (by decide) rfl (fun ls hl => ?_)
                  refine lv_goto (tgt := 94) hx hb dX2_sample_204 (by decide) ?_
                  exact ihi (i + 1, smX x2, σ2, n2) _ _ _ ⟨by (try dsimp only); omega, by (try dsimp only); show _ = smI (layF σ) g p1 p2 (foldS (smI (layF σ) g p1 p2) (foldS (smG σ p1 p2) (p0, σ, 0) g) i) i; rw [← h8]; unfold smI; dsimp only; rw [if_pos (by omega), if_neg (fun q9 => hdr q9.1)], h9, h10, h11, hP, hD, hS, lv_sub hl [3, 4, 5, 6, 2, 7, 8, 0] rfl⟩ (by show σ 11 0 - (i + 1) < σ 11 0 - i; omega)
                · skip
                  have c_11 := mt (cq_eq (show (0 : Int32).toInt = (0 : Int) from by decide) (show (0 : Int32).toInt = (0 : Int) from by decide)).mpr c_11
                  exfalso; omega
              · skip
                have c_10 := mt (cq_le rfl rfl).mpr c_10
                have hdr : (smU (smX x2) - smU (smX x2) / p2 * p2).toInt < p1.toInt := Int.not_le.mp c_10
                refine lv_iconst (v := 1) hx hb dX2_sample_140 (by decide) ?_
                refine lv_goto (tgt := 145) hx hb dX2_sample_141 (by decide) ?_
                refine lv_istore (lv' := [(8, .int 1), (4, .int (smX x2)), (0, .ref (ad 0)), (1, .int p0), (2, .int p1), (3, .int p2), (5, .int (nI n2)), (6, .int (nI g)), (7, .int (nI i))]) hx hb dX2_sample_145 hl (by decide) rfl (fun ls hl => ?_)
                refine lv_iload hx hb dX2_sample_147 (lv_at hl 0 rfl) ?_
                refine lv_if_eq (tgt := 201) hx hb dX2_sample_149 (by decide) (fun c_12 => ?_) (fun c_12 => ?_)
                · skip
                  have c_12 := (cq_eq (show (1 : Int32).toInt = (1 : Int) from by decide) (show (0 : Int32).toInt = (0 : Int) from by decide)).mp c_12
                  exfalso; omega
                · skip
                  have c_12 := mt (cq_eq (show (1 : Int32).toInt = (1 : Int) from by decide) (show (0 : Int32).toInt = (0 : Int) from by decide)).mpr c_12
                  refine lv_aload_n hx hb dX2_sample_152 rfl (lv_at hl 2 rfl) ?_
                  refine lv_iload hx hb dX2_sample_153 (lv_at hl 8 rfl) ?_
                  refine call_i (As := [.int (nI i)]) (rest := []) WAd_m ⟨hx, hb, hml, hown, hts⟩ (c_X2_isWrong l cI cZ D ad pl tb _ σ2 δ1 w0 i h9 (by omega)) (cwV 1 hts gX2_sample_X2_isWrong rfl rfl rfl (by decide +kernel) ⟨Nat.le_of_ble_eq_true rfl, Nat.le_of_ble_eq_true rfl⟩) (va_recv hK hP (ci := 1) (q0 := 0) rfl rfl) hK hP hD hS hA hZ rfl rfl (Nat.le_of_ble_eq_true rfl) hl.1 dX2_sample_155 ⟨Nat.zero_le _, Nat.zero_le _⟩ (fun r u H locs hq hP hD hS => ?_)
                  obtain ⟨rfl, rfl⟩ := hq
                  refine lv_if_eq (tgt := 201) hx hb dX2_sample_158 (by decide) (fun c_13 => ?_) (fun c_13 => ?_)
                  · skip
                    have c_13 : ¬ (hol σ2 i ≠ 0 ∧ hol σ2 i ≠ σ2 2 (σ2 6 i)) := pI_0.mp c_13
                    refine lv_iinc (v := nI (i + 1)) (lv' := [(7, .int (nI (i + 1))), (8, .int 1), (4, .int (smX x2)), (0, .ref (ad 0)), (1, .int p0), (2, .int p1), (3, .int p2), (5, .int (nI n2)), (6, .int (nI g))]) hx hb dX2_sample_201 hl (k := 8) rfl (nI_add i 1) (by decide) rfl (fun ls hl => ?_)
                    refine lv_goto (tgt := 94) hx hb dX2_sample_204 (by decide) ?_
                    exact ihi (i + 1, smX x2, σ2, n2) _ _ _ ⟨by (try dsimp only); omega, by (try dsimp only); show _ = smI (layF σ) g p1 p2 (foldS (smI (layF σ) g p1 p2) (foldS (smG σ p1 p2) (p0, σ, 0) g) i) i; rw [← h8]; unfold smI; dsimp only; rw [if_pos (by omega), if_neg (fun q9 => by have q8 := q9.2; omega)], h9, h10, h11, hP, hD, hS, lv_sub hl [3, 4, 5, 6, 2, 7, 8, 0] rfl⟩ (by show σ 11 0 - (i + 1) < σ 11 0 - i; omega)
                  · skip
                    have c_13 : hol σ2 i ≠ 0 ∧ hol σ2 i ≠ σ2 2 (σ2 6 i) := Decidable.not_not.mp (mt pI_0.mpr c_13)
                    refine lv_aload_n hx hb dX2_sample_161 rfl (lv_at hl 2 rfl) ?_
                    refine lv_aload_n hx hb dX2_sample_162 rfl (lv_at hl 2 rfl) ?_
                    refine va_get (D := D) (ci := 1) (v := .ref (ad 6)) (C := RX2) (T := TX2) (N := 19) hx hb hts hin hown hK hP 0 rfl rfl 9 (by decide) (hts (.fieldLink RX2 26 "HandCasesModel" "number" "[I") (by decide +kernel)) (fun _ h9 => h9) rfl dX2_sample_163 ?_
                    refine lv_iload hx hb dX2_sample_166 (lv_at hl 8 rfl) ?_
                    have b_14 := b6 h9 i
                    refine q_iald (v := nI (σ2 6 i)) hx hb hK hP 6 0 rfl rfl i (nI_toInt (by omega)) (by omega) rfl dX2_sample_168 ?_
                    refine call_i (As := [.int (nI (σ2 6 i))]) (rest := []) WAd_m ⟨hx, hb, hml, hown, hts⟩ (c_X2_isHouse l cI cZ D ad pl tb _ σ2 δ1 w0 (nI (σ2 6 i)) h9) (cwV 1 hts gX2_sample_X2_isHouse rfl rfl rfl (by decide +kernel) ⟨Nat.le_of_ble_eq_true rfl, Nat.le_of_ble_eq_true rfl⟩) (va_recv hK hP (ci := 1) (q0 := 0) rfl rfl) hK hP hD hS hA hZ rfl rfl (Nat.le_of_ble_eq_true rfl) hl.1 dX2_sample_169 ⟨Nat.zero_le _, Nat.zero_le _⟩ (fun r u H locs hq hP hD hS => ?_)
                    obtain ⟨rfl, rfl⟩ := hq
                    refine lv_if_eq (tgt := 201) hx hb dX2_sample_172 (by decide) (fun c_15 => ?_) (fun c_15 => ?_)
                    · skip
                      have c_15 : ¬ (0 ≤ (nI (σ2 6 i)).toInt ∧ (nI (σ2 6 i)).toInt < 200 ∧ σ2 1 (nI (σ2 6 i)).toInt.toNat ≠ 0) := pI_0.mp c_15
                      have c_15 : ¬ (σ2 1 (σ2 6 i) ≠ 0) := mt (isH_n (by omega)).mpr c_15
                      refine lv_iinc (v := nI (i + 1)) (lv' := [(7, .int (nI (i + 1))), (8, .int 1), (4, .int (smX x2)), (0, .ref (ad 0)), (1, .int p0), (2, .int p1), (3, .int p2), (5, .int (nI n2)), (6, .int (nI g))]) hx hb dX2_sample_201 hl (k := 8) rfl (nI_add i 1) (by decide) rfl (fun ls hl => ?_)
                      refine lv_goto (tgt := 94) hx hb dX2_sample_204 (by decide) ?_
                      exact ihi (i + 1, smX x2, σ2, n2) _ _ _ ⟨by (try dsimp only); omega, by (try dsimp only); show _ = smI (layF σ) g p1 p2 (foldS (smI (layF σ) g p1 p2) (foldS (smG σ p1 p2) (p0, σ, 0) g) i) i; rw [← h8]; unfold smI; dsimp only; rw [if_pos (by omega), if_neg (fun q9 => by have q8 := q9.2; omega)], h9, h10, h11, hP, hD, hS, lv_sub hl [3, 4, 5, 6, 2, 7, 8, 0] rfl⟩ (by show σ 11 0 - (i + 1) < σ 11 0 - i; omega)
                    · skip
                      have c_15 : 0 ≤ (nI (σ2 6 i)).toInt ∧ (nI (σ2 6 i)).toInt < 200 ∧ σ2 1 (nI (σ2 6 i)).toInt.toNat ≠ 0 := Decidable.not_not.mp (mt pI_0.mpr c_15)
                      have c_15 : σ2 1 (σ2 6 i) ≠ 0 := (isH_n (by omega)).mp c_15
                      refine lv_aload_n hx hb dX2_sample_175 rfl (lv_at hl 2 rfl) ?_
                      refine va_get (D := D) (ci := 1) (v := .ref (ad 2)) (C := RX2) (T := TX2) (N := 19) hx hb hts hin hown hK hP 0 rfl rfl 4 (by decide) (hts (.fieldLink RX2 13 "HandCasesModel" "holeOf" "[I") (by decide +kernel)) (fun _ h9 => h9) rfl dX2_sample_176 ?_
                      refine lv_aload_n hx hb dX2_sample_179 rfl (lv_at hl 2 rfl) ?_
                      refine va_get (D := D) (ci := 1) (v := .ref (ad 6)) (C := RX2) (T := TX2) (N := 19) hx hb hts hin hown hK hP 0 rfl rfl 9 (by decide) (hts (.fieldLink RX2 26 "HandCasesModel" "number" "[I") (by decide +kernel)) (fun _ h9 => h9) rfl dX2_sample_180 ?_
                      refine lv_iload hx hb dX2_sample_183 (lv_at hl 8 rfl) ?_
                      have b_16 := b6 h9 i
                      refine q_iald (v := nI (σ2 6 i)) hx hb hK hP 6 0 rfl rfl i (nI_toInt (by omega)) (by omega) rfl dX2_sample_185 ?_
                      have b_17 := b2 h9 (σ2 6 i)
                      refine q_iald (v := mI (σ2 2 (σ2 6 i))) hx hb hK hP 2 0 rfl rfl (σ2 6 i) (nI_toInt (by omega)) (by omega) rfl dX2_sample_186 ?_
                      refine lv_if_lt (tgt := 201) hx hb dX2_sample_187 (by decide) (fun c_18 => ?_) (fun c_18 => ?_)
                      · skip
                        have c_18 := (cq_lt (mI_toInt (by omega)) (show (0 : Int32).toInt = (0 : Int) from by decide)).mp c_18
                        refine lv_iinc (v := nI (i + 1)) (lv' := [(7, .int (nI (i + 1))), (8, .int 1), (4, .int (smX x2)), (0, .ref (ad 0)), (1, .int p0), (2, .int p1), (3, .int p2), (5, .int (nI n2)), (6, .int (nI g))]) hx hb dX2_sample_201 hl (k := 8) rfl (nI_add i 1) (by decide) rfl (fun ls hl => ?_)
                        refine lv_goto (tgt := 94) hx hb dX2_sample_204 (by decide) ?_
                        exact ihi (i + 1, smX x2, σ2, n2) _ _ _ ⟨by (try dsimp only); omega, by (try dsimp only); show _ = smI (layF σ) g p1 p2 (foldS (smI (layF σ) g p1 p2) (foldS (smG σ p1 p2) (p0, σ, 0) g) i) i; rw [← h8]; unfold smI; dsimp only; rw [if_pos (by omega), if_neg (fun q9 => by have q8 := q9.2; omega)], h9, h10, h11, hP, hD, hS, lv_sub hl [3, 4, 5, 6, 2, 7, 8, 0] rfl⟩ (by show σ 11 0 - (i + 1) < σ 11 0 - i; omega)
                      · skip
                        have c_18 := mt (cq_lt (mI_toInt (by omega)) (show (0 : Int32).toInt = (0 : Int) from by decide)).mpr c_18
                        refine lv_aload_n hx hb dX2_sample_190 rfl (lv_at hl 2 rfl) ?_
                        refine va_get (D := D) (ci := 1) (v := .ref (ad 8)) (C := RX2) (T := TX2) (N := 19) hx hb hts hin hown hK hP 0 rfl rfl 11 (by decide) (hts (.fieldLink RX2 32 "HandCasesModel" "told" "[I") (by decide +kernel)) (fun _ h9 => h9) rfl dX2_sample_191 ?_
                        refine lv_iload hx hb dX2_sample_194 (lv_at hl 8 rfl) ?_
                        refine lv_iconst (v := (-1)) hx hb dX2_sample_196 (by decide) ?_
                        refine q_iast (ws2 := WM cI cZ ad (setA σ2 8 i 0, δ1, w0)) hx hb hK hP hD hS 8 0 rfl rfl i (nI_toInt (by omega)) (by omega) (by rw [show ((-1) : Int32) = mI 0 from by decide]; exact updM) rfl dX2_sample_197 (fun H locs hP hD hS => ?_)
                        have hP : va_P D vwCl (WM cI cZ ad (uHome σ2 i, δ1, w0)) H := hP
                        have hD : va_D (AC ad s.heap.size) (WM cI cZ ad (uHome σ2 i, δ1, w0)) := hD
                        refine lv_iinc (v := nI (n2 + 1)) (lv' := [(5, .int (nI (n2 + 1))), (8, .int 1), (4, .int (smX x2)), (0, .ref (ad 0)), (1, .int p0), (2, .int p1), (3, .int p2), (6, .int (nI g)), (7, .int (nI i))]) hx hb dX2_sample_198 hl (k := 6) rfl (nI_add n2 1) (by decide) rfl (fun ls hl => ?_)
                        refine lv_iinc (v := nI (i + 1)) (lv' := [(7, .int (nI (i + 1))), (5, .int (nI (n2 + 1))), (8, .int 1), (4, .int (smX x2)), (0, .ref (ad 0)), (1, .int p0), (2, .int p1), (3, .int p2), (6, .int (nI g))]) hx hb dX2_sample_201 hl (k := 8) rfl (nI_add i 1) (by decide) rfl (fun ls hl => ?_)
                        refine lv_goto (tgt := 94) hx hb dX2_sample_204 (by decide) ?_
                        exact ihi (i + 1, smX x2, uHome σ2 i, n2 + 1) _ _ _ ⟨by (try dsimp only); omega, by (try dsimp only); show _ = smI (layF σ) g p1 p2 (foldS (smI (layF σ) g p1 p2) (foldS (smG σ p1 p2) (p0, σ, 0) g) i) i; rw [← h8]; unfold smI; dsimp only; rw [if_pos (by omega), if_pos ⟨hdr, by omega⟩], I_home h9, h10, h11, hP, hD, hS, lv_sub hl [4, 5, 6, 7, 3, 1, 8, 0] rfl⟩ (by show σ 11 0 - (i + 1) < σ 11 0 - i; omega)
            · skip
              have c_9 := mt (cq_eq (mI_toInt (by omega)) (nI_toInt (by omega))).mpr c_9
              refine lv_goto (tgt := 201) hx hb dX2_sample_115 (by decide) ?_
              refine lv_iinc (v := nI (i + 1)) (lv' := [(7, .int (nI (i + 1))), (0, .ref (ad 0)), (1, .int p0), (2, .int p1), (3, .int p2), (4, .int x2), (5, .int (nI n2)), (6, .int (nI g))]) hx hb dX2_sample_201 hl (k := 7) rfl (nI_add i 1) (by decide) rfl (fun ls hl => ?_)
              refine lv_goto (tgt := 94) hx hb dX2_sample_204 (by decide) ?_
              exact ihi (i + 1, x2, σ2, n2) _ _ _ ⟨by (try dsimp only); omega, by (try dsimp only); show _ = smI (layF σ) g p1 p2 (foldS (smI (layF σ) g p1 p2) (foldS (smG σ p1 p2) (p0, σ, 0) g) i) i; rw [← h8]; unfold smI; dsimp only; rw [if_neg (by omega)], h9, h10, h11, hP, hD, hS, lv_sub hl [1, 2, 3, 4, 5, 6, 7, 0] rfl⟩ (by show σ 11 0 - (i + 1) < σ 11 0 - i; omega)
      · skip
        have c_4 := mt (cq_le (nI_toInt (by omega)) (nI_toInt (by omega))).mpr c_4
        refine lv_aload_n hx hb dX2_sample_40 rfl (lv_at hl 0 rfl) ?_
        refine va_get (D := D) (ci := 1) (v := .ref (ad 11)) (C := RX2) (T := TX2) (N := 19) hx hb hts hin hown hK hP 0 rfl rfl 14 (by decide) (hts (.fieldLink RX2 41 "HandCasesModel" "lay" "[I") (by decide +kernel)) (fun _ h9 => h9) rfl dX2_sample_41 ?_
        refine lv_iload hx hb dX2_sample_44 (lv_at hl 4 rfl) ?_
        refine lv_aload_n hx hb dX2_sample_46 rfl (lv_at hl 0 rfl) ?_
        refine va_get (D := D) (ci := 1) (v := .ref (ad 10)) (C := RX2) (T := TX2) (N := 19) hx hb hts hin hown hK hP 0 rfl rfl 13 (by decide) (hts (.fieldLink RX2 38 "HandCasesModel" "before" "[I") (by decide +kernel)) (fun _ h9 => h9) rfl dX2_sample_47 ?_
        refine lv_iload hx hb dX2_sample_50 (lv_at hl 4 rfl) ?_
        have b_19 := b9 hI i
        refine q_iald (v := mI (σ 9 i)) hx hb hK hP 10 0 rfl rfl i (nI_toInt (by omega)) (by omega) rfl dX2_sample_52 ?_
        refine lv_if_ge (tgt := 65) hx hb dX2_sample_53 (by decide) (fun c_20 => ?_) (fun c_20 => ?_)
        · skip
          have c_20 := (cq_le (show (0 : Int32).toInt = (0 : Int) from by decide) (mI_toInt (by omega))).mp c_20
          refine lv_iconst (v := (-1)) hx hb dX2_sample_65 (by decide) ?_
          refine q_iast (ws2 := WM cI cZ ad (σ, setA δ1 1 i 0, w0)) hx hb hK hP hD hS 11 0 rfl rfl i (nI_toInt (by omega)) (by omega) (by rw [show ((-1) : Int32) = mI 0 from by decide]; exact updM) rfl dX2_sample_66 (fun H locs hP hD hS => ?_)
          refine lv_iinc (v := nI (i + 1)) (lv' := [(4, .int (nI (i + 1))), (0, .ref (ad 0)), (1, .int p0), (2, .int p1), (3, .int p2)]) hx hb dX2_sample_67 hl (k := 4) rfl (nI_add i 1) (by decide) rfl (fun ls hl => ?_)
          refine lv_goto (tgt := 31) hx hb dX2_sample_70 (by decide) ?_
          exact ih (i + 1, setA δ1 1 i 0) _ _ _ ⟨by (try dsimp only); omega, lay_put1 h2 (show 0 = layF σ i from (if_neg (by omega)).symm), hP, hD, hS, lv_sub hl [1, 2, 3, 4, 0] rfl⟩ (by show σ 11 0 - (i + 1) < σ 11 0 - i; omega)
        · skip
          have c_20 := mt (cq_le (show (0 : Int32).toInt = (0 : Int) from by decide) (mI_toInt (by omega))).mpr c_20
          refine lv_aload_n hx hb dX2_sample_56 rfl (lv_at hl 0 rfl) ?_
          refine lv_iload hx hb dX2_sample_57 (lv_at hl 4 rfl) ?_
          refine call_i (As := [.int (nI i)]) (rest := [.int (nI i), .ref (ad 11)]) WAd_m ⟨hx, hb, hml, hown, hts⟩ (c_X2_holeOfLeader l cI cZ D ad pl tb _ σ δ1 w0 i hI (by omega)) (cwV 1 hts gX2_sample_X2_holeOfLeader rfl rfl rfl (by decide +kernel) ⟨Nat.le_of_ble_eq_true rfl, Nat.le_of_ble_eq_true rfl⟩) (va_recv hK hP (ci := 1) (q0 := 0) rfl rfl) hK hP hD hS hA hZ rfl rfl (Nat.le_of_ble_eq_true rfl) hl.1 dX2_sample_59 ⟨Nat.zero_le _, Nat.zero_le _⟩ (fun r u H locs hq hP hD hS => ?_)
          obtain ⟨rfl, rfl⟩ := hq
          have b_21 := hol_le hI i
          refine lv_goto (tgt := 66) hx hb dX2_sample_62 (by decide) ?_
          refine q_iast (ws2 := WM cI cZ ad (σ, setA δ1 1 i (hol σ i), w0)) hx hb hK hP hD hS 11 0 rfl rfl i (nI_toInt (by omega)) (by omega) updM rfl dX2_sample_66 (fun H locs hP hD hS => ?_)
          refine lv_iinc (v := nI (i + 1)) (lv' := [(4, .int (nI (i + 1))), (0, .ref (ad 0)), (1, .int p0), (2, .int p1), (3, .int p2)]) hx hb dX2_sample_67 hl (k := 4) rfl (nI_add i 1) (by decide) rfl (fun ls hl => ?_)
          refine lv_goto (tgt := 31) hx hb dX2_sample_70 (by decide) ?_
          exact ih (i + 1, setA δ1 1 i (hol σ i)) _ _ _ ⟨by (try dsimp only); omega, lay_put1 h2 (show hol σ i = layF σ i from (if_pos (by omega)).symm), hP, hD, hS, lv_sub hl [1, 2, 3, 4, 0] rfl⟩ (by show σ 11 0 - (i + 1) < σ 11 0 - i; omega)
    · skip
      have c_2 : ¬ ((0 : Int32).toInt ≤ (p1 : Int32).toInt ∧ (p1 : Int32).toInt ≤ (p2 : Int32).toInt) := pI_0.mp c_2
      have c_2 : ¬ ((0 : Int) ≤ p1.toInt ∧ p1.toInt ≤ p2.toInt) := mt (in_c rfl (show (0 : Int32).toInt = (0 : Int) from by decide) rfl).mpr c_2
      refine lv_bipush (v := (-2)) hx hb dX2_sample_25 (by decide) ?_
      have eo : oSample σ p0 p1 p2 = ((-2), σ) := by unfold oSample; repeat (first | rw [if_pos (by omega)] | rw [if_neg (by omega)])
      exact ret_i (σ, setA δ 0 0 0, w0) hx hb hr rfl hK hlocks hP hD hS ⟨setA δ 0 0 0, w0, by rw [eo], by rw [eo]⟩ dX2_sample_27

