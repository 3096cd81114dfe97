set_option maxHeartbeats 4000000 in
set_option maxRecDepth 100000 in
/-- from the entry, for every script of at most 2049 ints, the law comes to its end with true -/
theorem whole_start {p : Program} {e : Env} {s : State} {m : MethodId} {below : List Frame} {meth : Method} {c : Code} (l : Launch) (hflags : l.flags = flags0) {b L : Nat} {xs : Nat → Int32} (hL : L ≤ 2049) (C0 : lw_At p s m meth c b L xs) : W p l e room_1 s m #[Value.ref b] below meth c s.heap [] 0 0 (lw_Z below #[Value.ref b] s) (entryFrame m ([Value.ref b] : List Value).toArray 7) := by
  obtain ⟨hx, hb, hr, hml, hown, hts0, hX0, hbl, hlocks, hgv⟩ := id C0
  have hl0 : l.stackTraces = false := by unfold Launch.stackTraces; rw [hflags]; decide +kernel
  have hts : ∀ w ∈ wsL_law, w.before #[Value.ref b] s = true := fun w h => hts0 w (wsL_law_in w h)
  have hA : ∀ q : Nat, s.heap.size ≤ q → (fun q : Nat => s.heap.size ≤ q) q := fun _ h => h
  have hbA : ¬ (fun q : Nat => s.heap.size ≤ q) b := Nat.not_le.mpr hbl
  obtain ⟨pl, tb, hZ⟩ := law_ST hts0 hgv
  obtain ⟨⟨sa, hSX⟩, hNc⟩ := law_SX hts0 hgv
  obtain ⟨c0, iS0, hKn0⟩ := u_known (C := RX1) (T := TX1) (N := 15) (n := 15) hts inlX1 (hts (.instantiable RX1 15) (by decide +kernel))
  obtain ⟨c1, iS1, hKn1⟩ := u_known (C := RX2) (T := TX2) (N := 19) (n := 19) hts inlX2 (hts (.instantiable RX2 19) (by decide +kernel))
  obtain ⟨D, hKc⟩ : ∃ D : va_G, ∀ (k : Nat) (q : vw_C), vwCl[k]? = some q → u_Kn s q.1 q.2.1 q.2.2 (D.1 k) (D.2 k) := by
    refine ⟨(fun k => if k = 0 then c0 else c1, fun k => if k = 0 then iS0 else iS1), ?_⟩
    intro k q hq
    match k, hq with
    | 0, hq => cases hq; exact hKn0
    | 1, hq => cases hq; exact hKn1
    | k + 2, hq => simp [vwCl] at hq
  obtain ⟨cI, aI, rI⟩ := law_arr (hts (.arrayClass .int) (by decide +kernel)) (fun _ h => h)
  obtain ⟨cZ, aZ, rZ⟩ := law_arr (hts (.arrayClass .boolean) (by decide +kernel)) (fun _ h => h)
  have hK : va_K D vwCl (tyK cI cZ) s := by
    refine ⟨hKc, fun k q h => ?_⟩
    match k, h with
    | 0, h => cases h; exact ⟨aI, rI⟩
    | 1, h => cases h; exact ⟨aZ, rZ⟩
    | k + 2, h => simp [tyK] at h
  have hS : va_S (fun q : Nat => s.heap.size ≤ q) s.heap s.heap [] := va_S.rf
  have hP : va_P D vwCl [] s.heap := fun k q h => by simp at h
  have hD : va_D (fun q : Nat => s.heap.size ≤ q) [] := ⟨fun i j p q h => by simp at h, fun k q h => by simp at h⟩
  have hl := lv_entry ([.ref b]) (n := 7) (Nat.le_of_ble_eq_true rfl)
  rw [lg_entry_eq]
  generalize (lg_sl ([.ref b]) ++ List.replicate (7 - (lg_sl ([.ref b])).length) Slot.unset).toArray = ls at hl ⊢
  have hl : lv_has ls 7 [(0, .ref b)] := hl
  refine va_new (ci := 0) (fs := [.int 0, .null, .null, .null, .null, .int 0, .null, .null, .null, .null, .null, .int 0, .null, .int 0, .null]) (C := RX1) (T := TX1) (N := 15) hx hb hts inlX1 tyX1 tyX1_ok hown (hts (.classLink RL 8 RX1) (by decide +kernel)) (hts (.instantiable RX1 15) (by decide +kernel)) (hts (.initialized RX1) (by decide +kernel)) hK hP hD hS hA rfl (by intro j hj; rcases (show j = 0 ∨ j = 1 ∨ j = 2 ∨ j = 3 ∨ j = 4 ∨ j = 5 ∨ j = 6 ∨ j = 7 ∨ j = 8 ∨ j = 9 ∨ j = 10 ∨ j = 11 ∨ j = 12 ∨ j = 13 ∨ j = 14 by omega) with rfl | rfl | rfl | rfl | rfl | rfl | rfl | rfl | rfl | rfl | rfl | rfl | rfl | rfl | rfl <;> first | rfl | exact congrArg Value.int mI_1.symm) (Nat.le_of_ble_eq_true rfl) (Nat.le_of_ble_eq_true rfl) dL_law_0 (fun q1 H hP hD hS => ?_)
  have hP : va_P D vwCl [(q1, .inr (0, [.int 0, .null, .null, .null, .null, .int 0, .null, .null, .null, .null, .null, .int 0, .null, .int 0, .null]))] H := hP
  have hD : va_D (fun q : Nat => s.heap.size ≤ q) [(q1, .inr (0, [.int 0, .null, .null, .null, .null, .int 0, .null, .null, .null, .null, .null, .int 0, .null, .int 0, .null]))] := hD
  refine W.widen (k := 1) (n := 15) (by omega) (by omega) ?_
  refine lv_dup hx hb dL_law_3 rfl ?_
  refine lv_aload_n hx hb dL_law_4 rfl (lv_at hl 0 rfl) ?_
  refine lv_iconst (v := 0) hx hb dL_law_5 (by decide) ?_
  refine va_calli (va_runS (As := [.ref b, .int 0]) (rest := [.ref q1, .ref q1]) ⟨hx, hb, hml, hown, hts⟩ (c_L_cell l b L H.size xs hL) (va_cwS 2 hts gL_law_L_cell rfl rfl rfl (by decide +kernel) ⟨Nat.le_of_ble_eq_true rfl, Nat.le_of_ble_eq_true rfl⟩) ⟨X_blind, fun U hU hW => ⟨rfl, by rw [hU], by rw [hU]; exact va_X.moved hW.alike (hX0.kept (hS.2.1 b hbl hbA))⟩⟩ rfl rfl hl.1 rfl (lv_room (Nat.le_of_ble_eq_true rfl)) dL_law_6 ⟨Nat.le_of_ble_eq_true rfl, Nat.le_of_ble_eq_true rfl⟩) hS (fun q _ h => h.elim) (fun q h => h.elim) (fun r u t H1 locs ht hvm hw hB hz1 hk1 hS => ?_)
  have hP : va_P D vwCl [(q1, .inr (0, [.int 0, .null, .null, .null, .null, .int 0, .null, .null, .null, .null, .null, .int 0, .null, .int 0, .null]))] H1 := hP.kept (fun k q hk => hk1 q.1 (vx_lt hP hk) (fun h => h))
  generalize H1 = H at hP hS ⊢
  rw [hw]
  have hFc := va_free (wc := [(q1, .inr (0, [.int 0, .null, .null, .null, .null, .int 0, .null, .null, .null, .null, .null, .int 0, .null, .int 0, .null]))]) hD hS hA [0] rfl
  refine va_callv (va_runI (As := [.int (if 0 < L then xs 0 else 0)]) (rest := [.ref q1]) ⟨hx, hb, hml, hown, hts⟩ (c_X1_init l cI cZ D q1 H.size (if 0 < L then xs 0 else 0)) (cwI 1 hts gL_law_X1_init rfl rfl rfl (hts (.initialized RX1) (by decide +kernel)) (hts (.methodLink RL 33 yX1_init) (by decide +kernel)) (hts (.instanceMethod yX1_init) (by decide +kernel)) rfl (by decide +kernel) ⟨Nat.le_of_ble_eq_true rfl, Nat.le_of_ble_eq_true rfl⟩) ⟨(fun a U g mk q => by obtain ⟨q0, q1, qP, qK, qD⟩ := q; exact ⟨q0, q1, qP, va_K.moved (u := U) (U := U.calling g mk a) (Vm.Alike.refl U.vm) qK, qD⟩), fun U hU hW => ⟨rfl, by rw [hU], by rw [hU]; exact hP, va_K.moved hW.alike hK, hD.weaken (fun _ _ _ _ => trivial)⟩⟩ rfl rfl hl.1 rfl (lv_room (Nat.le_of_ble_eq_true rfl)) dL_law_9 ⟨Nat.le_of_ble_eq_true rfl, Nat.le_of_ble_eq_true rfl⟩) hS (fun q _ h => hFc q h) hFc (fun ad t H1 locs ht hvm hw hB hz1 hk1 hS => ?_)
  obtain ⟨hP7, -, hD9⟩ := hB
  rw [ht] at hP7
  have hD7 := hD9.weaken (fun _ q _ h => hFc q.1 h)
  subst hw
  have hP := hP7
  have hD := hD7
  generalize H1 = H at hP hS ⊢
  refine W.widen (k := 12) (n := 2425) (by omega) (by omega) ?_
  refine lv_astore_n (lv' := [(1, .ref (ad 0)), (0, .ref b)]) hx hb dL_law_12 rfl hl (by decide) rfl (fun ls hl => ?_)
  refine va_new (ci := 1) (fs := [.int 0, .int (nI (dz 0 0)), .int (nI (sg0 (clN (if 0 < L then xs 0 else 0)) 5 0)), .null, .null, .null, .null, .null, .int (nI (sg0 (clN (if 0 < L then xs 0 else 0)) 11 0)), .null, .null, .null, .null, .null, .null, .int (nI (dz 2 0)), .int (nI (dz 3 0)), .int 0, .int (mI (dz 4 0))]) (C := RX2) (T := TX2) (N := 19) hx hb hts inlX2 tyX2 tyX2_ok hown (hts (.classLink RL 36 RX2) (by decide +kernel)) (hts (.instantiable RX2 19) (by decide +kernel)) (hts (.initialized RX2) (by decide +kernel)) hK hP hD hS hA rfl (by intro j hj; rcases (show j = 0 ∨ j = 1 ∨ j = 2 ∨ j = 3 ∨ j = 4 ∨ j = 5 ∨ j = 6 ∨ j = 7 ∨ j = 8 ∨ j = 9 ∨ j = 10 ∨ j = 11 ∨ j = 12 ∨ j = 13 ∨ j = 14 ∨ j = 15 ∨ j = 16 ∨ j = 17 ∨ j = 18 by omega) with rfl | rfl | rfl | rfl | rfl | rfl | rfl | rfl | rfl | rfl | rfl | rfl | rfl | rfl | rfl | rfl | rfl | rfl | rfl <;> first | rfl | exact congrArg Value.int mI_1.symm) (Nat.le_of_ble_eq_true rfl) (Nat.le_of_ble_eq_true rfl) dL_law_13 (fun q2 H hP hD hS => ?_)
  have hP : va_P D vwCl (WC cI cZ ad (sg0 (clN (if 0 < L then xs 0 else 0)), gz) ++ [(q2, .inr (1, [.int 0, .int (nI (dz 0 0)), .int (nI (sg0 (clN (if 0 < L then xs 0 else 0)) 5 0)), .null, .null, .null, .null, .null, .int (nI (sg0 (clN (if 0 < L then xs 0 else 0)) 11 0)), .null, .null, .null, .null, .null, .null, .int (nI (dz 2 0)), .int (nI (dz 3 0)), .int 0, .int (mI (dz 4 0))]))]) H := hP
  have hD : va_D (fun q : Nat => s.heap.size ≤ q) (WC cI cZ ad (sg0 (clN (if 0 < L then xs 0 else 0)), gz) ++ [(q2, .inr (1, [.int 0, .int (nI (dz 0 0)), .int (nI (sg0 (clN (if 0 < L then xs 0 else 0)) 5 0)), .null, .null, .null, .null, .null, .int (nI (sg0 (clN (if 0 < L then xs 0 else 0)) 11 0)), .null, .null, .null, .null, .null, .null, .int (nI (dz 2 0)), .int (nI (dz 3 0)), .int 0, .int (mI (dz 4 0))]))]) := hD
  refine W.widen (k := 13) (n := 2444) (by omega) (by omega) ?_
  refine lv_dup hx hb dL_law_16 rfl ?_
  refine lv_aload_n hx hb dL_law_17 rfl (lv_at hl 1 rfl) ?_
  refine lv_iconst (v := 0) hx hb dL_law_18 (by decide) ?_
  refine va_calli (va_runS (As := [.ref b, .int 0]) (rest := [.ref q2, .ref q2]) ⟨hx, hb, hml, hown, hts⟩ (c_L_cell l b L H.size xs hL) (va_cwS 2 hts gL_law_L_cell rfl rfl rfl (by decide +kernel) ⟨Nat.le_of_ble_eq_true rfl, Nat.le_of_ble_eq_true rfl⟩) ⟨X_blind, fun U hU hW => ⟨rfl, by rw [hU], by rw [hU]; exact va_X.moved hW.alike (hX0.kept (hS.2.1 b hbl hbA))⟩⟩ rfl rfl hl.1 rfl (lv_room (Nat.le_of_ble_eq_true rfl)) dL_law_19 ⟨Nat.le_of_ble_eq_true rfl, Nat.le_of_ble_eq_true rfl⟩) hS (fun q _ h => h.elim) (fun q h => h.elim) (fun r u t H1 locs ht hvm hw hB hz1 hk1 hS => ?_)
  have hP : va_P D vwCl (WC cI cZ ad (sg0 (clN (if 0 < L then xs 0 else 0)), gz) ++ [(q2, .inr (1, [.int 0, .int (nI (dz 0 0)), .int (nI (sg0 (clN (if 0 < L then xs 0 else 0)) 5 0)), .null, .null, .null, .null, .null, .int (nI (sg0 (clN (if 0 < L then xs 0 else 0)) 11 0)), .null, .null, .null, .null, .null, .null, .int (nI (dz 2 0)), .int (nI (dz 3 0)), .int 0, .int (mI (dz 4 0))]))]) H1 := hP.kept (fun k q hk => hk1 q.1 (vx_lt hP hk) (fun h => h))
  generalize H1 = H at hP hS ⊢
  rw [hw]
  have hPc := hP.sub (ws' := [(q2, .inr (1, [.int 0, .int (nI (dz 0 0)), .int (nI (sg0 (clN (if 0 < L then xs 0 else 0)) 5 0)), .null, .null, .null, .null, .null, .int (nI (sg0 (clN (if 0 < L then xs 0 else 0)) 11 0)), .null, .null, .null, .null, .null, .null, .int (nI (dz 2 0)), .int (nI (dz 3 0)), .int 0, .int (mI (dz 4 0))]))]) [12] rfl
  have hDc := hD.sub (ws' := [(q2, .inr (1, [.int 0, .int (nI (dz 0 0)), .int (nI (sg0 (clN (if 0 < L then xs 0 else 0)) 5 0)), .null, .null, .null, .null, .null, .int (nI (sg0 (clN (if 0 < L then xs 0 else 0)) 11 0)), .null, .null, .null, .null, .null, .null, .int (nI (dz 2 0)), .int (nI (dz 3 0)), .int 0, .int (mI (dz 4 0))]))]) [12] (by decide) rfl
  have hFc := va_free (wc := [(q2, .inr (1, [.int 0, .int (nI (dz 0 0)), .int (nI (sg0 (clN (if 0 < L then xs 0 else 0)) 5 0)), .null, .null, .null, .null, .null, .int (nI (sg0 (clN (if 0 < L then xs 0 else 0)) 11 0)), .null, .null, .null, .null, .null, .null, .int (nI (dz 2 0)), .int (nI (dz 3 0)), .int 0, .int (mI (dz 4 0))]))]) hD hS hA [12] rfl
  refine va_callv (va_runI (As := [.int (if 0 < L then xs 0 else 0)]) (rest := [.ref q2]) ⟨hx, hb, hml, hown, hts⟩ (c_X2_init l cI cZ D q2 H.size (if 0 < L then xs 0 else 0)) (cwI 1 hts gL_law_X2_init rfl rfl rfl (hts (.initialized RX2) (by decide +kernel)) (hts (.methodLink RL 38 yX2_init) (by decide +kernel)) (hts (.instanceMethod yX2_init) (by decide +kernel)) rfl (by decide +kernel) ⟨Nat.le_of_ble_eq_true rfl, Nat.le_of_ble_eq_true rfl⟩) ⟨(fun a U g mk q => by obtain ⟨q0, q1, qP, qK, qD⟩ := q; exact ⟨q0, q1, qP, va_K.moved (u := U) (U := U.calling g mk a) (Vm.Alike.refl U.vm) qK, qD⟩), fun U hU hW => ⟨rfl, by rw [hU], by rw [hU]; exact hPc, va_K.moved hW.alike hK, hDc.weaken (fun _ _ _ _ => trivial)⟩⟩ rfl rfl hl.1 rfl (lv_room (Nat.le_of_ble_eq_true rfl)) dL_law_22 ⟨Nat.le_of_ble_eq_true rfl, Nat.le_of_ble_eq_true rfl⟩) hS (fun q _ h => hFc q h) hFc (fun bd t H1 locs ht hvm hw hB hz1 hk1 hS => ?_)
  obtain ⟨hP1, -, hD1⟩ := hB
  rw [ht] at hP1
  subst hw
  obtain ⟨hP, hD⟩ := va_join (wr := WC cI cZ ad (sg0 (clN (if 0 < L then xs 0 else 0)), gz)) (w1 := WM cI cZ bd (sg0 (clN (if 0 < L then xs 0 else 0)), dz, 0)) hP hD [12] [0, 1, 2, 3, 4, 5, 6, 7, 8, 9, 10, 11] rfl rfl (by decide) (by decide) hk1 hFc hP1 hD1
  generalize H1 = H at hP hS ⊢
  refine W.widen (k := 24) (n := 4788) (by omega) (by omega) ?_
  refine lv_astore_n (lv' := [(2, .ref (bd 0)), (1, .ref (ad 0)), (0, .ref b)]) hx hb dL_law_25 rfl hl (by decide) rfl (fun ls hl => ?_)
  refine lv_iconst (v := 1) hx hb dL_law_26 (by decide) ?_
  refine va_newa (atype := .long) hx hb (hts (.arrayClass .long) (by decide +kernel)) rfl hK hP hD hS hA (a0 := (1, .inr (.inl (fun _ => 0)))) (N' := 1) (fun _ => rfl) (by decide) (by decide) (Nat.le_of_ble_eq_true rfl) (Nat.le_of_ble_eq_true rfl) (Nat.le_of_ble_eq_true rfl) dL_law_27 (fun ao cJ H hK3 hP hD hS => ?_)
  have hKo : va_K D vwCl [(cJ, .long)] s := hK3.sub [2] rfl
  have hP : va_P D vwCl (WC cI cZ ad (sg0 (clN (if 0 < L then xs 0 else 0)), gz) ++ WM cI cZ bd (sg0 (clN (if 0 < L then xs 0 else 0)), dz, 0) ++ [cO cJ ao (fun _ => 0)]) H := hP
  have hD : va_D (fun q : Nat => s.heap.size ≤ q) (WC cI cZ ad (sg0 (clN (if 0 < L then xs 0 else 0)), gz) ++ WM cI cZ bd (sg0 (clN (if 0 < L then xs 0 else 0)), dz, 0) ++ [cO cJ ao (fun _ => 0)]) := hD
  have hP1 := hP.sub (ws' := WC cI cZ ad (sg0 (clN (if 0 < L then xs 0 else 0)), gz)) [0, 1, 2, 3, 4, 5, 6, 7, 8, 9, 10, 11] rfl
  have hP2 := hP.sub (ws' := WM cI cZ bd (sg0 (clN (if 0 < L then xs 0 else 0)), dz, 0)) [12, 13, 14, 15, 16, 17, 18, 19, 20, 21, 22, 23] rfl
  have hPo := hP.sub (ws' := [cO cJ ao (fun _ => 0)]) [24] rfl
  have hD12 := hD.sub (ws' := WC cI cZ ad (sg0 (clN (if 0 < L then xs 0 else 0)), gz) ++ WM cI cZ bd (sg0 (clN (if 0 < L then xs 0 else 0)), dz, 0)) [0, 1, 2, 3, 4, 5, 6, 7, 8, 9, 10, 11, 12, 13, 14, 15, 16, 17, 18, 19, 20, 21, 22, 23] (by decide) rfl
  have hD1o := hD.sub (ws' := WC cI cZ ad (sg0 (clN (if 0 < L then xs 0 else 0)), gz) ++ [cO cJ ao (fun _ => 0)]) [0, 1, 2, 3, 4, 5, 6, 7, 8, 9, 10, 11, 24] (by decide) rfl
  have hD2o := hD.sub (ws' := WM cI cZ bd (sg0 (clN (if 0 < L then xs 0 else 0)), dz, 0) ++ [cO cJ ao (fun _ => 0)]) [12, 13, 14, 15, 16, 17, 18, 19, 20, 21, 22, 23, 24] (by decide) rfl
  have hDo := hD.sub (ws' := [cO cJ ao (fun _ => 0)]) [24] (by decide) rfl
  have hD1 := hD.sub (ws' := WC cI cZ ad (sg0 (clN (if 0 < L then xs 0 else 0)), gz)) [0, 1, 2, 3, 4, 5, 6, 7, 8, 9, 10, 11] (by decide) rfl
  have hD2 := hD.sub (ws' := WM cI cZ bd (sg0 (clN (if 0 < L then xs 0 else 0)), dz, 0)) [12, 13, 14, 15, 16, 17, 18, 19, 20, 21, 22, 23] (by decide) rfl
  have C1 : LC cI cZ cJ D ad bd pl sa tb ao s := ⟨hK, hKo, hNc, hZ, hSX, apart_L WAd_c WAd_m rfl hD12, apart_1 WAd_c rfl hD1o, apart_1 WAd_m rfl hD2o, hDo.2 0 _ rfl⟩
  refine W.widen (k := 25 + 0) (n := 4789 + 6 * 0) (by omega) (by omega) ?_
  refine lv_astore_n (lv' := [(3, .ref ao), (2, .ref (bd 0)), (1, .ref (ad 0)), (0, .ref b)]) hx hb dL_law_29 rfl hl (by decide) rfl (fun ls hl => ?_)
  refine lv_iconst (v := 1) hx hb dL_law_30 (by decide) ?_
  refine lv_istore (lv' := [(4, .int 1), (3, .ref ao), (2, .ref (bd 0)), (1, .ref (ad 0)), (0, .ref b)]) hx hb dL_law_31 hl (by decide) rfl (fun ls hl => ?_)
  exact law_loop l hl0 hL C0 C1 513 0 (by omega) (by omega) (sg0 (clN (if 0 < L then xs 0 else 0))) gz dz 0 (fun _ => 0) (Inv0 (clN_bd _).1 (clN_bd _).2) H _ ls ⟨hP1, hD1, hP2, hD2, hPo, hS⟩ (lv_sub hl [4, 3, 2, 1, 0] rfl)
