set_option maxHeartbeats 4000000 in
set_option maxRecDepth 100000 in
theorem c_L_frame (l : Launch) (hl0 : l.stackTraces = false) (cI cZ cJ : ClassId) (D : va_G) (ad pl sa : Nat → Nat) (tb ao sz : Nat) (hao : ∀ k, k < 12 → ad k ≠ ao) (σ γ : Sg) (f : Nat → Int64) (p0 p1 : Int32) (hI : Inv σ) : CtH l yL_frame wsL_frame ({ frames := 7, cells := 1, slots := 6, locals := 155 }) cI cZ cJ D ad pl sa tb ao sz σ γ f [.ref (ad 0), .int p0, .int p1, .ref ao] (oRow (frL σ) p0 p1) := by
  refine vx_ofWH (cc := cL_frame) (maxL := 5) (ret := some .int) (hh := [(0, 10, 13, 13), (0, 10, 17, 15)]) (by decide) rfl ?_
  intro p e s m args below meth c s₁ B hml hv
  obtain ⟨rfl, ⟨⟨hsz, hP, hK, hD0, hZ⟩, hX⟩, hPo, hKo, hNc⟩ := hv
  have hx := B.exec
  have hb := B.bytes
  have hr := B.returns
  have hts := atoms_spec (ws := wsL_frame) B.pre
  have hown : s.vm.findClass RL = some m.cls := findClass_of_methodNamed B.named
  have hlocks := B.notSynchronized
  have htab := vx_table (x := yL_frame) B (hts (.codeWith yL_frame cL_frame 5 (some .int) [(0, 10, 13, 13), (0, 10, 17, 15)]) List.mem_cons_self)
  subst hsz
  have hDc : va_D (AC ad s.heap.size) (WC cI cZ ad (σ, γ)) := AC_self WAd_c hD0
  have hS : va_S (AO ad ao s.heap.size) s.heap s.heap [] := va_S.rf
  have hl := lv_entry ([.ref (ad 0), .int p0, .int p1, .ref ao]) (n := 5) (Nat.le_of_ble_eq_true rfl)
  rw [lg_entry_eq]
  generalize (lg_sl ([.ref (ad 0), .int p0, .int p1, .ref ao]) ++ List.replicate (5 - (lg_sl ([.ref (ad 0), .int p0, .int p1, .ref ao])).length) Slot.unset).toArray = ls at hl ⊢
  have hl : lv_has ls 5 [(0, .ref (ad 0)), (1, .int p0), (2, .int p1), (3, .ref ao)] := hl
  refine lv_aload_n hx hb dL_frame_0 rfl (lv_at hl 3 rfl) ?_
  refine lv_iconst (v := 0) hx hb dL_frame_1 (by decide) ?_
  refine lv_aload_n hx hb dL_frame_2 rfl (lv_at hl 0 rfl) ?_
  refine lv_iload_n hx hb dL_frame_3 rfl (lv_at hl 1 rfl) ?_
  refine lv_iload_n hx hb dL_frame_4 rfl (lv_at hl 2 rfl) ?_
  refine vx_calli (vx_runV (As := [.int p0, .int p1]) (rest := [.int 0, .ref ao]) ⟨hx, hb, hml, hown, hts⟩ (c_X1_frame l hl0 cI cZ D ad pl sa tb s.heap.size σ γ p0 p1 hI) (cwV 2 hts gL_frame_X1_frame rfl rfl rfl (by decide +kernel) ⟨Nat.le_of_ble_eq_true rfl, Nat.le_of_ble_eq_true rfl⟩) ⟨PreX.blind, va_recv hK hP (ci := 0) (q0 := 0) rfl rfl, fun U hU hW => ⟨rfl, ⟨by rw [hU], by rw [hU]; exact hP, va_K.moved hW.alike hK, hDc.weaken (fun _ _ _ _ => trivial), hZ.pass hW.alike (fun a _ _ => by rw [hU]) (fun _ q => q)⟩, hX.pass hW (fun a _ _ => by rw [hU]) (fun _ q => q)⟩⟩ rfl rfl hl.1 rfl (lv_room (Nat.le_of_ble_eq_true rfl)) dL_frame_5 ⟨Nat.le_of_ble_eq_true rfl, Nat.le_of_ble_eq_true rfl⟩) hS (fun q _ h => Or.inl h) (fun q h => Or.inl h) (fun q _ h => Or.inl h) (fun E ce q9 u t H locs ht hvm hpx hBX hz1 hk1 hS hce hcv hcl => ?_) (fun r u t H locs ht hvm hp hB hz1 hk1 hS => ?_)
  · obtain ⟨γ1, rfl⟩ := hpx
    obtain ⟨hE, hP1, hK1, hD1⟩ := hBX
    rw [ht] at hP1
    have hPo1 := keep1 hao hPo hk1
    have hDj : va_D (AO ad ao s.heap.size) (WC cI cZ ad (σ, γ1) ++ [cO cJ ao f]) := DJ WAd_c hao hD1 (fun _ h => Or.inl h) (Or.inr rfl)
    rcases hE with ⟨rfl, hk⟩ | ⟨rfl, hk⟩
    · skip
      refine vx_catch (own := RL) (name := "java/lang/IllegalArgumentException") (E := "java/lang/IllegalArgumentException") hown [] ⟨0, 10, 13, 13⟩ [⟨0, 10, 17, 15⟩] htab (fun z hz => nomatch hz) (by decide) (by decide) (hts (.classLink RL 13 "java/lang/IllegalArgumentException") (by decide +kernel)) (va_Nw.use rfl hX.2.1.1) hce hcv hcl ?_
      refine lv_astore (lv' := [(4, .ref q9), (0, .ref (ad 0)), (1, .int p0), (2, .int p1), (3, .ref ao)]) hx hb dL_frame_13 hl (by decide) rfl (fun ls hl => ?_)
      refine lv_iconst (v := 1) hx hb dL_frame_15 (by decide) ?_
      exact vx_ret (W.zret hx hb hr rfl (fun t2 ht2 hW => ⟨⟨1, (σ, γ1, f), rfl, ⟨rfl, by rw [hk]; rfl, fun q => absurd (hk.symm.trans q) (by decide)⟩, by rw [ht2]; exact hP1.app hPo1, hDj⟩, hS.F ht2⟩) hS.2.2 dL_frame_16 hlocks)
    · skip
      refine vx_catch (own := RL) (name := "java/lang/IndexOutOfBoundsException") (E := "java/lang/IndexOutOfBoundsException") hown [⟨0, 10, 13, 13⟩] ⟨0, 10, 17, 15⟩ [] htab (fun z hz => by have hz := List.mem_singleton.mp hz; subst hz; exact Or.inr ⟨by decide, "java/lang/IllegalArgumentException", hts (.classLink RL 13 "java/lang/IllegalArgumentException") (by decide +kernel), hNc⟩) (by decide) (by decide) (hts (.classLink RL 15 "java/lang/IndexOutOfBoundsException") (by decide +kernel)) (va_Nw.use rfl hX.2.1.2.1) hce hcv hcl ?_
      refine lv_astore (lv' := [(4, .ref q9), (0, .ref (ad 0)), (1, .int p0), (2, .int p1), (3, .ref ao)]) hx hb dL_frame_17 hl (by decide) rfl (fun ls hl => ?_)
      refine lv_iconst (v := 2) hx hb dL_frame_19 (by decide) ?_
      exact vx_ret (W.zret hx hb hr rfl (fun t2 ht2 hW => ⟨⟨2, (σ, γ1, f), rfl, ⟨rfl, by rw [hk]; rfl, fun q => absurd (hk.symm.trans q) (by decide)⟩, by rw [ht2]; exact hP1.app hPo1, hDj⟩, hS.F ht2⟩) hS.2.2 dL_frame_20 hlocks)
  · obtain ⟨⟨γ1, rfl⟩, ho⟩ := hp
    obtain ⟨hP1, hK1, hD1⟩ := hB
    rw [ht] at hP1
    have hPo1 := keep1 hao hPo hk1
    have hDj : va_D (AO ad ao s.heap.size) (WC cI cZ ad (σ, γ1) ++ [cO cJ ao f]) := DJ WAd_c hao hD1 (fun _ h => Or.inl h) (Or.inr rfl)
    refine lv_i2l hx hb dL_frame_8 rfl ?_
    refine va_last hx hb hKo (hP1.app hPo1) hDj hS 12 0 rfl rfl (q_vin (x := 0) (j := 0) (n := 1) (by decide) (by decide)) dL_frame_9 (fun H locs hP hD hS => ?_)
    refine lv_goto (tgt := 21) hx hb dL_frame_10 (by decide) ?_
    refine lv_iconst (v := 0) hx hb dL_frame_21 (by decide) ?_
    exact vx_ret (W.zret hx hb hr rfl (fun t2 ht2 hW => ⟨⟨0, (σ, γ1, vp_updL f (0 : Int32).toNatClampNeg r.toInt64), rfl, ⟨rfl, by rw [ho]; rfl, fun _ => by rw [ho]; rfl⟩, by rw [ht2]; exact hP, hD⟩, hS.F ht2⟩) hS.2.2 dL_frame_22 hlocks)

set_option maxHeartbeats 4000000 in
set_option maxRecDepth 100000 in
theorem c_L_list (l : Launch) (hl0 : l.stackTraces = false) (cI cZ cJ : ClassId) (D : va_G) (ad pl sa : Nat → Nat) (tb ao sz : Nat) (hao : ∀ k, k < 12 → ad k ≠ ao) (σ γ : Sg) (f : Nat → Int64) (p0 p1 : Int32) (hI : Inv σ) : CtH l yL_list wsL_list ({ frames := 7, cells := 1, slots := 6, locals := 134 }) cI cZ cJ D ad pl sa tb ao sz σ γ f [.ref (ad 0), .int p0, .int p1, .ref ao] (oRow (fun c => roL σ c 3) p0 p1) := by
  refine vx_ofWH (cc := cL_list) (maxL := 5) (ret := some .int) (hh := [(0, 10, 13, 13), (0, 10, 17, 15)]) (by decide) rfl ?_
  intro p e s m args below meth c s₁ B hml hv
  obtain ⟨rfl, ⟨⟨hsz, hP, hK, hD0, hZ⟩, hX⟩, hPo, hKo, hNc⟩ := hv
  have hx := B.exec
  have hb := B.bytes
  have hr := B.returns
  have hts := atoms_spec (ws := wsL_list) B.pre
  have hown : s.vm.findClass RL = some m.cls := findClass_of_methodNamed B.named
  have hlocks := B.notSynchronized
  have htab := vx_table (x := yL_list) B (hts (.codeWith yL_list cL_list 5 (some .int) [(0, 10, 13, 13), (0, 10, 17, 15)]) List.mem_cons_self)
  subst hsz
  have hDc : va_D (AC ad s.heap.size) (WC cI cZ ad (σ, γ)) := AC_self WAd_c hD0
  have hS : va_S (AO ad ao s.heap.size) s.heap s.heap [] := va_S.rf
  have hl := lv_entry ([.ref (ad 0), .int p0, .int p1, .ref ao]) (n := 5) (Nat.le_of_ble_eq_true rfl)
  rw [lg_entry_eq]
  generalize (lg_sl ([.ref (ad 0), .int p0, .int p1, .ref ao]) ++ List.replicate (5 - (lg_sl ([.ref (ad 0), .int p0, .int p1, .ref ao])).length) Slot.unset).toArray = ls at hl ⊢
  have hl : lv_has ls 5 [(0, .ref (ad 0)), (1, .int p0), (2, .int p1), (3, .ref ao)] := hl
  refine lv_aload_n hx hb dL_list_0 rfl (lv_at hl 3 rfl) ?_
  refine lv_iconst (v := 0) hx hb dL_list_1 (by decide) ?_
  refine lv_aload_n hx hb dL_list_2 rfl (lv_at hl 0 rfl) ?_
  refine lv_iload_n hx hb dL_list_3 rfl (lv_at hl 1 rfl) ?_
  refine lv_iload_n hx hb dL_list_4 rfl (lv_at hl 2 rfl) ?_
  refine vx_calli (vx_runV (As := [.int p0, .int p1]) (rest := [.int 0, .ref ao]) ⟨hx, hb, hml, hown, hts⟩ (c_X1_list l hl0 cI cZ D ad pl sa tb s.heap.size σ γ p0 p1 hI) (cwV 2 hts gL_list_X1_list rfl rfl rfl (by decide +kernel) ⟨Nat.le_of_ble_eq_true rfl, Nat.le_of_ble_eq_true rfl⟩) ⟨PreX.blind, va_recv hK hP (ci := 0) (q0 := 0) rfl rfl, fun U hU hW => ⟨rfl, ⟨by rw [hU], by rw [hU]; exact hP, va_K.moved hW.alike hK, hDc.weaken (fun _ _ _ _ => trivial), hZ.pass hW.alike (fun a _ _ => by rw [hU]) (fun _ q => q)⟩, hX.pass hW (fun a _ _ => by rw [hU]) (fun _ q => q)⟩⟩ rfl rfl hl.1 rfl (lv_room (Nat.le_of_ble_eq_true rfl)) dL_list_5 ⟨Nat.le_of_ble_eq_true rfl, Nat.le_of_ble_eq_true rfl⟩) hS (fun q _ h => Or.inl h) (fun q h => Or.inl h) (fun q _ h => Or.inl h) (fun E ce q9 u t H locs ht hvm hpx hBX hz1 hk1 hS hce hcv hcl => ?_) (fun r u t H locs ht hvm hp hB hz1 hk1 hS => ?_)
  · obtain ⟨γ1, rfl⟩ := hpx
    obtain ⟨hE, hP1, hK1, hD1⟩ := hBX
    rw [ht] at hP1
    have hPo1 := keep1 hao hPo hk1
    have hDj : va_D (AO ad ao s.heap.size) (WC cI cZ ad (σ, γ1) ++ [cO cJ ao f]) := DJ WAd_c hao hD1 (fun _ h => Or.inl h) (Or.inr rfl)
    rcases hE with ⟨rfl, hk⟩ | ⟨rfl, hk⟩
    · skip
      refine vx_catch (own := RL) (name := "java/lang/IllegalArgumentException") (E := "java/lang/IllegalArgumentException") hown [] ⟨0, 10, 13, 13⟩ [⟨0, 10, 17, 15⟩] htab (fun z hz => nomatch hz) (by decide) (by decide) (hts (.classLink RL 13 "java/lang/IllegalArgumentException") (by decide +kernel)) (va_Nw.use rfl hX.2.1.1) hce hcv hcl ?_
      refine lv_astore (lv' := [(4, .ref q9), (0, .ref (ad 0)), (1, .int p0), (2, .int p1), (3, .ref ao)]) hx hb dL_list_13 hl (by decide) rfl (fun ls hl => ?_)
      refine lv_iconst (v := 1) hx hb dL_list_15 (by decide) ?_
      exact vx_ret (W.zret hx hb hr rfl (fun t2 ht2 hW => ⟨⟨1, (σ, γ1, f), rfl, ⟨rfl, by rw [hk]; rfl, fun q => absurd (hk.symm.trans q) (by decide)⟩, by rw [ht2]; exact hP1.app hPo1, hDj⟩, hS.F ht2⟩) hS.2.2 dL_list_16 hlocks)
    · skip
      refine vx_catch (own := RL) (name := "java/lang/IndexOutOfBoundsException") (E := "java/lang/IndexOutOfBoundsException") hown [⟨0, 10, 13, 13⟩] ⟨0, 10, 17, 15⟩ [] htab (fun z hz => by have hz := List.mem_singleton.mp hz; subst hz; exact Or.inr ⟨by decide, "java/lang/IllegalArgumentException", hts (.classLink RL 13 "java/lang/IllegalArgumentException") (by decide +kernel), hNc⟩) (by decide) (by decide) (hts (.classLink RL 15 "java/lang/IndexOutOfBoundsException") (by decide +kernel)) (va_Nw.use rfl hX.2.1.2.1) hce hcv hcl ?_
      refine lv_astore (lv' := [(4, .ref q9), (0, .ref (ad 0)), (1, .int p0), (2, .int p1), (3, .ref ao)]) hx hb dL_list_17 hl (by decide) rfl (fun ls hl => ?_)
      refine lv_iconst (v := 2) hx hb dL_list_19 (by decide) ?_
      exact vx_ret (W.zret hx hb hr rfl (fun t2 ht2 hW => ⟨⟨2, (σ, γ1, f), rfl, ⟨rfl, by rw [hk]; rfl, fun q => absurd (hk.symm.trans q) (by decide)⟩, by rw [ht2]; exact hP1.app hPo1, hDj⟩, hS.F ht2⟩) hS.2.2 dL_list_20 hlocks)
  · obtain ⟨⟨γ1, rfl⟩, ho⟩ := hp
    obtain ⟨hP1, hK1, hD1⟩ := hB
    rw [ht] at hP1
    have hPo1 := keep1 hao hPo hk1
    have hDj : va_D (AO ad ao s.heap.size) (WC cI cZ ad (σ, γ1) ++ [cO cJ ao f]) := DJ WAd_c hao hD1 (fun _ h => Or.inl h) (Or.inr rfl)
    refine lv_i2l hx hb dL_list_8 rfl ?_
    refine va_last hx hb hKo (hP1.app hPo1) hDj hS 12 0 rfl rfl (q_vin (x := 0) (j := 0) (n := 1) (by decide) (by decide)) dL_list_9 (fun H locs hP hD hS => ?_)
    refine lv_goto (tgt := 21) hx hb dL_list_10 (by decide) ?_
    refine lv_iconst (v := 0) hx hb dL_list_21 (by decide) ?_
    exact vx_ret (W.zret hx hb hr rfl (fun t2 ht2 hW => ⟨⟨0, (σ, γ1, vp_updL f (0 : Int32).toNatClampNeg r.toInt64), rfl, ⟨rfl, by rw [ho]; rfl, fun _ => by rw [ho]; rfl⟩, by rw [ht2]; exact hP, hD⟩, hS.F ht2⟩) hS.2.2 dL_list_22 hlocks)

set_option maxHeartbeats 4000000 in
set_option maxRecDepth 100000 in
theorem c_L_minutes (l : Launch) (hl0 : l.stackTraces = false) (cI cZ cJ : ClassId) (D : va_G) (ad pl sa : Nat → Nat) (tb ao sz : Nat) (hao : ∀ k, k < 12 → ad k ≠ ao) (σ γ : Sg) (f : Nat → Int64) (p0 : Int32) (hI : Inv σ) : CtH l yL_minutes wsL_minutes ({ frames := 7, cells := 1, slots := 6, locals := 155 }) cI cZ cJ D ad pl sa tb ao sz σ γ f [.ref (ad 0), .int p0, .ref ao] (oMin σ p0) := by
  refine vx_ofWH (cc := cL_minutes) (maxL := 4) (ret := some .int) (hh := [(0, 9, 12, 13)]) (by decide) rfl ?_
  intro p e s m args below meth c s₁ B hml hv
  obtain ⟨rfl, ⟨⟨hsz, hP, hK, hD0, hZ⟩, hX⟩, hPo, hKo, hNc⟩ := hv
  have hx := B.exec
  have hb := B.bytes
  have hr := B.returns
  have hts := atoms_spec (ws := wsL_minutes) B.pre
  have hown : s.vm.findClass RL = some m.cls := findClass_of_methodNamed B.named
  have hlocks := B.notSynchronized
  have htab := vx_table (x := yL_minutes) B (hts (.codeWith yL_minutes cL_minutes 4 (some .int) [(0, 9, 12, 13)]) List.mem_cons_self)
  subst hsz
  have hDc : va_D (AC ad s.heap.size) (WC cI cZ ad (σ, γ)) := AC_self WAd_c hD0
  have hS : va_S (AO ad ao s.heap.size) s.heap s.heap [] := va_S.rf
  have hl := lv_entry ([.ref (ad 0), .int p0, .ref ao]) (n := 4) (Nat.le_of_ble_eq_true rfl)
  rw [lg_entry_eq]
  generalize (lg_sl ([.ref (ad 0), .int p0, .ref ao]) ++ List.replicate (4 - (lg_sl ([.ref (ad 0), .int p0, .ref ao])).length) Slot.unset).toArray = ls at hl ⊢
  have hl : lv_has ls 4 [(0, .ref (ad 0)), (1, .int p0), (2, .ref ao)] := hl
  refine lv_aload_n hx hb dL_minutes_0 rfl (lv_at hl 2 rfl) ?_
  refine lv_iconst (v := 0) hx hb dL_minutes_1 (by decide) ?_
  refine lv_aload_n hx hb dL_minutes_2 rfl (lv_at hl 0 rfl) ?_
  refine lv_iload_n hx hb dL_minutes_3 rfl (lv_at hl 1 rfl) ?_
  refine vx_calli (vx_runV (As := [.int p0]) (rest := [.int 0, .ref ao]) ⟨hx, hb, hml, hown, hts⟩ (c_X1_minutes l hl0 cI cZ D ad pl sa tb s.heap.size σ γ p0 hI) (cwV 1 hts gL_minutes_X1_minutes rfl rfl rfl (by decide +kernel) ⟨Nat.le_of_ble_eq_true rfl, Nat.le_of_ble_eq_true rfl⟩) ⟨PreX.blind, va_recv hK hP (ci := 0) (q0 := 0) rfl rfl, fun U hU hW => ⟨rfl, ⟨by rw [hU], by rw [hU]; exact hP, va_K.moved hW.alike hK, hDc.weaken (fun _ _ _ _ => trivial), hZ.pass hW.alike (fun a _ _ => by rw [hU]) (fun _ q => q)⟩, hX.pass hW (fun a _ _ => by rw [hU]) (fun _ q => q)⟩⟩ rfl rfl hl.1 rfl (lv_room (Nat.le_of_ble_eq_true rfl)) dL_minutes_4 ⟨Nat.le_of_ble_eq_true rfl, Nat.le_of_ble_eq_true rfl⟩) hS (fun q _ h => Or.inl h) (fun q h => Or.inl h) (fun q _ h => Or.inl h) (fun E ce q9 u t H locs ht hvm hpx hBX hz1 hk1 hS hce hcv hcl => ?_) (fun r u t H locs ht hvm hp hB hz1 hk1 hS => ?_)
  · obtain ⟨γ1, rfl⟩ := hpx
    obtain ⟨hE, hP1, hK1, hD1⟩ := hBX
    rw [ht] at hP1
    have hPo1 := keep1 hao hPo hk1
    have hDj : va_D (AO ad ao s.heap.size) (WC cI cZ ad (σ, γ1) ++ [cO cJ ao f]) := DJ WAd_c hao hD1 (fun _ h => Or.inl h) (Or.inr rfl)
    obtain ⟨rfl, hk⟩ := hE
    refine vx_catch (own := RL) (name := "java/lang/IllegalArgumentException") (E := "java/lang/IllegalArgumentException") hown [] ⟨0, 9, 12, 13⟩ [] htab (fun z hz => nomatch hz) (by decide) (by decide) (hts (.classLink RL 13 "java/lang/IllegalArgumentException") (by decide +kernel)) (va_Nw.use rfl hX.2.1.1) hce hcv hcl ?_
    refine lv_astore_n (lv' := [(3, .ref q9), (0, .ref (ad 0)), (1, .int p0), (2, .ref ao)]) hx hb dL_minutes_12 rfl hl (by decide) rfl (fun ls hl => ?_)
    refine lv_iconst (v := 1) hx hb dL_minutes_13 (by decide) ?_
    exact vx_ret (W.zret hx hb hr rfl (fun t2 ht2 hW => ⟨⟨1, (σ, γ1, f), rfl, ⟨rfl, by rw [hk]; rfl, fun q => absurd (hk.symm.trans q) (by decide)⟩, by rw [ht2]; exact hP1.app hPo1, hDj⟩, hS.F ht2⟩) hS.2.2 dL_minutes_14 hlocks)
  · obtain ⟨⟨γ1, rfl⟩, ho⟩ := hp
    obtain ⟨hP1, hK1, hD1⟩ := hB
    rw [ht] at hP1
    have hPo1 := keep1 hao hPo hk1
    have hDj : va_D (AO ad ao s.heap.size) (WC cI cZ ad (σ, γ1) ++ [cO cJ ao f]) := DJ WAd_c hao hD1 (fun _ h => Or.inl h) (Or.inr rfl)
    refine lv_i2l hx hb dL_minutes_7 rfl ?_
    refine va_last hx hb hKo (hP1.app hPo1) hDj hS 12 0 rfl rfl (q_vin (x := 0) (j := 0) (n := 1) (by decide) (by decide)) dL_minutes_8 (fun H locs hP hD hS => ?_)
    refine lv_goto (tgt := 15) hx hb dL_minutes_9 (by decide) ?_
    refine lv_iconst (v := 0) hx hb dL_minutes_15 (by decide) ?_
    exact vx_ret (W.zret hx hb hr rfl (fun t2 ht2 hW => ⟨⟨0, (σ, γ1, vp_updL f (0 : Int32).toNatClampNeg r.toInt64), rfl, ⟨rfl, by rw [ho]; rfl, fun _ => by rw [ho]; rfl⟩, by rw [ht2]; exact hP, hD⟩, hS.F ht2⟩) hS.2.2 dL_minutes_16 hlocks)

set_option maxHeartbeats 4000000 in
set_option maxRecDepth 100000 in
theorem c_L_count (l : Launch) (hl0 : l.stackTraces = false) (cI cZ cJ : ClassId) (D : va_G) (ad pl sa : Nat → Nat) (tb ao sz : Nat) (hao : ∀ k, k < 12 → ad k ≠ ao) (σ γ : Sg) (f : Nat → Int64) (p0 : Int32) (hI : Inv σ) : CtH l yL_count wsL_count ({ frames := 7, cells := 1, slots := 6, locals := 130 }) cI cZ cJ D ad pl sa tb ao sz σ γ f [.ref (ad 0), .int p0, .ref ao] (oCnt σ p0) := by
  refine vx_ofWH (cc := cL_count) (maxL := 4) (ret := some .int) (hh := [(0, 9, 12, 15)]) (by decide) rfl ?_
  intro p e s m args below meth c s₁ B hml hv
  obtain ⟨rfl, ⟨⟨hsz, hP, hK, hD0, hZ⟩, hX⟩, hPo, hKo, hNc⟩ := hv
  have hx := B.exec
  have hb := B.bytes
  have hr := B.returns
  have hts := atoms_spec (ws := wsL_count) B.pre
  have hown : s.vm.findClass RL = some m.cls := findClass_of_methodNamed B.named
  have hlocks := B.notSynchronized
  have htab := vx_table (x := yL_count) B (hts (.codeWith yL_count cL_count 4 (some .int) [(0, 9, 12, 15)]) List.mem_cons_self)
  subst hsz
  have hDc : va_D (AC ad s.heap.size) (WC cI cZ ad (σ, γ)) := AC_self WAd_c hD0
  have hS : va_S (AO ad ao s.heap.size) s.heap s.heap [] := va_S.rf
  have hl := lv_entry ([.ref (ad 0), .int p0, .ref ao]) (n := 4) (Nat.le_of_ble_eq_true rfl)
  rw [lg_entry_eq]
  generalize (lg_sl ([.ref (ad 0), .int p0, .ref ao]) ++ List.replicate (4 - (lg_sl ([.ref (ad 0), .int p0, .ref ao])).length) Slot.unset).toArray = ls at hl ⊢
  have hl : lv_has ls 4 [(0, .ref (ad 0)), (1, .int p0), (2, .ref ao)] := hl
  refine lv_aload_n hx hb dL_count_0 rfl (lv_at hl 2 rfl) ?_
  refine lv_iconst (v := 0) hx hb dL_count_1 (by decide) ?_
  refine lv_aload_n hx hb dL_count_2 rfl (lv_at hl 0 rfl) ?_
  refine lv_iload_n hx hb dL_count_3 rfl (lv_at hl 1 rfl) ?_
  refine vx_calli (vx_runV (As := [.int p0]) (rest := [.int 0, .ref ao]) ⟨hx, hb, hml, hown, hts⟩ (c_X1_count l hl0 cI cZ D ad pl sa tb s.heap.size σ γ p0 hI) (cwV 1 hts gL_count_X1_count rfl rfl rfl (by decide +kernel) ⟨Nat.le_of_ble_eq_true rfl, Nat.le_of_ble_eq_true rfl⟩) ⟨PreX.blind, va_recv hK hP (ci := 0) (q0 := 0) rfl rfl, fun U hU hW => ⟨rfl, ⟨by rw [hU], by rw [hU]; exact hP, va_K.moved hW.alike hK, hDc.weaken (fun _ _ _ _ => trivial), hZ.pass hW.alike (fun a _ _ => by rw [hU]) (fun _ q => q)⟩, hX.pass hW (fun a _ _ => by rw [hU]) (fun _ q => q)⟩⟩ rfl rfl hl.1 rfl (lv_room (Nat.le_of_ble_eq_true rfl)) dL_count_4 ⟨Nat.le_of_ble_eq_true rfl, Nat.le_of_ble_eq_true rfl⟩) hS (fun q _ h => Or.inl h) (fun q h => Or.inl h) (fun q _ h => Or.inl h) (fun E ce q9 u t H locs ht hvm hpx hBX hz1 hk1 hS hce hcv hcl => ?_) (fun r u t H locs ht hvm hp hB hz1 hk1 hS => ?_)
  · obtain ⟨γ1, rfl⟩ := hpx
    obtain ⟨hE, hP1, hK1, hD1⟩ := hBX
    rw [ht] at hP1
    have hPo1 := keep1 hao hPo hk1
    have hDj : va_D (AO ad ao s.heap.size) (WC cI cZ ad (σ, γ1) ++ [cO cJ ao f]) := DJ WAd_c hao hD1 (fun _ h => Or.inl h) (Or.inr rfl)
    obtain ⟨rfl, hk⟩ := hE
    refine vx_catch (own := RL) (name := "java/lang/IndexOutOfBoundsException") (E := "java/lang/IndexOutOfBoundsException") hown [] ⟨0, 9, 12, 15⟩ [] htab (fun z hz => nomatch hz) (by decide) (by decide) (hts (.classLink RL 15 "java/lang/IndexOutOfBoundsException") (by decide +kernel)) (va_Nw.use rfl hX.2.1.2.1) hce hcv hcl ?_
    refine lv_astore_n (lv' := [(3, .ref q9), (0, .ref (ad 0)), (1, .int p0), (2, .ref ao)]) hx hb dL_count_12 rfl hl (by decide) rfl (fun ls hl => ?_)
    refine lv_iconst (v := 1) hx hb dL_count_13 (by decide) ?_
    exact vx_ret (W.zret hx hb hr rfl (fun t2 ht2 hW => ⟨⟨1, (σ, γ1, f), rfl, ⟨rfl, by rw [hk]; rfl, fun q => absurd (hk.symm.trans q) (by decide)⟩, by rw [ht2]; exact hP1.app hPo1, hDj⟩, hS.F ht2⟩) hS.2.2 dL_count_14 hlocks)
  · obtain ⟨⟨γ1, rfl⟩, ho⟩ := hp
    obtain ⟨hP1, hK1, hD1⟩ := hB
    rw [ht] at hP1
    have hPo1 := keep1 hao hPo hk1
    have hDj : va_D (AO ad ao s.heap.size) (WC cI cZ ad (σ, γ1) ++ [cO cJ ao f]) := DJ WAd_c hao hD1 (fun _ h => Or.inl h) (Or.inr rfl)
    refine lv_i2l hx hb dL_count_7 rfl ?_
    refine va_last hx hb hKo (hP1.app hPo1) hDj hS 12 0 rfl rfl (q_vin (x := 0) (j := 0) (n := 1) (by decide) (by decide)) dL_count_8 (fun H locs hP hD hS => ?_)
    refine lv_goto (tgt := 15) hx hb dL_count_9 (by decide) ?_
    refine lv_iconst (v := 0) hx hb dL_count_15 (by decide) ?_
    exact vx_ret (W.zret hx hb hr rfl (fun t2 ht2 hW => ⟨⟨0, (σ, γ1, vp_updL f (0 : Int32).toNatClampNeg r.toInt64), rfl, ⟨rfl, by rw [ho]; rfl, fun _ => by rw [ho]; rfl⟩, by rw [ht2]; exact hP, hD⟩, hS.F ht2⟩) hS.2.2 dL_count_16 hlocks)

