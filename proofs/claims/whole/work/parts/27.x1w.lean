set_option maxHeartbeats 4000000 in
set_option maxRecDepth 100000 in
theorem k_house {p : Program} {e : Env} {s : State} {m : MethodId} {below : List Frame} {meth : Method} {c : Code} (l : Launch) (hl0 : l.stackTraces = false) {b L : Nat} {xs : Nat → Int32} (C0 : lw_At p s m meth c b L xs) {cI cZ cJ : ClassId} {D : va_G} {ad bd pl sa : Nat → Nat} {tb ao : Nat} (C1 : LC cI cZ cJ D ad bd pl sa tb ao s)
    {k : Nat} (hk : 4 * k + 5 ≤ L) (hL5 : L ≤ 2049) (hn : NX p l e s m below meth c b cI cZ cJ D ad bd ao k) (σ γ δ : Sg) (w : Int32) (f : Nat → Int64) (hI : Inv σ) (H : Heap) (locs : List Loc) (ls : Array Slot) (hw : LW cI cZ cJ D ad bd ao s σ γ δ w f H locs) (hl : lv_has ls 7 (LV b ad bd ao k)) : W p l e room_1 s m #[Value.ref b] below meth c H locs (25 + k) (4789 + 6 * k) (lw_Z below #[Value.ref b] s) (F0 m 128 ls []) := by
  obtain ⟨hx, hb, hr, hml, hown, hts0, hX0, hbl, hlocks, hgv⟩ := C0
  have hts : ∀ w ∈ wsL_law, w.before #[Value.ref b] s = true := fun w h => hts0 w (wsL_law_in w h)
  obtain ⟨hK, hKo, hNc, hZ, hX, hsep, hao, hbo, hAo⟩ := C1
  obtain ⟨hP1, hD1, hP2, hD2, hPo, hS⟩ := hw
  have hA : ∀ q : Nat, s.heap.size ≤ q → (fun q : Nat => s.heap.size ≤ q) q := fun _ h => h
  have hbA : ¬ (fun q : Nat => s.heap.size ≤ q) b := Nat.not_le.mpr hbl
  have hf : 25 + k ≤ room_1.cells ∧ 4789 + 6 * k ≤ room_1.slots := ⟨by show 25 + k ≤ 1055; omega, by show 4789 + 6 * k ≤ 13017; omega⟩
  refine lv_aload_n hx hb dL_law_128 rfl (lv_at hl 1 rfl) ?_
  refine lv_aload_n hx hb dL_law_129 rfl (lv_at hl 0 rfl) ?_
  refine lv_iload hx hb dL_law_130 (lv_at hl 4 rfl) ?_
  refine lv_iconst (v := 1) hx hb dL_law_132 (by decide) ?_
  refine lv_iadd hx hb dL_law_133 ?_
  refine q_topi (nI (4 * k + 1 + 1)) (nI_add (4 * k + 1) 1) ?_
  refine q_sld hx hb hX0 hbl hbA hS (4 * k + 1 + 1) (nI_toInt (by omega)) (by omega) dL_law_134 ?_
  refine lv_aload_n hx hb dL_law_135 rfl (lv_at hl 0 rfl) ?_
  refine lv_iload hx hb dL_law_136 (lv_at hl 4 rfl) ?_
  refine lv_iconst (v := 2) hx hb dL_law_138 (by decide) ?_
  refine lv_iadd hx hb dL_law_139 ?_
  refine q_topi (nI (4 * k + 1 + 2)) (nI_add (4 * k + 1) 2) ?_
  refine q_sld hx hb hX0 hbl hbA hS (4 * k + 1 + 2) (nI_toInt (by omega)) (by omega) dL_law_140 ?_
  refine callK_i (As := [.int (xs (4 * k + 1 + 1)), .int (xs (4 * k + 1 + 2))]) (rest := []) WAd_c ⟨hx, hb, hml, hown, hts⟩ (c_X1_house l cI cZ D ad pl tb _ σ γ (xs (4 * k + 1 + 1)) (xs (4 * k + 1 + 2)) hI) (cwV 2 hts gL_law_X1_house rfl rfl rfl (by decide +kernel) ⟨Nat.le_of_ble_eq_true rfl, Nat.le_of_ble_eq_true rfl⟩) (va_recv hK hP1 (ci := 0) (q0 := 0) rfl rfl) hK hP1 hD1 hS hA hZ rfl rfl (Nat.le_of_ble_eq_true rfl) hl.1 dL_law_141 hf (fun r u H locs hq hP1 hD1 hS hk1 => ?_)
  have hP2 := keepW WAd_m hsep hP2 hk1
  have hPo := keep1 hao hPo hk1
  obtain ⟨γ1, rfl, rfl⟩ := hq
  refine lv_aload_n hx hb dL_law_144 rfl (lv_at hl 2 rfl) ?_
  refine lv_aload_n hx hb dL_law_145 rfl (lv_at hl 0 rfl) ?_
  refine lv_iload hx hb dL_law_146 (lv_at hl 4 rfl) ?_
  refine lv_iconst (v := 1) hx hb dL_law_148 (by decide) ?_
  refine lv_iadd hx hb dL_law_149 ?_
  refine q_topi (nI (4 * k + 1 + 1)) (nI_add (4 * k + 1) 1) ?_
  refine q_sld hx hb hX0 hbl hbA hS (4 * k + 1 + 1) (nI_toInt (by omega)) (by omega) dL_law_150 ?_
  refine lv_aload_n hx hb dL_law_151 rfl (lv_at hl 0 rfl) ?_
  refine lv_iload hx hb dL_law_152 (lv_at hl 4 rfl) ?_
  refine lv_iconst (v := 2) hx hb dL_law_154 (by decide) ?_
  refine lv_iadd hx hb dL_law_155 ?_
  refine q_topi (nI (4 * k + 1 + 2)) (nI_add (4 * k + 1) 2) ?_
  refine q_sld hx hb hX0 hbl hbA hS (4 * k + 1 + 2) (nI_toInt (by omega)) (by omega) dL_law_156 ?_
  refine callK_i (As := [.int (xs (4 * k + 1 + 1)), .int (xs (4 * k + 1 + 2))]) (rest := [.int ((oHouse σ (xs (4 * k + 1 + 1)) (xs (4 * k + 1 + 2))).1)]) WAd_m ⟨hx, hb, hml, hown, hts⟩ (c_X2_house l cI cZ D bd pl tb _ σ δ w (xs (4 * k + 1 + 1)) (xs (4 * k + 1 + 2)) hI) (cwV 2 hts gL_law_X2_house rfl rfl rfl (by decide +kernel) ⟨Nat.le_of_ble_eq_true rfl, Nat.le_of_ble_eq_true rfl⟩) (va_recv hK hP2 (ci := 1) (q0 := 0) rfl rfl) hK hP2 hD2 hS hA hZ rfl rfl (Nat.le_of_ble_eq_true rfl) hl.1 dL_law_157 hf (fun r u H locs hq hP2 hD2 hS hk1 => ?_)
  have hP1 := keepW WAd_c (fun i j hi hj z => hsep j i hj hi z.symm) hP1 hk1
  have hPo := keep1 hbo hPo hk1
  obtain ⟨δ1, w1, rfl, rfl⟩ := hq
  refine lv_icmp_eq (tgt := 800) hx hb dL_law_160 (by decide) (fun _ => ?_) (fun c_1 => absurd rfl c_1)
  refine W.widen (k := 25 + (k + 1)) (n := 4789 + 6 * (k + 1)) (by omega) (by omega) ?_
  exact hn ((oHouse σ (xs (4 * k + 1 + 1)) (xs (4 * k + 1 + 2))).2) γ1 δ1 w1 f (Io_house hI) _ _ _ ⟨hP1, hD1, hP2, hD2, hPo, hS⟩ hl

set_option maxHeartbeats 4000000 in
set_option maxRecDepth 100000 in
theorem k_point {p : Program} {e : Env} {s : State} {m : MethodId} {below : List Frame} {meth : Method} {c : Code} (l : Launch) (hl0 : l.stackTraces = false) {b L : Nat} {xs : Nat → Int32} (C0 : lw_At p s m meth c b L xs) {cI cZ cJ : ClassId} {D : va_G} {ad bd pl sa : Nat → Nat} {tb ao : Nat} (C1 : LC cI cZ cJ D ad bd pl sa tb ao s)
    {k : Nat} (hk : 4 * k + 5 ≤ L) (hL5 : L ≤ 2049) (hn : NX p l e s m below meth c b cI cZ cJ D ad bd ao k) (σ γ δ : Sg) (w : Int32) (f : Nat → Int64) (hI : Inv σ) (H : Heap) (locs : List Loc) (ls : Array Slot) (hw : LW cI cZ cJ D ad bd ao s σ γ δ w f H locs) (hl : lv_has ls 7 (LV b ad bd ao k)) : W p l e room_1 s m #[Value.ref b] below meth c H locs (25 + k) (4789 + 6 * k) (lw_Z below #[Value.ref b] s) (F0 m 165 ls []) := by
  obtain ⟨hx, hb, hr, hml, hown, hts0, hX0, hbl, hlocks, hgv⟩ := C0
  have hts : ∀ w ∈ wsL_law, w.before #[Value.ref b] s = true := fun w h => hts0 w (wsL_law_in w h)
  obtain ⟨hK, hKo, hNc, hZ, hX, hsep, hao, hbo, hAo⟩ := C1
  obtain ⟨hP1, hD1, hP2, hD2, hPo, hS⟩ := hw
  have hA : ∀ q : Nat, s.heap.size ≤ q → (fun q : Nat => s.heap.size ≤ q) q := fun _ h => h
  have hbA : ¬ (fun q : Nat => s.heap.size ≤ q) b := Nat.not_le.mpr hbl
  have hf : 25 + k ≤ room_1.cells ∧ 4789 + 6 * k ≤ room_1.slots := ⟨by show 25 + k ≤ 1055; omega, by show 4789 + 6 * k ≤ 13017; omega⟩
  refine lv_aload_n hx hb dL_law_165 rfl (lv_at hl 1 rfl) ?_
  refine lv_aload_n hx hb dL_law_166 rfl (lv_at hl 0 rfl) ?_
  refine lv_iload hx hb dL_law_167 (lv_at hl 4 rfl) ?_
  refine lv_iconst (v := 1) hx hb dL_law_169 (by decide) ?_
  refine lv_iadd hx hb dL_law_170 ?_
  refine q_topi (nI (4 * k + 1 + 1)) (nI_add (4 * k + 1) 1) ?_
  refine q_sld hx hb hX0 hbl hbA hS (4 * k + 1 + 1) (nI_toInt (by omega)) (by omega) dL_law_171 ?_
  refine lv_aload_n hx hb dL_law_172 rfl (lv_at hl 0 rfl) ?_
  refine lv_iload hx hb dL_law_173 (lv_at hl 4 rfl) ?_
  refine lv_iconst (v := 2) hx hb dL_law_175 (by decide) ?_
  refine lv_iadd hx hb dL_law_176 ?_
  refine q_topi (nI (4 * k + 1 + 2)) (nI_add (4 * k + 1) 2) ?_
  refine q_sld hx hb hX0 hbl hbA hS (4 * k + 1 + 2) (nI_toInt (by omega)) (by omega) dL_law_177 ?_
  refine callK_i (As := [.int (xs (4 * k + 1 + 1)), .int (xs (4 * k + 1 + 2))]) (rest := []) WAd_c ⟨hx, hb, hml, hown, hts⟩ (c_X1_point l cI cZ D ad pl tb _ σ γ (xs (4 * k + 1 + 1)) (xs (4 * k + 1 + 2)) hI) (cwV 2 hts gL_law_X1_point rfl rfl rfl (by decide +kernel) ⟨Nat.le_of_ble_eq_true rfl, Nat.le_of_ble_eq_true rfl⟩) (va_recv hK hP1 (ci := 0) (q0 := 0) rfl rfl) hK hP1 hD1 hS hA hZ rfl rfl (Nat.le_of_ble_eq_true rfl) hl.1 dL_law_178 hf (fun r u H locs hq hP1 hD1 hS hk1 => ?_)
  have hP2 := keepW WAd_m hsep hP2 hk1
  have hPo := keep1 hao hPo hk1
  obtain ⟨γ1, rfl, rfl⟩ := hq
  refine lv_aload_n hx hb dL_law_181 rfl (lv_at hl 2 rfl) ?_
  refine lv_aload_n hx hb dL_law_182 rfl (lv_at hl 0 rfl) ?_
  refine lv_iload hx hb dL_law_183 (lv_at hl 4 rfl) ?_
  refine lv_iconst (v := 1) hx hb dL_law_185 (by decide) ?_
  refine lv_iadd hx hb dL_law_186 ?_
  refine q_topi (nI (4 * k + 1 + 1)) (nI_add (4 * k + 1) 1) ?_
  refine q_sld hx hb hX0 hbl hbA hS (4 * k + 1 + 1) (nI_toInt (by omega)) (by omega) dL_law_187 ?_
  refine lv_aload_n hx hb dL_law_188 rfl (lv_at hl 0 rfl) ?_
  refine lv_iload hx hb dL_law_189 (lv_at hl 4 rfl) ?_
  refine lv_iconst (v := 2) hx hb dL_law_191 (by decide) ?_
  refine lv_iadd hx hb dL_law_192 ?_
  refine q_topi (nI (4 * k + 1 + 2)) (nI_add (4 * k + 1) 2) ?_
  refine q_sld hx hb hX0 hbl hbA hS (4 * k + 1 + 2) (nI_toInt (by omega)) (by omega) dL_law_193 ?_
  refine callK_i (As := [.int (xs (4 * k + 1 + 1)), .int (xs (4 * k + 1 + 2))]) (rest := [.int ((oPoint σ (xs (4 * k + 1 + 1)) (xs (4 * k + 1 + 2))).1)]) WAd_m ⟨hx, hb, hml, hown, hts⟩ (c_X2_point l cI cZ D bd pl tb _ σ δ w (xs (4 * k + 1 + 1)) (xs (4 * k + 1 + 2)) hI) (cwV 2 hts gL_law_X2_point rfl rfl rfl (by decide +kernel) ⟨Nat.le_of_ble_eq_true rfl, Nat.le_of_ble_eq_true rfl⟩) (va_recv hK hP2 (ci := 1) (q0 := 0) rfl rfl) hK hP2 hD2 hS hA hZ rfl rfl (Nat.le_of_ble_eq_true rfl) hl.1 dL_law_194 hf (fun r u H locs hq hP2 hD2 hS hk1 => ?_)
  have hP1 := keepW WAd_c (fun i j hi hj z => hsep j i hj hi z.symm) hP1 hk1
  have hPo := keep1 hbo hPo hk1
  obtain ⟨δ1, w1, rfl, rfl⟩ := hq
  refine lv_icmp_eq (tgt := 800) hx hb dL_law_197 (by decide) (fun _ => ?_) (fun c_1 => absurd rfl c_1)
  refine W.widen (k := 25 + (k + 1)) (n := 4789 + 6 * (k + 1)) (by omega) (by omega) ?_
  exact hn ((oPoint σ (xs (4 * k + 1 + 1)) (xs (4 * k + 1 + 2))).2) γ1 δ1 w1 f (Io_point hI) _ _ _ ⟨hP1, hD1, hP2, hD2, hPo, hS⟩ hl

set_option maxHeartbeats 4000000 in
set_option maxRecDepth 100000 in
theorem k_item {p : Program} {e : Env} {s : State} {m : MethodId} {below : List Frame} {meth : Method} {c : Code} (l : Launch) (hl0 : l.stackTraces = false) {b L : Nat} {xs : Nat → Int32} (C0 : lw_At p s m meth c b L xs) {cI cZ cJ : ClassId} {D : va_G} {ad bd pl sa : Nat → Nat} {tb ao : Nat} (C1 : LC cI cZ cJ D ad bd pl sa tb ao s)
    {k : Nat} (hk : 4 * k + 5 ≤ L) (hL5 : L ≤ 2049) (hn : NX p l e s m below meth c b cI cZ cJ D ad bd ao k) (σ γ δ : Sg) (w : Int32) (f : Nat → Int64) (hI : Inv σ) (H : Heap) (locs : List Loc) (ls : Array Slot) (hw : LW cI cZ cJ D ad bd ao s σ γ δ w f H locs) (hl : lv_has ls 7 (LV b ad bd ao k)) : W p l e room_1 s m #[Value.ref b] below meth c H locs (25 + k) (4789 + 6 * k) (lw_Z below #[Value.ref b] s) (F0 m 202 ls []) := by
  obtain ⟨hx, hb, hr, hml, hown, hts0, hX0, hbl, hlocks, hgv⟩ := C0
  have hts : ∀ w ∈ wsL_law, w.before #[Value.ref b] s = true := fun w h => hts0 w (wsL_law_in w h)
  obtain ⟨hK, hKo, hNc, hZ, hX, hsep, hao, hbo, hAo⟩ := C1
  obtain ⟨hP1, hD1, hP2, hD2, hPo, hS⟩ := hw
  have hA : ∀ q : Nat, s.heap.size ≤ q → (fun q : Nat => s.heap.size ≤ q) q := fun _ h => h
  have hbA : ¬ (fun q : Nat => s.heap.size ≤ q) b := Nat.not_le.mpr hbl
  have hf : 25 + k ≤ room_1.cells ∧ 4789 + 6 * k ≤ room_1.slots := ⟨by show 25 + k ≤ 1055; omega, by show 4789 + 6 * k ≤ 13017; omega⟩
  refine lv_aload_n hx hb dL_law_202 rfl (lv_at hl 1 rfl) ?_
  refine lv_aload_n hx hb dL_law_203 rfl (lv_at hl 0 rfl) ?_
  refine lv_iload hx hb dL_law_204 (lv_at hl 4 rfl) ?_
  refine lv_iconst (v := 1) hx hb dL_law_206 (by decide) ?_
  refine lv_iadd hx hb dL_law_207 ?_
  refine q_topi (nI (4 * k + 1 + 1)) (nI_add (4 * k + 1) 1) ?_
  refine q_sld hx hb hX0 hbl hbA hS (4 * k + 1 + 1) (nI_toInt (by omega)) (by omega) dL_law_208 ?_
  refine lv_aload_n hx hb dL_law_209 rfl (lv_at hl 0 rfl) ?_
  refine lv_iload hx hb dL_law_210 (lv_at hl 4 rfl) ?_
  refine lv_iconst (v := 2) hx hb dL_law_212 (by decide) ?_
  refine lv_iadd hx hb dL_law_213 ?_
  refine q_topi (nI (4 * k + 1 + 2)) (nI_add (4 * k + 1) 2) ?_
  refine q_sld hx hb hX0 hbl hbA hS (4 * k + 1 + 2) (nI_toInt (by omega)) (by omega) dL_law_214 ?_
  refine callK_i (As := [.int (xs (4 * k + 1 + 1)), .int (xs (4 * k + 1 + 2))]) (rest := []) WAd_c ⟨hx, hb, hml, hown, hts⟩ (c_X1_item l cI cZ D ad pl tb _ σ γ (xs (4 * k + 1 + 1)) (xs (4 * k + 1 + 2)) hI) (cwV 2 hts gL_law_X1_item rfl rfl rfl (by decide +kernel) ⟨Nat.le_of_ble_eq_true rfl, Nat.le_of_ble_eq_true rfl⟩) (va_recv hK hP1 (ci := 0) (q0 := 0) rfl rfl) hK hP1 hD1 hS hA hZ rfl rfl (Nat.le_of_ble_eq_true rfl) hl.1 dL_law_215 hf (fun r u H locs hq hP1 hD1 hS hk1 => ?_)
  have hP2 := keepW WAd_m hsep hP2 hk1
  have hPo := keep1 hao hPo hk1
  obtain ⟨γ1, rfl, rfl⟩ := hq
  refine lv_aload_n hx hb dL_law_218 rfl (lv_at hl 2 rfl) ?_
  refine lv_aload_n hx hb dL_law_219 rfl (lv_at hl 0 rfl) ?_
  refine lv_iload hx hb dL_law_220 (lv_at hl 4 rfl) ?_
  refine lv_iconst (v := 1) hx hb dL_law_222 (by decide) ?_
  refine lv_iadd hx hb dL_law_223 ?_
  refine q_topi (nI (4 * k + 1 + 1)) (nI_add (4 * k + 1) 1) ?_
  refine q_sld hx hb hX0 hbl hbA hS (4 * k + 1 + 1) (nI_toInt (by omega)) (by omega) dL_law_224 ?_
  refine lv_aload_n hx hb dL_law_225 rfl (lv_at hl 0 rfl) ?_
  refine lv_iload hx hb dL_law_226 (lv_at hl 4 rfl) ?_
  refine lv_iconst (v := 2) hx hb dL_law_228 (by decide) ?_
  refine lv_iadd hx hb dL_law_229 ?_
  refine q_topi (nI (4 * k + 1 + 2)) (nI_add (4 * k + 1) 2) ?_
  refine q_sld hx hb hX0 hbl hbA hS (4 * k + 1 + 2) (nI_toInt (by omega)) (by omega) dL_law_230 ?_
  refine callK_i (As := [.int (xs (4 * k + 1 + 1)), .int (xs (4 * k + 1 + 2))]) (rest := [.int ((oItem σ (xs (4 * k + 1 + 1)) (xs (4 * k + 1 + 2))).1)]) WAd_m ⟨hx, hb, hml, hown, hts⟩ (c_X2_item l cI cZ D bd pl tb _ σ δ w (xs (4 * k + 1 + 1)) (xs (4 * k + 1 + 2)) hI) (cwV 2 hts gL_law_X2_item rfl rfl rfl (by decide +kernel) ⟨Nat.le_of_ble_eq_true rfl, Nat.le_of_ble_eq_true rfl⟩) (va_recv hK hP2 (ci := 1) (q0 := 0) rfl rfl) hK hP2 hD2 hS hA hZ rfl rfl (Nat.le_of_ble_eq_true rfl) hl.1 dL_law_231 hf (fun r u H locs hq hP2 hD2 hS hk1 => ?_)
  have hP1 := keepW WAd_c (fun i j hi hj z => hsep j i hj hi z.symm) hP1 hk1
  have hPo := keep1 hbo hPo hk1
  obtain ⟨δ1, w1, rfl, rfl⟩ := hq
  refine lv_icmp_eq (tgt := 800) hx hb dL_law_234 (by decide) (fun _ => ?_) (fun c_1 => absurd rfl c_1)
  refine W.widen (k := 25 + (k + 1)) (n := 4789 + 6 * (k + 1)) (by omega) (by omega) ?_
  exact hn ((oItem σ (xs (4 * k + 1 + 1)) (xs (4 * k + 1 + 2))).2) γ1 δ1 w1 f (Io_item hI) _ _ _ ⟨hP1, hD1, hP2, hD2, hPo, hS⟩ hl

set_option maxHeartbeats 4000000 in
set_option maxRecDepth 100000 in
theorem k_bundle {p : Program} {e : Env} {s : State} {m : MethodId} {below : List Frame} {meth : Method} {c : Code} (l : Launch) (hl0 : l.stackTraces = false) {b L : Nat} {xs : Nat → Int32} (C0 : lw_At p s m meth c b L xs) {cI cZ cJ : ClassId} {D : va_G} {ad bd pl sa : Nat → Nat} {tb ao : Nat} (C1 : LC cI cZ cJ D ad bd pl sa tb ao s)
    {k : Nat} (hk : 4 * k + 5 ≤ L) (hL5 : L ≤ 2049) (hn : NX p l e s m below meth c b cI cZ cJ D ad bd ao k) (σ γ δ : Sg) (w : Int32) (f : Nat → Int64) (hI : Inv σ) (H : Heap) (locs : List Loc) (ls : Array Slot) (hw : LW cI cZ cJ D ad bd ao s σ γ δ w f H locs) (hl : lv_has ls 7 (LV b ad bd ao k)) : W p l e room_1 s m #[Value.ref b] below meth c H locs (25 + k) (4789 + 6 * k) (lw_Z below #[Value.ref b] s) (F0 m 239 ls []) := by
  obtain ⟨hx, hb, hr, hml, hown, hts0, hX0, hbl, hlocks, hgv⟩ := C0
  have hts : ∀ w ∈ wsL_law, w.before #[Value.ref b] s = true := fun w h => hts0 w (wsL_law_in w h)
  obtain ⟨hK, hKo, hNc, hZ, hX, hsep, hao, hbo, hAo⟩ := C1
  obtain ⟨hP1, hD1, hP2, hD2, hPo, hS⟩ := hw
  have hA : ∀ q : Nat, s.heap.size ≤ q → (fun q : Nat => s.heap.size ≤ q) q := fun _ h => h
  have hbA : ¬ (fun q : Nat => s.heap.size ≤ q) b := Nat.not_le.mpr hbl
  have hf : 25 + k ≤ room_1.cells ∧ 4789 + 6 * k ≤ room_1.slots := ⟨by show 25 + k ≤ 1055; omega, by show 4789 + 6 * k ≤ 13017; omega⟩
  refine lv_aload_n hx hb dL_law_239 rfl (lv_at hl 1 rfl) ?_
  refine lv_aload_n hx hb dL_law_240 rfl (lv_at hl 0 rfl) ?_
  refine lv_iload hx hb dL_law_241 (lv_at hl 4 rfl) ?_
  refine lv_iconst (v := 1) hx hb dL_law_243 (by decide) ?_
  refine lv_iadd hx hb dL_law_244 ?_
  refine q_topi (nI (4 * k + 1 + 1)) (nI_add (4 * k + 1) 1) ?_
  refine q_sld hx hb hX0 hbl hbA hS (4 * k + 1 + 1) (nI_toInt (by omega)) (by omega) dL_law_245 ?_
  refine lv_aload_n hx hb dL_law_246 rfl (lv_at hl 0 rfl) ?_
  refine lv_iload hx hb dL_law_247 (lv_at hl 4 rfl) ?_
  refine lv_iconst (v := 2) hx hb dL_law_249 (by decide) ?_
  refine lv_iadd hx hb dL_law_250 ?_
  refine q_topi (nI (4 * k + 1 + 2)) (nI_add (4 * k + 1) 2) ?_
  refine q_sld hx hb hX0 hbl hbA hS (4 * k + 1 + 2) (nI_toInt (by omega)) (by omega) dL_law_251 ?_
  refine callK_i (As := [.int (xs (4 * k + 1 + 1)), .int (xs (4 * k + 1 + 2))]) (rest := []) WAd_c ⟨hx, hb, hml, hown, hts⟩ (c_X1_bundle l cI cZ D ad pl tb _ σ γ (xs (4 * k + 1 + 1)) (xs (4 * k + 1 + 2)) hI) (cwV 2 hts gL_law_X1_bundle rfl rfl rfl (by decide +kernel) ⟨Nat.le_of_ble_eq_true rfl, Nat.le_of_ble_eq_true rfl⟩) (va_recv hK hP1 (ci := 0) (q0 := 0) rfl rfl) hK hP1 hD1 hS hA hZ rfl rfl (Nat.le_of_ble_eq_true rfl) hl.1 dL_law_252 hf (fun r u H locs hq hP1 hD1 hS hk1 => ?_)
  have hP2 := keepW WAd_m hsep hP2 hk1
  have hPo := keep1 hao hPo hk1
  obtain ⟨γ1, rfl, rfl⟩ := hq
  refine lv_aload_n hx hb dL_law_255 rfl (lv_at hl 2 rfl) ?_
  refine lv_aload_n hx hb dL_law_256 rfl (lv_at hl 0 rfl) ?_
  refine lv_iload hx hb dL_law_257 (lv_at hl 4 rfl) ?_
  refine lv_iconst (v := 1) hx hb dL_law_259 (by decide) ?_
  refine lv_iadd hx hb dL_law_260 ?_
  refine q_topi (nI (4 * k + 1 + 1)) (nI_add (4 * k + 1) 1) ?_
  refine q_sld hx hb hX0 hbl hbA hS (4 * k + 1 + 1) (nI_toInt (by omega)) (by omega) dL_law_261 ?_
  refine lv_aload_n hx hb dL_law_262 rfl (lv_at hl 0 rfl) ?_
  refine lv_iload hx hb dL_law_263 (lv_at hl 4 rfl) ?_
  refine lv_iconst (v := 2) hx hb dL_law_265 (by decide) ?_
  refine lv_iadd hx hb dL_law_266 ?_
  refine q_topi (nI (4 * k + 1 + 2)) (nI_add (4 * k + 1) 2) ?_
  refine q_sld hx hb hX0 hbl hbA hS (4 * k + 1 + 2) (nI_toInt (by omega)) (by omega) dL_law_267 ?_
  refine callK_i (As := [.int (xs (4 * k + 1 + 1)), .int (xs (4 * k + 1 + 2))]) (rest := [.int ((oBundle σ (xs (4 * k + 1 + 1)) (xs (4 * k + 1 + 2))).1)]) WAd_m ⟨hx, hb, hml, hown, hts⟩ (c_X2_bundle l cI cZ D bd pl tb _ σ δ w (xs (4 * k + 1 + 1)) (xs (4 * k + 1 + 2)) hI) (cwV 2 hts gL_law_X2_bundle rfl rfl rfl (by decide +kernel) ⟨Nat.le_of_ble_eq_true rfl, Nat.le_of_ble_eq_true rfl⟩) (va_recv hK hP2 (ci := 1) (q0 := 0) rfl rfl) hK hP2 hD2 hS hA hZ rfl rfl (Nat.le_of_ble_eq_true rfl) hl.1 dL_law_268 hf (fun r u H locs hq hP2 hD2 hS hk1 => ?_)
  have hP1 := keepW WAd_c (fun i j hi hj z => hsep j i hj hi z.symm) hP1 hk1
  have hPo := keep1 hbo hPo hk1
  obtain ⟨δ1, w1, rfl, rfl⟩ := hq
  refine lv_icmp_eq (tgt := 800) hx hb dL_law_271 (by decide) (fun _ => ?_) (fun c_1 => absurd rfl c_1)
  refine W.widen (k := 25 + (k + 1)) (n := 4789 + 6 * (k + 1)) (by omega) (by omega) ?_
  exact hn ((oBundle σ (xs (4 * k + 1 + 1)) (xs (4 * k + 1 + 2))).2) γ1 δ1 w1 f (Io_bundle hI) _ _ _ ⟨hP1, hD1, hP2, hD2, hPo, hS⟩ hl

set_option maxHeartbeats 4000000 in
set_option maxRecDepth 100000 in
theorem k_put {p : Program} {e : Env} {s : State} {m : MethodId} {below : List Frame} {meth : Method} {c : Code} (l : Launch) (hl0 : l.stackTraces = false) {b L : Nat} {xs : Nat → Int32} (C0 : lw_At p s m meth c b L xs) {cI cZ cJ : ClassId} {D : va_G} {ad bd pl sa : Nat → Nat} {tb ao : Nat} (C1 : LC cI cZ cJ D ad bd pl sa tb ao s)
    {k : Nat} (hk : 4 * k + 5 ≤ L) (hL5 : L ≤ 2049) (hn : NX p l e s m below meth c b cI cZ cJ D ad bd ao k) (σ γ δ : Sg) (w : Int32) (f : Nat → Int64) (hI : Inv σ) (H : Heap) (locs : List Loc) (ls : Array Slot) (hw : LW cI cZ cJ D ad bd ao s σ γ δ w f H locs) (hl : lv_has ls 7 (LV b ad bd ao k)) : W p l e room_1 s m #[Value.ref b] below meth c H locs (25 + k) (4789 + 6 * k) (lw_Z below #[Value.ref b] s) (F0 m 276 ls []) := by
  obtain ⟨hx, hb, hr, hml, hown, hts0, hX0, hbl, hlocks, hgv⟩ := C0
  have hts : ∀ w ∈ wsL_law, w.before #[Value.ref b] s = true := fun w h => hts0 w (wsL_law_in w h)
  obtain ⟨hK, hKo, hNc, hZ, hX, hsep, hao, hbo, hAo⟩ := C1
  obtain ⟨hP1, hD1, hP2, hD2, hPo, hS⟩ := hw
  have hA : ∀ q : Nat, s.heap.size ≤ q → (fun q : Nat => s.heap.size ≤ q) q := fun _ h => h
  have hbA : ¬ (fun q : Nat => s.heap.size ≤ q) b := Nat.not_le.mpr hbl
  have hf : 25 + k ≤ room_1.cells ∧ 4789 + 6 * k ≤ room_1.slots := ⟨by show 25 + k ≤ 1055; omega, by show 4789 + 6 * k ≤ 13017; omega⟩
  refine lv_aload_n hx hb dL_law_276 rfl (lv_at hl 1 rfl) ?_
  refine lv_aload_n hx hb dL_law_277 rfl (lv_at hl 0 rfl) ?_
  refine lv_iload hx hb dL_law_278 (lv_at hl 4 rfl) ?_
  refine lv_iconst (v := 1) hx hb dL_law_280 (by decide) ?_
  refine lv_iadd hx hb dL_law_281 ?_
  refine q_topi (nI (4 * k + 1 + 1)) (nI_add (4 * k + 1) 1) ?_
  refine q_sld hx hb hX0 hbl hbA hS (4 * k + 1 + 1) (nI_toInt (by omega)) (by omega) dL_law_282 ?_
  refine lv_aload_n hx hb dL_law_283 rfl (lv_at hl 0 rfl) ?_
  refine lv_iload hx hb dL_law_284 (lv_at hl 4 rfl) ?_
  refine lv_iconst (v := 2) hx hb dL_law_286 (by decide) ?_
  refine lv_iadd hx hb dL_law_287 ?_
  refine q_topi (nI (4 * k + 1 + 2)) (nI_add (4 * k + 1) 2) ?_
  refine q_sld hx hb hX0 hbl hbA hS (4 * k + 1 + 2) (nI_toInt (by omega)) (by omega) dL_law_288 ?_
  refine callK_i (As := [.int (xs (4 * k + 1 + 1)), .int (xs (4 * k + 1 + 2))]) (rest := []) WAd_c ⟨hx, hb, hml, hown, hts⟩ (c_X1_put l cI cZ D ad pl tb _ σ γ (xs (4 * k + 1 + 1)) (xs (4 * k + 1 + 2)) hI) (cwV 2 hts gL_law_X1_put rfl rfl rfl (by decide +kernel) ⟨Nat.le_of_ble_eq_true rfl, Nat.le_of_ble_eq_true rfl⟩) (va_recv hK hP1 (ci := 0) (q0 := 0) rfl rfl) hK hP1 hD1 hS hA hZ rfl rfl (Nat.le_of_ble_eq_true rfl) hl.1 dL_law_289 hf (fun r u H locs hq hP1 hD1 hS hk1 => ?_)
  have hP2 := keepW WAd_m hsep hP2 hk1
  have hPo := keep1 hao hPo hk1
  obtain ⟨γ1, rfl, rfl⟩ := hq
  refine lv_aload_n hx hb dL_law_292 rfl (lv_at hl 2 rfl) ?_
  refine lv_aload_n hx hb dL_law_293 rfl (lv_at hl 0 rfl) ?_
  refine lv_iload hx hb dL_law_294 (lv_at hl 4 rfl) ?_
  refine lv_iconst (v := 1) hx hb dL_law_296 (by decide) ?_
  refine lv_iadd hx hb dL_law_297 ?_
  refine q_topi (nI (4 * k + 1 + 1)) (nI_add (4 * k + 1) 1) ?_
  refine q_sld hx hb hX0 hbl hbA hS (4 * k + 1 + 1) (nI_toInt (by omega)) (by omega) dL_law_298 ?_
  refine lv_aload_n hx hb dL_law_299 rfl (lv_at hl 0 rfl) ?_
  refine lv_iload hx hb dL_law_300 (lv_at hl 4 rfl) ?_
  refine lv_iconst (v := 2) hx hb dL_law_302 (by decide) ?_
  refine lv_iadd hx hb dL_law_303 ?_
  refine q_topi (nI (4 * k + 1 + 2)) (nI_add (4 * k + 1) 2) ?_
  refine q_sld hx hb hX0 hbl hbA hS (4 * k + 1 + 2) (nI_toInt (by omega)) (by omega) dL_law_304 ?_
  refine callK_i (As := [.int (xs (4 * k + 1 + 1)), .int (xs (4 * k + 1 + 2))]) (rest := [.int ((oPut σ (xs (4 * k + 1 + 1)) (xs (4 * k + 1 + 2))).1)]) WAd_m ⟨hx, hb, hml, hown, hts⟩ (c_X2_put l cI cZ D bd pl tb _ σ δ w (xs (4 * k + 1 + 1)) (xs (4 * k + 1 + 2)) hI) (cwV 2 hts gL_law_X2_put rfl rfl rfl (by decide +kernel) ⟨Nat.le_of_ble_eq_true rfl, Nat.le_of_ble_eq_true rfl⟩) (va_recv hK hP2 (ci := 1) (q0 := 0) rfl rfl) hK hP2 hD2 hS hA hZ rfl rfl (Nat.le_of_ble_eq_true rfl) hl.1 dL_law_305 hf (fun r u H locs hq hP2 hD2 hS hk1 => ?_)
  have hP1 := keepW WAd_c (fun i j hi hj z => hsep j i hj hi z.symm) hP1 hk1
  have hPo := keep1 hbo hPo hk1
  obtain ⟨δ1, w1, rfl, rfl⟩ := hq
  refine lv_icmp_eq (tgt := 800) hx hb dL_law_308 (by decide) (fun _ => ?_) (fun c_1 => absurd rfl c_1)
  refine W.widen (k := 25 + (k + 1)) (n := 4789 + 6 * (k + 1)) (by omega) (by omega) ?_
  exact hn ((oPut σ (xs (4 * k + 1 + 1)) (xs (4 * k + 1 + 2))).2) γ1 δ1 w1 f (Io_put hI) _ _ _ ⟨hP1, hD1, hP2, hD2, hPo, hS⟩ hl

set_option maxHeartbeats 4000000 in
set_option maxRecDepth 100000 in
theorem k_sample {p : Program} {e : Env} {s : State} {m : MethodId} {below : List Frame} {meth : Method} {c : Code} (l : Launch) (hl0 : l.stackTraces = false) {b L : Nat} {xs : Nat → Int32} (C0 : lw_At p s m meth c b L xs) {cI cZ cJ : ClassId} {D : va_G} {ad bd pl sa : Nat → Nat} {tb ao : Nat} (C1 : LC cI cZ cJ D ad bd pl sa tb ao s)
    {k : Nat} (hk : 4 * k + 5 ≤ L) (hL5 : L ≤ 2049) (hn : NX p l e s m below meth c b cI cZ cJ D ad bd ao k) (σ γ δ : Sg) (w : Int32) (f : Nat → Int64) (hI : Inv σ) (H : Heap) (locs : List Loc) (ls : Array Slot) (hw : LW cI cZ cJ D ad bd ao s σ γ δ w f H locs) (hl : lv_has ls 7 (LV b ad bd ao k)) : W p l e room_1 s m #[Value.ref b] below meth c H locs (25 + k) (4789 + 6 * k) (lw_Z below #[Value.ref b] s) (F0 m 366 ls []) := by
  obtain ⟨hx, hb, hr, hml, hown, hts0, hX0, hbl, hlocks, hgv⟩ := C0
  have hts : ∀ w ∈ wsL_law, w.before #[Value.ref b] s = true := fun w h => hts0 w (wsL_law_in w h)
  obtain ⟨hK, hKo, hNc, hZ, hX, hsep, hao, hbo, hAo⟩ := C1
  obtain ⟨hP1, hD1, hP2, hD2, hPo, hS⟩ := hw
  have hA : ∀ q : Nat, s.heap.size ≤ q → (fun q : Nat => s.heap.size ≤ q) q := fun _ h => h
  have hbA : ¬ (fun q : Nat => s.heap.size ≤ q) b := Nat.not_le.mpr hbl
  have hf : 25 + k ≤ room_1.cells ∧ 4789 + 6 * k ≤ room_1.slots := ⟨by show 25 + k ≤ 1055; omega, by show 4789 + 6 * k ≤ 13017; omega⟩
  refine lv_aload_n hx hb dL_law_366 rfl (lv_at hl 1 rfl) ?_
  refine lv_aload_n hx hb dL_law_367 rfl (lv_at hl 0 rfl) ?_
  refine lv_iload hx hb dL_law_368 (lv_at hl 4 rfl) ?_
  refine lv_iconst (v := 1) hx hb dL_law_370 (by decide) ?_
  refine lv_iadd hx hb dL_law_371 ?_
  refine q_topi (nI (4 * k + 1 + 1)) (nI_add (4 * k + 1) 1) ?_
  refine q_sld hx hb hX0 hbl hbA hS (4 * k + 1 + 1) (nI_toInt (by omega)) (by omega) dL_law_372 ?_
  refine lv_aload_n hx hb dL_law_373 rfl (lv_at hl 0 rfl) ?_
  refine lv_iload hx hb dL_law_374 (lv_at hl 4 rfl) ?_
  refine lv_iconst (v := 2) hx hb dL_law_376 (by decide) ?_
  refine lv_iadd hx hb dL_law_377 ?_
  refine q_topi (nI (4 * k + 1 + 2)) (nI_add (4 * k + 1) 2) ?_
  refine q_sld hx hb hX0 hbl hbA hS (4 * k + 1 + 2) (nI_toInt (by omega)) (by omega) dL_law_378 ?_
  refine lv_aload_n hx hb dL_law_379 rfl (lv_at hl 0 rfl) ?_
  refine lv_iload hx hb dL_law_380 (lv_at hl 4 rfl) ?_
  refine lv_iconst (v := 3) hx hb dL_law_382 (by decide) ?_
  refine lv_iadd hx hb dL_law_383 ?_
  refine q_topi (nI (4 * k + 1 + 3)) (nI_add (4 * k + 1) 3) ?_
  refine q_sld hx hb hX0 hbl hbA hS (4 * k + 1 + 3) (nI_toInt (by omega)) (by omega) dL_law_384 ?_
  refine callK_i (As := [.int (xs (4 * k + 1 + 1)), .int (xs (4 * k + 1 + 2)), .int (xs (4 * k + 1 + 3))]) (rest := []) WAd_c ⟨hx, hb, hml, hown, hts⟩ (c_X1_sample l cI cZ D ad pl tb _ σ γ (xs (4 * k + 1 + 1)) (xs (4 * k + 1 + 2)) (xs (4 * k + 1 + 3)) hI) (cwV 3 hts gL_law_X1_sample rfl rfl rfl (by decide +kernel) ⟨Nat.le_of_ble_eq_true rfl, Nat.le_of_ble_eq_true rfl⟩) (va_recv hK hP1 (ci := 0) (q0 := 0) rfl rfl) hK hP1 hD1 hS hA hZ rfl rfl (Nat.le_of_ble_eq_true rfl) hl.1 dL_law_385 hf (fun r u H locs hq hP1 hD1 hS hk1 => ?_)
  have hP2 := keepW WAd_m hsep hP2 hk1
  have hPo := keep1 hao hPo hk1
  obtain ⟨γ1, rfl, rfl⟩ := hq
  refine lv_aload_n hx hb dL_law_388 rfl (lv_at hl 2 rfl) ?_
  refine lv_aload_n hx hb dL_law_389 rfl (lv_at hl 0 rfl) ?_
  refine lv_iload hx hb dL_law_390 (lv_at hl 4 rfl) ?_
  refine lv_iconst (v := 1) hx hb dL_law_392 (by decide) ?_
  refine lv_iadd hx hb dL_law_393 ?_
  refine q_topi (nI (4 * k + 1 + 1)) (nI_add (4 * k + 1) 1) ?_
  refine q_sld hx hb hX0 hbl hbA hS (4 * k + 1 + 1) (nI_toInt (by omega)) (by omega) dL_law_394 ?_
  refine lv_aload_n hx hb dL_law_395 rfl (lv_at hl 0 rfl) ?_
  refine lv_iload hx hb dL_law_396 (lv_at hl 4 rfl) ?_
  refine lv_iconst (v := 2) hx hb dL_law_398 (by decide) ?_
  refine lv_iadd hx hb dL_law_399 ?_
  refine q_topi (nI (4 * k + 1 + 2)) (nI_add (4 * k + 1) 2) ?_
  refine q_sld hx hb hX0 hbl hbA hS (4 * k + 1 + 2) (nI_toInt (by omega)) (by omega) dL_law_400 ?_
  refine lv_aload_n hx hb dL_law_401 rfl (lv_at hl 0 rfl) ?_
  refine lv_iload hx hb dL_law_402 (lv_at hl 4 rfl) ?_
  refine lv_iconst (v := 3) hx hb dL_law_404 (by decide) ?_
  refine lv_iadd hx hb dL_law_405 ?_
  refine q_topi (nI (4 * k + 1 + 3)) (nI_add (4 * k + 1) 3) ?_
  refine q_sld hx hb hX0 hbl hbA hS (4 * k + 1 + 3) (nI_toInt (by omega)) (by omega) dL_law_406 ?_
  refine callK_i (As := [.int (xs (4 * k + 1 + 1)), .int (xs (4 * k + 1 + 2)), .int (xs (4 * k + 1 + 3))]) (rest := [.int ((oSample σ (xs (4 * k + 1 + 1)) (xs (4 * k + 1 + 2)) (xs (4 * k + 1 + 3))).1)]) WAd_m ⟨hx, hb, hml, hown, hts⟩ (c_X2_sample l cI cZ D bd pl tb _ σ δ w (xs (4 * k + 1 + 1)) (xs (4 * k + 1 + 2)) (xs (4 * k + 1 + 3)) hI) (cwV 3 hts gL_law_X2_sample rfl rfl rfl (by decide +kernel) ⟨Nat.le_of_ble_eq_true rfl, Nat.le_of_ble_eq_true rfl⟩) (va_recv hK hP2 (ci := 1) (q0 := 0) rfl rfl) hK hP2 hD2 hS hA hZ rfl rfl (Nat.le_of_ble_eq_true rfl) hl.1 dL_law_407 hf (fun r u H locs hq hP2 hD2 hS hk1 => ?_)
  have hP1 := keepW WAd_c (fun i j hi hj z => hsep j i hj hi z.symm) hP1 hk1
  have hPo := keep1 hbo hPo hk1
  obtain ⟨δ1, w1, rfl, rfl⟩ := hq
  refine lv_icmp_eq (tgt := 800) hx hb dL_law_410 (by decide) (fun _ => ?_) (fun c_1 => absurd rfl c_1)
  refine W.widen (k := 25 + (k + 1)) (n := 4789 + 6 * (k + 1)) (by omega) (by omega) ?_
  exact hn ((oSample σ (xs (4 * k + 1 + 1)) (xs (4 * k + 1 + 2)) (xs (4 * k + 1 + 3))).2) γ1 δ1 w1 f (Io_sample hI) _ _ _ ⟨hP1, hD1, hP2, hD2, hPo, hS⟩ hl

set_option maxHeartbeats 4000000 in
set_option maxRecDepth 100000 in
theorem k_sort {p : Program} {e : Env} {s : State} {m : MethodId} {below : List Frame} {meth : Method} {c : Code} (l : Launch) (hl0 : l.stackTraces = false) {b L : Nat} {xs : Nat → Int32} (C0 : lw_At p s m meth c b L xs) {cI cZ cJ : ClassId} {D : va_G} {ad bd pl sa : Nat → Nat} {tb ao : Nat} (C1 : LC cI cZ cJ D ad bd pl sa tb ao s)
    {k : Nat} (hk : 4 * k + 5 ≤ L) (hL5 : L ≤ 2049) (hn : NX p l e s m below meth c b cI cZ cJ D ad bd ao k) (σ γ δ : Sg) (w : Int32) (f : Nat → Int64) (hI : Inv σ) (H : Heap) (locs : List Loc) (ls : Array Slot) (hw : LW cI cZ cJ D ad bd ao s σ γ δ w f H locs) (hl : lv_has ls 7 (LV b ad bd ao k)) : W p l e room_1 s m #[Value.ref b] below meth c H locs (25 + k) (4789 + 6 * k) (lw_Z below #[Value.ref b] s) (F0 m 415 ls []) := by
  obtain ⟨hx, hb, hr, hml, hown, hts0, hX0, hbl, hlocks, hgv⟩ := C0
  have hts : ∀ w ∈ wsL_law, w.before #[Value.ref b] s = true := fun w h => hts0 w (wsL_law_in w h)
  obtain ⟨hK, hKo, hNc, hZ, hX, hsep, hao, hbo, hAo⟩ := C1
  obtain ⟨hP1, hD1, hP2, hD2, hPo, hS⟩ := hw
  have hA : ∀ q : Nat, s.heap.size ≤ q → (fun q : Nat => s.heap.size ≤ q) q := fun _ h => h
  have hbA : ¬ (fun q : Nat => s.heap.size ≤ q) b := Nat.not_le.mpr hbl
  have hf : 25 + k ≤ room_1.cells ∧ 4789 + 6 * k ≤ room_1.slots := ⟨by show 25 + k ≤ 1055; omega, by show 4789 + 6 * k ≤ 13017; omega⟩
  refine lv_aload_n hx hb dL_law_415 rfl (lv_at hl 1 rfl) ?_
  refine callK_i (As := []) (rest := []) WAd_c ⟨hx, hb, hml, hown, hts⟩ (c_X1_sort l cI cZ D ad pl tb _ σ γ hI) (cwV 0 hts gL_law_X1_sort rfl rfl rfl (by decide +kernel) ⟨Nat.le_of_ble_eq_true rfl, Nat.le_of_ble_eq_true rfl⟩) (va_recv hK hP1 (ci := 0) (q0 := 0) rfl rfl) hK hP1 hD1 hS hA hZ rfl rfl (Nat.le_of_ble_eq_true rfl) hl.1 dL_law_416 hf (fun r u H locs hq hP1 hD1 hS hk1 => ?_)
  have hP2 := keepW WAd_m hsep hP2 hk1
  have hPo := keep1 hao hPo hk1
  obtain ⟨rfl, rfl⟩ := hq
  refine lv_aload_n hx hb dL_law_419 rfl (lv_at hl 2 rfl) ?_
  refine callK_i (As := []) (rest := [.int (nI (sumN (atF σ 4) (σ 11 0) + sumN (atF σ 1) (σ 11 0)))]) WAd_m ⟨hx, hb, hml, hown, hts⟩ (c_X2_sort l cI cZ D bd pl tb _ σ δ w hI) (cwV 0 hts gL_law_X2_sort rfl rfl rfl (by decide +kernel) ⟨Nat.le_of_ble_eq_true rfl, Nat.le_of_ble_eq_true rfl⟩) (va_recv hK hP2 (ci := 1) (q0 := 0) rfl rfl) hK hP2 hD2 hS hA hZ rfl rfl (Nat.le_of_ble_eq_true rfl) hl.1 dL_law_420 hf (fun r u H locs hq hP2 hD2 hS hk1 => ?_)
  have hP1 := keepW WAd_c (fun i j hi hj z => hsep j i hj hi z.symm) hP1 hk1
  have hPo := keep1 hbo hPo hk1
  obtain ⟨δ1, w1, rfl, rfl⟩ := hq
  refine lv_icmp_eq (tgt := 800) hx hb dL_law_423 (by decide) (fun _ => ?_) (fun c_1 => absurd rfl c_1)
  refine W.widen (k := 25 + (k + 1)) (n := 4789 + 6 * (k + 1)) (by omega) (by omega) ?_
  exact hn (σ) γ δ1 w1 f hI _ _ _ ⟨hP1, hD1, hP2, hD2, hPo, hS⟩ hl

set_option maxHeartbeats 4000000 in
set_option maxRecDepth 100000 in
theorem k_drawer {p : Program} {e : Env} {s : State} {m : MethodId} {below : List Frame} {meth : Method} {c : Code} (l : Launch) (hl0 : l.stackTraces = false) {b L : Nat} {xs : Nat → Int32} (C0 : lw_At p s m meth c b L xs) {cI cZ cJ : ClassId} {D : va_G} {ad bd pl sa : Nat → Nat} {tb ao : Nat} (C1 : LC cI cZ cJ D ad bd pl sa tb ao s)
    {k : Nat} (hk : 4 * k + 5 ≤ L) (hL5 : L ≤ 2049) (hn : NX p l e s m below meth c b cI cZ cJ D ad bd ao k) (σ γ δ : Sg) (w : Int32) (f : Nat → Int64) (hI : Inv σ) (H : Heap) (locs : List Loc) (ls : Array Slot) (hw : LW cI cZ cJ D ad bd ao s σ γ δ w f H locs) (hl : lv_has ls 7 (LV b ad bd ao k)) : W p l e room_1 s m #[Value.ref b] below meth c H locs (25 + k) (4789 + 6 * k) (lw_Z below #[Value.ref b] s) (F0 m 564 ls []) := by
  obtain ⟨hx, hb, hr, hml, hown, hts0, hX0, hbl, hlocks, hgv⟩ := C0
  have hts : ∀ w ∈ wsL_law, w.before #[Value.ref b] s = true := fun w h => hts0 w (wsL_law_in w h)
  obtain ⟨hK, hKo, hNc, hZ, hX, hsep, hao, hbo, hAo⟩ := C1
  obtain ⟨hP1, hD1, hP2, hD2, hPo, hS⟩ := hw
  have hA : ∀ q : Nat, s.heap.size ≤ q → (fun q : Nat => s.heap.size ≤ q) q := fun _ h => h
  have hbA : ¬ (fun q : Nat => s.heap.size ≤ q) b := Nat.not_le.mpr hbl
  have hf : 25 + k ≤ room_1.cells ∧ 4789 + 6 * k ≤ room_1.slots := ⟨by show 25 + k ≤ 1055; omega, by show 4789 + 6 * k ≤ 13017; omega⟩
  refine lv_aload_n hx hb dL_law_564 rfl (lv_at hl 1 rfl) ?_
  refine lv_aload_n hx hb dL_law_565 rfl (lv_at hl 0 rfl) ?_
  refine lv_iload hx hb dL_law_566 (lv_at hl 4 rfl) ?_
  refine lv_iconst (v := 1) hx hb dL_law_568 (by decide) ?_
  refine lv_iadd hx hb dL_law_569 ?_
  refine q_topi (nI (4 * k + 1 + 1)) (nI_add (4 * k + 1) 1) ?_
  refine q_sld hx hb hX0 hbl hbA hS (4 * k + 1 + 1) (nI_toInt (by omega)) (by omega) dL_law_570 ?_
  refine lv_aload_n hx hb dL_law_571 rfl (lv_at hl 0 rfl) ?_
  refine lv_iload hx hb dL_law_572 (lv_at hl 4 rfl) ?_
  refine lv_iconst (v := 2) hx hb dL_law_574 (by decide) ?_
  refine lv_iadd hx hb dL_law_575 ?_
  refine q_topi (nI (4 * k + 1 + 2)) (nI_add (4 * k + 1) 2) ?_
  refine q_sld hx hb hX0 hbl hbA hS (4 * k + 1 + 2) (nI_toInt (by omega)) (by omega) dL_law_576 ?_
  refine callK_i (As := [.int (xs (4 * k + 1 + 1)), .int (xs (4 * k + 1 + 2))]) (rest := []) WAd_c ⟨hx, hb, hml, hown, hts⟩ (c_X1_drawer l cI cZ D ad pl tb _ σ γ (xs (4 * k + 1 + 1)) (xs (4 * k + 1 + 2)) hI) (cwV 2 hts gL_law_X1_drawer rfl rfl rfl (by decide +kernel) ⟨Nat.le_of_ble_eq_true rfl, Nat.le_of_ble_eq_true rfl⟩) (va_recv hK hP1 (ci := 0) (q0 := 0) rfl rfl) hK hP1 hD1 hS hA hZ rfl rfl (Nat.le_of_ble_eq_true rfl) hl.1 dL_law_577 hf (fun r u H locs hq hP1 hD1 hS hk1 => ?_)
  have hP2 := keepW WAd_m hsep hP2 hk1
  have hPo := keep1 hao hPo hk1
  obtain ⟨γ1, rfl, rfl⟩ := hq
  refine lv_aload_n hx hb dL_law_580 rfl (lv_at hl 2 rfl) ?_
  refine lv_aload_n hx hb dL_law_581 rfl (lv_at hl 0 rfl) ?_
  refine lv_iload hx hb dL_law_582 (lv_at hl 4 rfl) ?_
  refine lv_iconst (v := 1) hx hb dL_law_584 (by decide) ?_
  refine lv_iadd hx hb dL_law_585 ?_
  refine q_topi (nI (4 * k + 1 + 1)) (nI_add (4 * k + 1) 1) ?_
  refine q_sld hx hb hX0 hbl hbA hS (4 * k + 1 + 1) (nI_toInt (by omega)) (by omega) dL_law_586 ?_
  refine lv_aload_n hx hb dL_law_587 rfl (lv_at hl 0 rfl) ?_
  refine lv_iload hx hb dL_law_588 (lv_at hl 4 rfl) ?_
  refine lv_iconst (v := 2) hx hb dL_law_590 (by decide) ?_
  refine lv_iadd hx hb dL_law_591 ?_
  refine q_topi (nI (4 * k + 1 + 2)) (nI_add (4 * k + 1) 2) ?_
  refine q_sld hx hb hX0 hbl hbA hS (4 * k + 1 + 2) (nI_toInt (by omega)) (by omega) dL_law_592 ?_
  refine callK_i (As := [.int (xs (4 * k + 1 + 1)), .int (xs (4 * k + 1 + 2))]) (rest := [.int (pickI (xs (4 * k + 1 + 2)) (hL σ (dH (xs (4 * k + 1 + 1))) 2))]) WAd_m ⟨hx, hb, hml, hown, hts⟩ (c_X2_drawer l cI cZ D bd pl tb _ σ δ w (xs (4 * k + 1 + 1)) (xs (4 * k + 1 + 2)) hI) (cwV 2 hts gL_law_X2_drawer rfl rfl rfl (by decide +kernel) ⟨Nat.le_of_ble_eq_true rfl, Nat.le_of_ble_eq_true rfl⟩) (va_recv hK hP2 (ci := 1) (q0 := 0) rfl rfl) hK hP2 hD2 hS hA hZ rfl rfl (Nat.le_of_ble_eq_true rfl) hl.1 dL_law_593 hf (fun r u H locs hq hP2 hD2 hS hk1 => ?_)
  have hP1 := keepW WAd_c (fun i j hi hj z => hsep j i hj hi z.symm) hP1 hk1
  have hPo := keep1 hbo hPo hk1
  obtain ⟨δ1, w1, rfl, rfl⟩ := hq
  refine lv_icmp_eq (tgt := 800) hx hb dL_law_596 (by decide) (fun _ => ?_) (fun c_1 => absurd rfl c_1)
  refine W.widen (k := 25 + (k + 1)) (n := 4789 + 6 * (k + 1)) (by omega) (by omega) ?_
  exact hn (σ) γ1 δ1 w1 f hI _ _ _ ⟨hP1, hD1, hP2, hD2, hPo, hS⟩ hl

set_option maxHeartbeats 4000000 in
set_option maxRecDepth 100000 in
theorem k_stray {p : Program} {e : Env} {s : State} {m : MethodId} {below : List Frame} {meth : Method} {c : Code} (l : Launch) (hl0 : l.stackTraces = false) {b L : Nat} {xs : Nat → Int32} (C0 : lw_At p s m meth c b L xs) {cI cZ cJ : ClassId} {D : va_G} {ad bd pl sa : Nat → Nat} {tb ao : Nat} (C1 : LC cI cZ cJ D ad bd pl sa tb ao s)
    {k : Nat} (hk : 4 * k + 5 ≤ L) (hL5 : L ≤ 2049) (hn : NX p l e s m below meth c b cI cZ cJ D ad bd ao k) (σ γ δ : Sg) (w : Int32) (f : Nat → Int64) (hI : Inv σ) (H : Heap) (locs : List Loc) (ls : Array Slot) (hw : LW cI cZ cJ D ad bd ao s σ γ δ w f H locs) (hl : lv_has ls 7 (LV b ad bd ao k)) : W p l e room_1 s m #[Value.ref b] below meth c H locs (25 + k) (4789 + 6 * k) (lw_Z below #[Value.ref b] s) (F0 m 601 ls []) := by
  obtain ⟨hx, hb, hr, hml, hown, hts0, hX0, hbl, hlocks, hgv⟩ := C0
  have hts : ∀ w ∈ wsL_law, w.before #[Value.ref b] s = true := fun w h => hts0 w (wsL_law_in w h)
  obtain ⟨hK, hKo, hNc, hZ, hX, hsep, hao, hbo, hAo⟩ := C1
  obtain ⟨hP1, hD1, hP2, hD2, hPo, hS⟩ := hw
  have hA : ∀ q : Nat, s.heap.size ≤ q → (fun q : Nat => s.heap.size ≤ q) q := fun _ h => h
  have hbA : ¬ (fun q : Nat => s.heap.size ≤ q) b := Nat.not_le.mpr hbl
  have hf : 25 + k ≤ room_1.cells ∧ 4789 + 6 * k ≤ room_1.slots := ⟨by show 25 + k ≤ 1055; omega, by show 4789 + 6 * k ≤ 13017; omega⟩
  refine lv_aload_n hx hb dL_law_601 rfl (lv_at hl 1 rfl) ?_
  refine lv_aload_n hx hb dL_law_602 rfl (lv_at hl 0 rfl) ?_
  refine lv_iload hx hb dL_law_603 (lv_at hl 4 rfl) ?_
  refine lv_iconst (v := 1) hx hb dL_law_605 (by decide) ?_
  refine lv_iadd hx hb dL_law_606 ?_
  refine q_topi (nI (4 * k + 1 + 1)) (nI_add (4 * k + 1) 1) ?_
  refine q_sld hx hb hX0 hbl hbA hS (4 * k + 1 + 1) (nI_toInt (by omega)) (by omega) dL_law_607 ?_
  refine callK_i (As := [.int (xs (4 * k + 1 + 1))]) (rest := []) WAd_c ⟨hx, hb, hml, hown, hts⟩ (c_X1_stray l cI cZ D ad pl tb _ σ γ (xs (4 * k + 1 + 1)) hI) (cwV 1 hts gL_law_X1_stray rfl rfl rfl (by decide +kernel) ⟨Nat.le_of_ble_eq_true rfl, Nat.le_of_ble_eq_true rfl⟩) (va_recv hK hP1 (ci := 0) (q0 := 0) rfl rfl) hK hP1 hD1 hS hA hZ rfl rfl (Nat.le_of_ble_eq_true rfl) hl.1 dL_law_608 hf (fun r u H locs hq hP1 hD1 hS hk1 => ?_)
  have hP2 := keepW WAd_m hsep hP2 hk1
  have hPo := keep1 hao hPo hk1
  obtain ⟨γ1, rfl, rfl⟩ := hq
  refine lv_aload_n hx hb dL_law_611 rfl (lv_at hl 2 rfl) ?_
  refine lv_aload_n hx hb dL_law_612 rfl (lv_at hl 0 rfl) ?_
  refine lv_iload hx hb dL_law_613 (lv_at hl 4 rfl) ?_
  refine lv_iconst (v := 1) hx hb dL_law_615 (by decide) ?_
  refine lv_iadd hx hb dL_law_616 ?_
  refine q_topi (nI (4 * k + 1 + 1)) (nI_add (4 * k + 1) 1) ?_
  refine q_sld hx hb hX0 hbl hbA hS (4 * k + 1 + 1) (nI_toInt (by omega)) (by omega) dL_law_617 ?_
  refine callK_i (As := [.int (xs (4 * k + 1 + 1))]) (rest := [.int (pickI (xs (4 * k + 1 + 1)) (stL σ))]) WAd_m ⟨hx, hb, hml, hown, hts⟩ (c_X2_stray l cI cZ D bd pl tb _ σ δ w (xs (4 * k + 1 + 1)) hI) (cwV 1 hts gL_law_X2_stray rfl rfl rfl (by decide +kernel) ⟨Nat.le_of_ble_eq_true rfl, Nat.le_of_ble_eq_true rfl⟩) (va_recv hK hP2 (ci := 1) (q0 := 0) rfl rfl) hK hP2 hD2 hS hA hZ rfl rfl (Nat.le_of_ble_eq_true rfl) hl.1 dL_law_618 hf (fun r u H locs hq hP2 hD2 hS hk1 => ?_)
  have hP1 := keepW WAd_c (fun i j hi hj z => hsep j i hj hi z.symm) hP1 hk1
  have hPo := keep1 hbo hPo hk1
  obtain ⟨δ1, w1, rfl, rfl⟩ := hq
  refine lv_icmp_eq (tgt := 800) hx hb dL_law_621 (by decide) (fun _ => ?_) (fun c_1 => absurd rfl c_1)
  refine W.widen (k := 25 + (k + 1)) (n := 4789 + 6 * (k + 1)) (by omega) (by omega) ?_
  exact hn (σ) γ1 δ1 w1 f hI _ _ _ ⟨hP1, hD1, hP2, hD2, hPo, hS⟩ hl

set_option maxHeartbeats 4000000 in
set_option maxRecDepth 100000 in
theorem k_lies {p : Program} {e : Env} {s : State} {m : MethodId} {below : List Frame} {meth : Method} {c : Code} (l : Launch) (hl0 : l.stackTraces = false) {b L : Nat} {xs : Nat → Int32} (C0 : lw_At p s m meth c b L xs) {cI cZ cJ : ClassId} {D : va_G} {ad bd pl sa : Nat → Nat} {tb ao : Nat} (C1 : LC cI cZ cJ D ad bd pl sa tb ao s)
    {k : Nat} (hk : 4 * k + 5 ≤ L) (hL5 : L ≤ 2049) (hn : NX p l e s m below meth c b cI cZ cJ D ad bd ao k) (σ γ δ : Sg) (w : Int32) (f : Nat → Int64) (hI : Inv σ) (H : Heap) (locs : List Loc) (ls : Array Slot) (hw : LW cI cZ cJ D ad bd ao s σ γ δ w f H locs) (hl : lv_has ls 7 (LV b ad bd ao k)) : W p l e room_1 s m #[Value.ref b] below meth c H locs (25 + k) (4789 + 6 * k) (lw_Z below #[Value.ref b] s) (F0 m 626 ls []) := by
  obtain ⟨hx, hb, hr, hml, hown, hts0, hX0, hbl, hlocks, hgv⟩ := C0
  have hts : ∀ w ∈ wsL_law, w.before #[Value.ref b] s = true := fun w h => hts0 w (wsL_law_in w h)
  obtain ⟨hK, hKo, hNc, hZ, hX, hsep, hao, hbo, hAo⟩ := C1
  obtain ⟨hP1, hD1, hP2, hD2, hPo, hS⟩ := hw
  have hA : ∀ q : Nat, s.heap.size ≤ q → (fun q : Nat => s.heap.size ≤ q) q := fun _ h => h
  have hbA : ¬ (fun q : Nat => s.heap.size ≤ q) b := Nat.not_le.mpr hbl
  have hf : 25 + k ≤ room_1.cells ∧ 4789 + 6 * k ≤ room_1.slots := ⟨by show 25 + k ≤ 1055; omega, by show 4789 + 6 * k ≤ 13017; omega⟩
  refine lv_aload_n hx hb dL_law_626 rfl (lv_at hl 1 rfl) ?_
  refine lv_aload_n hx hb dL_law_627 rfl (lv_at hl 0 rfl) ?_
  refine lv_iload hx hb dL_law_628 (lv_at hl 4 rfl) ?_
  refine lv_iconst (v := 1) hx hb dL_law_630 (by decide) ?_
  refine lv_iadd hx hb dL_law_631 ?_
  refine q_topi (nI (4 * k + 1 + 1)) (nI_add (4 * k + 1) 1) ?_
  refine q_sld hx hb hX0 hbl hbA hS (4 * k + 1 + 1) (nI_toInt (by omega)) (by omega) dL_law_632 ?_
  refine callK_i (As := [.int (xs (4 * k + 1 + 1))]) (rest := []) WAd_c ⟨hx, hb, hml, hown, hts⟩ (c_X1_lies l cI cZ D ad pl tb _ σ γ (xs (4 * k + 1 + 1)) hI) (cwV 1 hts gL_law_X1_lies rfl rfl rfl (by decide +kernel) ⟨Nat.le_of_ble_eq_true rfl, Nat.le_of_ble_eq_true rfl⟩) (va_recv hK hP1 (ci := 0) (q0 := 0) rfl rfl) hK hP1 hD1 hS hA hZ rfl rfl (Nat.le_of_ble_eq_true rfl) hl.1 dL_law_633 hf (fun r u H locs hq hP1 hD1 hS hk1 => ?_)
  have hP2 := keepW WAd_m hsep hP2 hk1
  have hPo := keep1 hao hPo hk1
  obtain ⟨rfl, rfl⟩ := hq
  refine lv_aload_n hx hb dL_law_636 rfl (lv_at hl 2 rfl) ?_
  refine lv_aload_n hx hb dL_law_637 rfl (lv_at hl 0 rfl) ?_
  refine lv_iload hx hb dL_law_638 (lv_at hl 4 rfl) ?_
  refine lv_iconst (v := 1) hx hb dL_law_640 (by decide) ?_
  refine lv_iadd hx hb dL_law_641 ?_
  refine q_topi (nI (4 * k + 1 + 1)) (nI_add (4 * k + 1) 1) ?_
  refine q_sld hx hb hX0 hbl hbA hS (4 * k + 1 + 1) (nI_toInt (by omega)) (by omega) dL_law_642 ?_
  refine callK_i (As := [.int (xs (4 * k + 1 + 1))]) (rest := [.int (oLies σ (xs (4 * k + 1 + 1)))]) WAd_m ⟨hx, hb, hml, hown, hts⟩ (c_X2_lies l cI cZ D bd pl tb _ σ δ w (xs (4 * k + 1 + 1)) hI) (cwV 1 hts gL_law_X2_lies rfl rfl rfl (by decide +kernel) ⟨Nat.le_of_ble_eq_true rfl, Nat.le_of_ble_eq_true rfl⟩) (va_recv hK hP2 (ci := 1) (q0 := 0) rfl rfl) hK hP2 hD2 hS hA hZ rfl rfl (Nat.le_of_ble_eq_true rfl) hl.1 dL_law_643 hf (fun r u H locs hq hP2 hD2 hS hk1 => ?_)
  have hP1 := keepW WAd_c (fun i j hi hj z => hsep j i hj hi z.symm) hP1 hk1
  have hPo := keep1 hbo hPo hk1
  obtain ⟨δ1, w1, rfl, rfl⟩ := hq
  refine lv_icmp_eq (tgt := 800) hx hb dL_law_646 (by decide) (fun _ => ?_) (fun c_1 => absurd rfl c_1)
  refine W.widen (k := 25 + (k + 1)) (n := 4789 + 6 * (k + 1)) (by omega) (by omega) ?_
  exact hn (σ) γ δ1 w1 f hI _ _ _ ⟨hP1, hD1, hP2, hD2, hPo, hS⟩ hl

set_option maxHeartbeats 4000000 in
set_option maxRecDepth 100000 in
theorem k_teaching {p : Program} {e : Env} {s : State} {m : MethodId} {below : List Frame} {meth : Method} {c : Code} (l : Launch) (hl0 : l.stackTraces = false) {b L : Nat} {xs : Nat → Int32} (C0 : lw_At p s m meth c b L xs) {cI cZ cJ : ClassId} {D : va_G} {ad bd pl sa : Nat → Nat} {tb ao : Nat} (C1 : LC cI cZ cJ D ad bd pl sa tb ao s)
    {k : Nat} (hk : 4 * k + 5 ≤ L) (hL5 : L ≤ 2049) (hn : NX p l e s m below meth c b cI cZ cJ D ad bd ao k) (σ γ δ : Sg) (w : Int32) (f : Nat → Int64) (hI : Inv σ) (H : Heap) (locs : List Loc) (ls : Array Slot) (hw : LW cI cZ cJ D ad bd ao s σ γ δ w f H locs) (hl : lv_has ls 7 (LV b ad bd ao k)) : W p l e room_1 s m #[Value.ref b] below meth c H locs (25 + k) (4789 + 6 * k) (lw_Z below #[Value.ref b] s) (F0 m 707 ls []) := by
  obtain ⟨hx, hb, hr, hml, hown, hts0, hX0, hbl, hlocks, hgv⟩ := C0
  have hts : ∀ w ∈ wsL_law, w.before #[Value.ref b] s = true := fun w h => hts0 w (wsL_law_in w h)
  obtain ⟨hK, hKo, hNc, hZ, hX, hsep, hao, hbo, hAo⟩ := C1
  obtain ⟨hP1, hD1, hP2, hD2, hPo, hS⟩ := hw
  have hA : ∀ q : Nat, s.heap.size ≤ q → (fun q : Nat => s.heap.size ≤ q) q := fun _ h => h
  have hbA : ¬ (fun q : Nat => s.heap.size ≤ q) b := Nat.not_le.mpr hbl
  have hf : 25 + k ≤ room_1.cells ∧ 4789 + 6 * k ≤ room_1.slots := ⟨by show 25 + k ≤ 1055; omega, by show 4789 + 6 * k ≤ 13017; omega⟩
  refine lv_aload_n hx hb dL_law_707 rfl (lv_at hl 1 rfl) ?_
  refine lv_aload_n hx hb dL_law_708 rfl (lv_at hl 0 rfl) ?_
  refine lv_iload hx hb dL_law_709 (lv_at hl 4 rfl) ?_
  refine lv_iconst (v := 1) hx hb dL_law_711 (by decide) ?_
  refine lv_iadd hx hb dL_law_712 ?_
  refine q_topi (nI (4 * k + 1 + 1)) (nI_add (4 * k + 1) 1) ?_
  refine q_sld hx hb hX0 hbl hbA hS (4 * k + 1 + 1) (nI_toInt (by omega)) (by omega) dL_law_713 ?_
  refine lv_aload_n hx hb dL_law_714 rfl (lv_at hl 0 rfl) ?_
  refine lv_iload hx hb dL_law_715 (lv_at hl 4 rfl) ?_
  refine lv_iconst (v := 2) hx hb dL_law_717 (by decide) ?_
  refine lv_iadd hx hb dL_law_718 ?_
  refine q_topi (nI (4 * k + 1 + 2)) (nI_add (4 * k + 1) 2) ?_
  refine q_sld hx hb hX0 hbl hbA hS (4 * k + 1 + 2) (nI_toInt (by omega)) (by omega) dL_law_719 ?_
  refine callK_i (As := [.int (xs (4 * k + 1 + 1)), .int (xs (4 * k + 1 + 2))]) (rest := []) WAd_c ⟨hx, hb, hml, hown, hts⟩ (c_X1_teaching l cI cZ D ad pl tb _ σ γ (xs (4 * k + 1 + 1)) (xs (4 * k + 1 + 2)) hI) (cwV 2 hts gL_law_X1_teaching rfl rfl rfl (by decide +kernel) ⟨Nat.le_of_ble_eq_true rfl, Nat.le_of_ble_eq_true rfl⟩) (va_recv hK hP1 (ci := 0) (q0 := 0) rfl rfl) hK hP1 hD1 hS hA hZ rfl rfl (Nat.le_of_ble_eq_true rfl) hl.1 dL_law_720 hf (fun r u H locs hq hP1 hD1 hS hk1 => ?_)
  have hP2 := keepW WAd_m hsep hP2 hk1
  have hPo := keep1 hao hPo hk1
  obtain ⟨rfl, rfl⟩ := hq
  refine lv_aload_n hx hb dL_law_723 rfl (lv_at hl 2 rfl) ?_
  refine lv_aload_n hx hb dL_law_724 rfl (lv_at hl 0 rfl) ?_
  refine lv_iload hx hb dL_law_725 (lv_at hl 4 rfl) ?_
  refine lv_iconst (v := 1) hx hb dL_law_727 (by decide) ?_
  refine lv_iadd hx hb dL_law_728 ?_
  refine q_topi (nI (4 * k + 1 + 1)) (nI_add (4 * k + 1) 1) ?_
  refine q_sld hx hb hX0 hbl hbA hS (4 * k + 1 + 1) (nI_toInt (by omega)) (by omega) dL_law_729 ?_
  refine lv_aload_n hx hb dL_law_730 rfl (lv_at hl 0 rfl) ?_
  refine lv_iload hx hb dL_law_731 (lv_at hl 4 rfl) ?_
  refine lv_iconst (v := 2) hx hb dL_law_733 (by decide) ?_
  refine lv_iadd hx hb dL_law_734 ?_
  refine q_topi (nI (4 * k + 1 + 2)) (nI_add (4 * k + 1) 2) ?_
  refine q_sld hx hb hX0 hbl hbA hS (4 * k + 1 + 2) (nI_toInt (by omega)) (by omega) dL_law_735 ?_
  refine callK_i (As := [.int (xs (4 * k + 1 + 1)), .int (xs (4 * k + 1 + 2))]) (rest := [.int (oTeach σ (xs (4 * k + 1 + 1)) (xs (4 * k + 1 + 2)))]) WAd_m ⟨hx, hb, hml, hown, hts⟩ (c_X2_teaching l cI cZ D bd pl tb _ σ δ w (xs (4 * k + 1 + 1)) (xs (4 * k + 1 + 2)) hI) (cwV 2 hts gL_law_X2_teaching rfl rfl rfl (by decide +kernel) ⟨Nat.le_of_ble_eq_true rfl, Nat.le_of_ble_eq_true rfl⟩) (va_recv hK hP2 (ci := 1) (q0 := 0) rfl rfl) hK hP2 hD2 hS hA hZ rfl rfl (Nat.le_of_ble_eq_true rfl) hl.1 dL_law_736 hf (fun r u H locs hq hP2 hD2 hS hk1 => ?_)
  have hP1 := keepW WAd_c (fun i j hi hj z => hsep j i hj hi z.symm) hP1 hk1
  have hPo := keep1 hbo hPo hk1
  obtain ⟨δ1, w1, rfl, rfl⟩ := hq
  refine lv_icmp_eq (tgt := 800) hx hb dL_law_739 (by decide) (fun _ => ?_) (fun c_1 => absurd rfl c_1)
  refine W.widen (k := 25 + (k + 1)) (n := 4789 + 6 * (k + 1)) (by omega) (by omega) ?_
  exact hn (σ) γ δ1 w1 f hI _ _ _ ⟨hP1, hD1, hP2, hD2, hPo, hS⟩ hl

set_option maxHeartbeats 4000000 in
set_option maxRecDepth 100000 in
theorem k_hold {p : Program} {e : Env} {s : State} {m : MethodId} {below : List Frame} {meth : Method} {c : Code} (l : Launch) (hl0 : l.stackTraces = false) {b L : Nat} {xs : Nat → Int32} (C0 : lw_At p s m meth c b L xs) {cI cZ cJ : ClassId} {D : va_G} {ad bd pl sa : Nat → Nat} {tb ao : Nat} (C1 : LC cI cZ cJ D ad bd pl sa tb ao s)
    {k : Nat} (hk : 4 * k + 5 ≤ L) (hL5 : L ≤ 2049) (hn : NX p l e s m below meth c b cI cZ cJ D ad bd ao k) (σ γ δ : Sg) (w : Int32) (f : Nat → Int64) (hI : Inv σ) (H : Heap) (locs : List Loc) (ls : Array Slot) (hw : LW cI cZ cJ D ad bd ao s σ γ δ w f H locs) (hl : lv_has ls 7 (LV b ad bd ao k)) : W p l e room_1 s m #[Value.ref b] below meth c H locs (25 + k) (4789 + 6 * k) (lw_Z below #[Value.ref b] s) (F0 m 313 ls []) := by
  obtain ⟨hx, hb, hr, hml, hown, hts0, hX0, hbl, hlocks, hgv⟩ := C0
  have hts : ∀ w ∈ wsL_law, w.before #[Value.ref b] s = true := fun w h => hts0 w (wsL_law_in w h)
  obtain ⟨hK, hKo, hNc, hZ, hX, hsep, hao, hbo, hAo⟩ := C1
  obtain ⟨hP1, hD1, hP2, hD2, hPo, hS⟩ := hw
  have hA : ∀ q : Nat, s.heap.size ≤ q → (fun q : Nat => s.heap.size ≤ q) q := fun _ h => h
  have hbA : ¬ (fun q : Nat => s.heap.size ≤ q) b := Nat.not_le.mpr hbl
  have hf : 25 + k ≤ room_1.cells ∧ 4789 + 6 * k ≤ room_1.slots := ⟨by show 25 + k ≤ 1055; omega, by show 4789 + 6 * k ≤ 13017; omega⟩
  refine lv_aload_n hx hb dL_law_313 rfl (lv_at hl 1 rfl) ?_
  refine lv_aload_n hx hb dL_law_314 rfl (lv_at hl 0 rfl) ?_
  refine lv_iload hx hb dL_law_315 (lv_at hl 4 rfl) ?_
  refine lv_iconst (v := 1) hx hb dL_law_317 (by decide) ?_
  refine lv_iadd hx hb dL_law_318 ?_
  refine q_topi (nI (4 * k + 1 + 1)) (nI_add (4 * k + 1) 1) ?_
  refine q_sld hx hb hX0 hbl hbA hS (4 * k + 1 + 1) (nI_toInt (by omega)) (by omega) dL_law_319 ?_
  refine lv_aload_n hx hb dL_law_320 rfl (lv_at hl 0 rfl) ?_
  refine lv_iload hx hb dL_law_321 (lv_at hl 4 rfl) ?_
  refine lv_iconst (v := 2) hx hb dL_law_323 (by decide) ?_
  refine lv_iadd hx hb dL_law_324 ?_
  refine q_topi (nI (4 * k + 1 + 2)) (nI_add (4 * k + 1) 2) ?_
  refine q_sld hx hb hX0 hbl hbA hS (4 * k + 1 + 2) (nI_toInt (by omega)) (by omega) dL_law_325 ?_
  refine lv_if_eq (tgt := 333) hx hb dL_law_326 (by decide) (fun c_0 => ?_) (fun c_0 => ?_)
  · skip
    refine lv_iconst (v := 0) hx hb dL_law_333 (by decide) ?_
    refine q_topi (nI 0) rfl ?_
    refine callK_i (As := [.int (xs (4 * k + 1 + 1)), .int (nI 0)]) (rest := []) WAd_c ⟨hx, hb, hml, hown, hts⟩ (c_X1_hold l cI cZ D ad pl tb _ σ γ (xs (4 * k + 1 + 1)) 0 hI (by decide)) (cwV 2 hts gL_law_X1_hold rfl rfl rfl (by decide +kernel) ⟨Nat.le_of_ble_eq_true rfl, Nat.le_of_ble_eq_true rfl⟩) (va_recv hK hP1 (ci := 0) (q0 := 0) rfl rfl) hK hP1 hD1 hS hA hZ rfl rfl (Nat.le_of_ble_eq_true rfl) hl.1 dL_law_334 hf (fun r u H locs hq hP1 hD1 hS hk1 => ?_)
    have hP2 := keepW WAd_m hsep hP2 hk1
    have hPo := keep1 hao hPo hk1
    obtain ⟨γ1, rfl, rfl⟩ := hq
    refine lv_aload_n hx hb dL_law_337 rfl (lv_at hl 2 rfl) ?_
    refine lv_aload_n hx hb dL_law_338 rfl (lv_at hl 0 rfl) ?_
    refine lv_iload hx hb dL_law_339 (lv_at hl 4 rfl) ?_
    refine lv_iconst (v := 1) hx hb dL_law_341 (by decide) ?_
    refine lv_iadd hx hb dL_law_342 ?_
    refine q_topi (nI (4 * k + 1 + 1)) (nI_add (4 * k + 1) 1) ?_
    refine q_sld hx hb hX0 hbl hbA hS (4 * k + 1 + 1) (nI_toInt (by omega)) (by omega) dL_law_343 ?_
    refine lv_aload_n hx hb dL_law_344 rfl (lv_at hl 0 rfl) ?_
    refine lv_iload hx hb dL_law_345 (lv_at hl 4 rfl) ?_
    refine lv_iconst (v := 2) hx hb dL_law_347 (by decide) ?_
    refine lv_iadd hx hb dL_law_348 ?_
    refine q_topi (nI (4 * k + 1 + 2)) (nI_add (4 * k + 1) 2) ?_
    refine q_sld hx hb hX0 hbl hbA hS (4 * k + 1 + 2) (nI_toInt (by omega)) (by omega) dL_law_349 ?_
    refine lv_if_eq (tgt := 357) hx hb dL_law_350 (by decide) (fun c_9 => ?_) (fun c_9 => ?_)
    · skip
      refine lv_iconst (v := 0) hx hb dL_law_357 (by decide) ?_
      refine q_topi (nI 0) rfl ?_
      refine callK_i (As := [.int (xs (4 * k + 1 + 1)), .int (nI 0)]) (rest := [.int (oHold σ (xs (4 * k + 1 + 1)) 0).1]) WAd_m ⟨hx, hb, hml, hown, hts⟩ (c_X2_hold l cI cZ D bd pl tb _ σ δ w (xs (4 * k + 1 + 1)) 0 hI (by decide)) (cwV 2 hts gL_law_X2_hold rfl rfl rfl (by decide +kernel) ⟨Nat.le_of_ble_eq_true rfl, Nat.le_of_ble_eq_true rfl⟩) (va_recv hK hP2 (ci := 1) (q0 := 0) rfl rfl) hK hP2 hD2 hS hA hZ rfl rfl (Nat.le_of_ble_eq_true rfl) hl.1 dL_law_358 hf (fun r u H locs hq hP2 hD2 hS hk1 => ?_)
      have hP1 := keepW WAd_c (fun i j hi hj z => hsep j i hj hi z.symm) hP1 hk1
      have hPo := keep1 hbo hPo hk1
      obtain ⟨δ1, w1, rfl, rfl⟩ := hq
      refine lv_icmp_eq (tgt := 800) hx hb dL_law_361 (by decide) (fun _ => ?_) (fun c_1 => absurd rfl c_1)
      refine W.widen (k := 25 + (k + 1)) (n := 4789 + 6 * (k + 1)) (by omega) (by omega) ?_
      exact hn ((oHold σ (xs (4 * k + 1 + 1)) 0).2) γ1 δ1 w1 f (Io_hold hI (by decide)) _ _ _ ⟨hP1, hD1, hP2, hD2, hPo, hS⟩ hl
    · skip
      exact absurd c_0 c_9
  · skip
    refine lv_iconst (v := 1) hx hb dL_law_329 (by decide) ?_
    refine lv_goto (tgt := 334) hx hb dL_law_330 (by decide) ?_
    refine q_topi (nI 1) rfl ?_
    refine callK_i (As := [.int (xs (4 * k + 1 + 1)), .int (nI 1)]) (rest := []) WAd_c ⟨hx, hb, hml, hown, hts⟩ (c_X1_hold l cI cZ D ad pl tb _ σ γ (xs (4 * k + 1 + 1)) 1 hI (by decide)) (cwV 2 hts gL_law_X1_hold rfl rfl rfl (by decide +kernel) ⟨Nat.le_of_ble_eq_true rfl, Nat.le_of_ble_eq_true rfl⟩) (va_recv hK hP1 (ci := 0) (q0 := 0) rfl rfl) hK hP1 hD1 hS hA hZ rfl rfl (Nat.le_of_ble_eq_true rfl) hl.1 dL_law_334 hf (fun r u H locs hq hP1 hD1 hS hk1 => ?_)
    have hP2 := keepW WAd_m hsep hP2 hk1
    have hPo := keep1 hao hPo hk1
    obtain ⟨γ1, rfl, rfl⟩ := hq
    refine lv_aload_n hx hb dL_law_337 rfl (lv_at hl 2 rfl) ?_
    refine lv_aload_n hx hb dL_law_338 rfl (lv_at hl 0 rfl) ?_
    refine lv_iload hx hb dL_law_339 (lv_at hl 4 rfl) ?_
    refine lv_iconst (v := 1) hx hb dL_law_341 (by decide) ?_
    refine lv_iadd hx hb dL_law_342 ?_
    refine q_topi (nI (4 * k + 1 + 1)) (nI_add (4 * k + 1) 1) ?_
    refine q_sld hx hb hX0 hbl hbA hS (4 * k + 1 + 1) (nI_toInt (by omega)) (by omega) dL_law_343 ?_
    refine lv_aload_n hx hb dL_law_344 rfl (lv_at hl 0 rfl) ?_
    refine lv_iload hx hb dL_law_345 (lv_at hl 4 rfl) ?_
    refine lv_iconst (v := 2) hx hb dL_law_347 (by decide) ?_
    refine lv_iadd hx hb dL_law_348 ?_
    refine q_topi (nI (4 * k + 1 + 2)) (nI_add (4 * k + 1) 2) ?_
    refine q_sld hx hb hX0 hbl hbA hS (4 * k + 1 + 2) (nI_toInt (by omega)) (by omega) dL_law_349 ?_
    refine lv_if_eq (tgt := 357) hx hb dL_law_350 (by decide) (fun c_9 => ?_) (fun c_9 => ?_)
    · skip
      exact absurd c_9 c_0
    · skip
      refine lv_iconst (v := 1) hx hb dL_law_353 (by decide) ?_
      refine lv_goto (tgt := 358) hx hb dL_law_354 (by decide) ?_
      refine q_topi (nI 1) rfl ?_
      refine callK_i (As := [.int (xs (4 * k + 1 + 1)), .int (nI 1)]) (rest := [.int (oHold σ (xs (4 * k + 1 + 1)) 1).1]) WAd_m ⟨hx, hb, hml, hown, hts⟩ (c_X2_hold l cI cZ D bd pl tb _ σ δ w (xs (4 * k + 1 + 1)) 1 hI (by decide)) (cwV 2 hts gL_law_X2_hold rfl rfl rfl (by decide +kernel) ⟨Nat.le_of_ble_eq_true rfl, Nat.le_of_ble_eq_true rfl⟩) (va_recv hK hP2 (ci := 1) (q0 := 0) rfl rfl) hK hP2 hD2 hS hA hZ rfl rfl (Nat.le_of_ble_eq_true rfl) hl.1 dL_law_358 hf (fun r u H locs hq hP2 hD2 hS hk1 => ?_)
      have hP1 := keepW WAd_c (fun i j hi hj z => hsep j i hj hi z.symm) hP1 hk1
      have hPo := keep1 hbo hPo hk1
      obtain ⟨δ1, w1, rfl, rfl⟩ := hq
      refine lv_icmp_eq (tgt := 800) hx hb dL_law_361 (by decide) (fun _ => ?_) (fun c_1 => absurd rfl c_1)
      refine W.widen (k := 25 + (k + 1)) (n := 4789 + 6 * (k + 1)) (by omega) (by omega) ?_
      exact hn ((oHold σ (xs (4 * k + 1 + 1)) 1).2) γ1 δ1 w1 f (Io_hold hI (by decide)) _ _ _ ⟨hP1, hD1, hP2, hD2, hPo, hS⟩ hl

set_option maxHeartbeats 4000000 in
set_option maxRecDepth 100000 in
theorem k_frame {p : Program} {e : Env} {s : State} {m : MethodId} {below : List Frame} {meth : Method} {c : Code} (l : Launch) (hl0 : l.stackTraces = false) {b L : Nat} {xs : Nat → Int32} (C0 : lw_At p s m meth c b L xs) {cI cZ cJ : ClassId} {D : va_G} {ad bd pl sa : Nat → Nat} {tb ao : Nat} (C1 : LC cI cZ cJ D ad bd pl sa tb ao s)
    {k : Nat} (hk : 4 * k + 5 ≤ L) (hL5 : L ≤ 2049) (hn : NX p l e s m below meth c b cI cZ cJ D ad bd ao k) (σ γ δ : Sg) (w : Int32) (f : Nat → Int64) (hI : Inv σ) (H : Heap) (locs : List Loc) (ls : Array Slot) (hw : LW cI cZ cJ D ad bd ao s σ γ δ w f H locs) (hl : lv_has ls 7 (LV b ad bd ao k)) : W p l e room_1 s m #[Value.ref b] below meth c H locs (25 + k) (4789 + 6 * k) (lw_Z below #[Value.ref b] s) (F0 m 428 ls []) := by
  obtain ⟨hx, hb, hr, hml, hown, hts0, hX0, hbl, hlocks, hgv⟩ := C0
  have hts : ∀ w ∈ wsL_law, w.before #[Value.ref b] s = true := fun w h => hts0 w (wsL_law_in w h)
  obtain ⟨hK, hKo, hNc, hZ, hX, hsep, hao, hbo, hAo⟩ := C1
  obtain ⟨hP1, hD1, hP2, hD2, hPo, hS⟩ := hw
  have hA : ∀ q : Nat, s.heap.size ≤ q → (fun q : Nat => s.heap.size ≤ q) q := fun _ h => h
  have hbA : ¬ (fun q : Nat => s.heap.size ≤ q) b := Nat.not_le.mpr hbl
  have hf : 25 + k ≤ room_1.cells ∧ 4789 + 6 * k ≤ room_1.slots := ⟨by show 25 + k ≤ 1055; omega, by show 4789 + 6 * k ≤ 13017; omega⟩
  refine lv_aload_n hx hb dL_law_428 rfl (lv_at hl 1 rfl) ?_
  refine lv_aload_n hx hb dL_law_429 rfl (lv_at hl 0 rfl) ?_
  refine lv_iload hx hb dL_law_430 (lv_at hl 4 rfl) ?_
  refine lv_iconst (v := 1) hx hb dL_law_432 (by decide) ?_
  refine lv_iadd hx hb dL_law_433 ?_
  refine q_topi (nI (4 * k + 1 + 1)) (nI_add (4 * k + 1) 1) ?_
  refine q_sld hx hb hX0 hbl hbA hS (4 * k + 1 + 1) (nI_toInt (by omega)) (by omega) dL_law_434 ?_
  refine lv_aload_n hx hb dL_law_435 rfl (lv_at hl 0 rfl) ?_
  refine lv_iload hx hb dL_law_436 (lv_at hl 4 rfl) ?_
  refine lv_iconst (v := 2) hx hb dL_law_438 (by decide) ?_
  refine lv_iadd hx hb dL_law_439 ?_
  refine q_topi (nI (4 * k + 1 + 2)) (nI_add (4 * k + 1) 2) ?_
  refine q_sld hx hb hX0 hbl hbA hS (4 * k + 1 + 2) (nI_toInt (by omega)) (by omega) dL_law_440 ?_
  refine lv_aload_n hx hb dL_law_441 rfl (lv_at hl 3 rfl) ?_
  have hF : ∀ q, AO ad ao H.size q → (fun q : Nat => s.heap.size ≤ q) q := fun q h => h.elim (fun h => AC_in WAd_c hD1 hS hA q h) (fun h => by rw [h]; exact hAo)
  refine vx_calli (vx_runSX (As := [.ref (ad 0), .int (xs (4 * k + 1 + 1)), .int (xs (4 * k + 1 + 2)), .ref ao]) (rest := []) ⟨hx, hb, hml, hown, hts⟩ (c_L_frame l hl0 cI cZ cJ D ad pl sa tb ao H.size hao σ γ f (xs (4 * k + 1 + 1)) (xs (4 * k + 1 + 2)) hI) (vx_cwSW 4 hts gL_law_L_frame rfl rfl rfl (by decide +kernel) ⟨Nat.le_of_ble_eq_true rfl, Nat.le_of_ble_eq_true rfl⟩) ⟨PreH.blind, fun U hU hW => ⟨rfl, ⟨⟨by rw [hU], by rw [hU]; exact hP1, va_K.moved hW.alike hK, hD1.weaken (fun _ _ _ _ => trivial), hZ.pass hW.alike (fun a h1 h2 => by rw [hU]; exact hS.2.1 a h1 h2) (AC_in WAd_c hD1 hS hA)⟩, hX.pass hW (fun a h1 h2 => by rw [hU]; exact hS.2.1 a h1 h2) (AC_in WAd_c hD1 hS hA)⟩, by rw [hU]; exact hPo, va_K.moved hW.alike hKo, va_Nc.moved hW.alike hNc⟩⟩ rfl rfl hl.1 rfl (lv_room (Nat.le_of_ble_eq_true rfl)) dL_law_442 ⟨by show 25 + k + 1 ≤ 1055; omega, by show 4789 + 6 * k + 6 ≤ 13017; omega⟩) hS (fun q _ h => hF q h) hF (fun q _ h => hF q h) (fun E ce q9 u t H1 locs1 ht hvm hpx => False.elim hpx) (fun r u t H2 locs ht hvm hp hB hz1 hk1 hS2 => ?_)
  obtain ⟨σ1, γ1, f1⟩ := u
  obtain ⟨h1, h2, h3⟩ := hp
  obtain ⟨hPj, hDj⟩ := hB
  rw [ht] at hPj
  have h1 : σ1 = σ := h1
  have h3 : (oRow (frL σ) (xs (4 * k + 1 + 1)) (xs (4 * k + 1 + 2))).1 = 0 → f1 0 = (oRow (frL σ) (xs (4 * k + 1 + 1)) (xs (4 * k + 1 + 2))).2.toInt64 := h3
  have hPj : va_P D vwCl (WC cI cZ ad (σ1, γ1) ++ [cO cJ ao f1]) H2 := hPj
  have hDj : va_D (AO ad ao H.size) (WC cI cZ ad (σ1, γ1) ++ [cO cJ ao f1]) := hDj
  rw [h1] at hPj hDj
  rw [h2]
  have hP2 := keepWO WAd_m hsep hbo hP2 hk1
  have hDk := hDj.weaken (fun _ q _ h => hF q.1 h)
  have hP1 := hPj.sub (ws' := WC cI cZ ad (σ, γ1)) [0, 1, 2, 3, 4, 5, 6, 7, 8, 9, 10, 11] rfl
  have hPo := hPj.sub (ws' := [cO cJ ao f1]) [12] rfl
  have hD1 := hDk.sub (ws' := WC cI cZ ad (σ, γ1)) [0, 1, 2, 3, 4, 5, 6, 7, 8, 9, 10, 11] (by decide) rfl
  have hS := hS2
  have hle := oRow_le (frL σ) (xs (4 * k + 1 + 1)) (xs (4 * k + 1 + 2))
  refine lv_istore (lv' := [(5, .int (nI (oRow (frL σ) (xs (4 * k + 1 + 1)) (xs (4 * k + 1 + 2))).1)), (0, .ref b), (1, .ref (ad 0)), (2, .ref (bd 0)), (3, .ref ao), (4, .int (nI (4 * k + 1)))]) hx hb dL_law_445 hl (by decide) rfl (fun ls hl => ?_)
  refine lv_aload_n hx hb dL_law_447 rfl (lv_at hl 3 rfl) ?_
  refine lv_aload_n hx hb dL_law_448 rfl (lv_at hl 1 rfl) ?_
  refine lv_iload hx hb dL_law_449 (lv_at hl 5 rfl) ?_
  refine lv_iconst (v := 1) hx hb dL_law_451 (by decide) ?_
  refine lv_iadd hx hb dL_law_452 ?_
  refine q_topi (nI (4 * k + 1 + 1)) (nI_add (4 * k + 1) 1) ?_
  refine q_sld hx hb hX0 hbl hbA hS (4 * k + 1 + 1) (nI_toInt (by omega)) (by omega) dL_law_453 ?_
  refine lv_aload_n hx hb dL_law_454 rfl (lv_at hl 1 rfl) ?_
  refine lv_iload hx hb dL_law_455 (lv_at hl 5 rfl) ?_
  refine lv_iconst (v := 2) hx hb dL_law_457 (by decide) ?_
  refine lv_iadd hx hb dL_law_458 ?_
  refine q_topi (nI (4 * k + 1 + 2)) (nI_add (4 * k + 1) 2) ?_
  refine q_sld hx hb hX0 hbl hbA hS (4 * k + 1 + 2) (nI_toInt (by omega)) (by omega) dL_law_459 ?_
  refine callK_i (As := [.int (xs (4 * k + 1 + 1)), .int (xs (4 * k + 1 + 2))]) (rest := []) WAd_m ⟨hx, hb, hml, hown, hts⟩ (c_X2_frame l cI cZ D bd pl tb _ σ δ w (xs (4 * k + 1 + 1)) (xs (4 * k + 1 + 2)) hI) (cwV 2 hts gL_law_X2_frame rfl rfl rfl (by decide +kernel) ⟨Nat.le_of_ble_eq_true rfl, Nat.le_of_ble_eq_true rfl⟩) (va_recv hK hP2 (ci := 1) (q0 := 0) rfl rfl) hK hP2 hD2 hS hA hZ rfl rfl (Nat.le_of_ble_eq_true rfl) hl.1 dL_law_460 ⟨by show 25 + k + 1 ≤ 1055; omega, by show 4789 + 6 * k + 6 ≤ 13017; omega⟩ (fun r u H locs hq hP2 hD2 hS hk1 => ?_)
  have hP1 := keepW WAd_c (fun i j hi hj z => hsep j i hj hi z.symm) hP1 hk1
  have hPo := keep1 hbo hPo hk1
  obtain ⟨δ1, w1, rfl, rfl, hf0⟩ := hq
  refine lv_istore (lv' := [(6, .int (oRow (frL σ) (xs (4 * k + 1 + 1)) (xs (4 * k + 1 + 2))).2), (5, .int (nI (oRow (frL σ) (xs (4 * k + 1 + 1)) (xs (4 * k + 1 + 2))).1)), (0, .ref b), (1, .ref (ad 0)), (2, .ref (bd 0)), (3, .ref ao), (4, .int (nI (4 * k + 1)))]) hx hb dL_law_463 hl (by decide) rfl (fun ls hl => ?_)
  refine lv_aload_n hx hb dL_law_465 rfl (lv_at hl 4 rfl) ?_
  refine callK_i (As := []) (rest := []) WAd_m ⟨hx, hb, hml, hown, hts⟩ (c_X2_thrown l cI cZ D bd pl tb _ σ δ1 w1 (by omega)) (cwV 0 hts gL_law_X2_thrown rfl rfl rfl (by decide +kernel) ⟨Nat.le_of_ble_eq_true rfl, Nat.le_of_ble_eq_true rfl⟩) (va_recv hK hP2 (ci := 1) (q0 := 0) rfl rfl) hK hP2 hD2 hS hA hZ rfl rfl (Nat.le_of_ble_eq_true rfl) hl.1 dL_law_466 ⟨by show 25 + k + 1 ≤ 1055; omega, by show 4789 + 6 * k + 6 ≤ 13017; omega⟩ (fun r u H locs hq hP2 hD2 hS hk1 => ?_)
  have hP1 := keepW WAd_c (fun i j hi hj z => hsep j i hj hi z.symm) hP1 hk1
  have hPo := keep1 hbo hPo hk1
  obtain ⟨rfl, rfl⟩ := hq
  refine lv_iload hx hb dL_law_469 (lv_at hl 1 rfl) ?_
  refine lv_icmp_eq (tgt := 476) hx hb dL_law_471 (by decide) (fun _ => ?_) (fun c_1 => absurd (congrArg nI hf0) c_1)
  refine lv_iload hx hb dL_law_476 (lv_at hl 1 rfl) ?_
  refine lv_if_ne (tgt := 493) hx hb dL_law_478 (by decide) (fun c_2 => ?_) (fun c_2 => ?_)
  · skip
    refine lv_goto (tgt := 800) hx hb dL_law_493 (by decide) ?_
    refine W.widen (k := 25 + (k + 1)) (n := 4789 + 6 * (k + 1)) (by omega) (by omega) ?_
    exact hn σ γ1 δ1 w1 f1 hI _ _ _ ⟨hP1, hD1, hP2, hD2, hPo, hS⟩ (lv_sub hl [2, 3, 4, 5, 6] rfl)
  · skip
    have c_2 := nI_z hle c_2
    have h4 := h3 c_2
    refine lv_aload_n hx hb dL_law_481 rfl (lv_at hl 5 rfl) ?_
    refine lv_iconst (v := 0) hx hb dL_law_482 (by decide) ?_
    refine va_lald hx hb hKo hPo 0 0 rfl rfl (q_vin (x := 0) (j := 0) (n := 1) (by decide) (by decide)) dL_law_483 ?_
    refine lv_iload hx hb dL_law_484 (lv_at hl 0 rfl) ?_
    refine lv_i2l hx hb dL_law_486 rfl ?_
    refine W.lcmp hx hb dL_law_487 ?_
    refine lv_if_eq (tgt := 493) hx hb dL_law_488 (by decide) (fun _ => ?_) (fun c_3 => absurd (by show lg_cmp (f1 0) _ = 0; rw [h4]; exact lg_same _) c_3)
    refine lv_goto (tgt := 800) hx hb dL_law_493 (by decide) ?_
    refine W.widen (k := 25 + (k + 1)) (n := 4789 + 6 * (k + 1)) (by omega) (by omega) ?_
    exact hn σ γ1 δ1 w1 f1 hI _ _ _ ⟨hP1, hD1, hP2, hD2, hPo, hS⟩ (lv_sub hl [2, 3, 4, 5, 6] rfl)

set_option maxHeartbeats 4000000 in
set_option maxRecDepth 100000 in
theorem k_list {p : Program} {e : Env} {s : State} {m : MethodId} {below : List Frame} {meth : Method} {c : Code} (l : Launch) (hl0 : l.stackTraces = false) {b L : Nat} {xs : Nat → Int32} (C0 : lw_At p s m meth c b L xs) {cI cZ cJ : ClassId} {D : va_G} {ad bd pl sa : Nat → Nat} {tb ao : Nat} (C1 : LC cI cZ cJ D ad bd pl sa tb ao s)
    {k : Nat} (hk : 4 * k + 5 ≤ L) (hL5 : L ≤ 2049) (hn : NX p l e s m below meth c b cI cZ cJ D ad bd ao k) (σ γ δ : Sg) (w : Int32) (f : Nat → Int64) (hI : Inv σ) (H : Heap) (locs : List Loc) (ls : Array Slot) (hw : LW cI cZ cJ D ad bd ao s σ γ δ w f H locs) (hl : lv_has ls 7 (LV b ad bd ao k)) : W p l e room_1 s m #[Value.ref b] below meth c H locs (25 + k) (4789 + 6 * k) (lw_Z below #[Value.ref b] s) (F0 m 496 ls []) := by
  obtain ⟨hx, hb, hr, hml, hown, hts0, hX0, hbl, hlocks, hgv⟩ := C0
  have hts : ∀ w ∈ wsL_law, w.before #[Value.ref b] s = true := fun w h => hts0 w (wsL_law_in w h)
  obtain ⟨hK, hKo, hNc, hZ, hX, hsep, hao, hbo, hAo⟩ := C1
  obtain ⟨hP1, hD1, hP2, hD2, hPo, hS⟩ := hw
  have hA : ∀ q : Nat, s.heap.size ≤ q → (fun q : Nat => s.heap.size ≤ q) q := fun _ h => h
  have hbA : ¬ (fun q : Nat => s.heap.size ≤ q) b := Nat.not_le.mpr hbl
  have hf : 25 + k ≤ room_1.cells ∧ 4789 + 6 * k ≤ room_1.slots := ⟨by show 25 + k ≤ 1055; omega, by show 4789 + 6 * k ≤ 13017; omega⟩
  refine lv_aload_n hx hb dL_law_496 rfl (lv_at hl 1 rfl) ?_
  refine lv_aload_n hx hb dL_law_497 rfl (lv_at hl 0 rfl) ?_
  refine lv_iload hx hb dL_law_498 (lv_at hl 4 rfl) ?_
  refine lv_iconst (v := 1) hx hb dL_law_500 (by decide) ?_
  refine lv_iadd hx hb dL_law_501 ?_
  refine q_topi (nI (4 * k + 1 + 1)) (nI_add (4 * k + 1) 1) ?_
  refine q_sld hx hb hX0 hbl hbA hS (4 * k + 1 + 1) (nI_toInt (by omega)) (by omega) dL_law_502 ?_
  refine lv_aload_n hx hb dL_law_503 rfl (lv_at hl 0 rfl) ?_
  refine lv_iload hx hb dL_law_504 (lv_at hl 4 rfl) ?_
  refine lv_iconst (v := 2) hx hb dL_law_506 (by decide) ?_
  refine lv_iadd hx hb dL_law_507 ?_
  refine q_topi (nI (4 * k + 1 + 2)) (nI_add (4 * k + 1) 2) ?_
  refine q_sld hx hb hX0 hbl hbA hS (4 * k + 1 + 2) (nI_toInt (by omega)) (by omega) dL_law_508 ?_
  refine lv_aload_n hx hb dL_law_509 rfl (lv_at hl 3 rfl) ?_
  have hF : ∀ q, AO ad ao H.size q → (fun q : Nat => s.heap.size ≤ q) q := fun q h => h.elim (fun h => AC_in WAd_c hD1 hS hA q h) (fun h => by rw [h]; exact hAo)
  refine vx_calli (vx_runSX (As := [.ref (ad 0), .int (xs (4 * k + 1 + 1)), .int (xs (4 * k + 1 + 2)), .ref ao]) (rest := []) ⟨hx, hb, hml, hown, hts⟩ (c_L_list l hl0 cI cZ cJ D ad pl sa tb ao H.size hao σ γ f (xs (4 * k + 1 + 1)) (xs (4 * k + 1 + 2)) hI) (vx_cwSW 4 hts gL_law_L_list rfl rfl rfl (by decide +kernel) ⟨Nat.le_of_ble_eq_true rfl, Nat.le_of_ble_eq_true rfl⟩) ⟨PreH.blind, fun U hU hW => ⟨rfl, ⟨⟨by rw [hU], by rw [hU]; exact hP1, va_K.moved hW.alike hK, hD1.weaken (fun _ _ _ _ => trivial), hZ.pass hW.alike (fun a h1 h2 => by rw [hU]; exact hS.2.1 a h1 h2) (AC_in WAd_c hD1 hS hA)⟩, hX.pass hW (fun a h1 h2 => by rw [hU]; exact hS.2.1 a h1 h2) (AC_in WAd_c hD1 hS hA)⟩, by rw [hU]; exact hPo, va_K.moved hW.alike hKo, va_Nc.moved hW.alike hNc⟩⟩ rfl rfl hl.1 rfl (lv_room (Nat.le_of_ble_eq_true rfl)) dL_law_510 ⟨by show 25 + k + 1 ≤ 1055; omega, by show 4789 + 6 * k + 6 ≤ 13017; omega⟩) hS (fun q _ h => hF q h) hF (fun q _ h => hF q h) (fun E ce q9 u t H1 locs1 ht hvm hpx => False.elim hpx) (fun r u t H2 locs ht hvm hp hB hz1 hk1 hS2 => ?_)
  obtain ⟨σ1, γ1, f1⟩ := u
  obtain ⟨h1, h2, h3⟩ := hp
  obtain ⟨hPj, hDj⟩ := hB
  rw [ht] at hPj
  have h1 : σ1 = σ := h1
  have h3 : (oRow (fun c => roL σ c 3) (xs (4 * k + 1 + 1)) (xs (4 * k + 1 + 2))).1 = 0 → f1 0 = (oRow (fun c => roL σ c 3) (xs (4 * k + 1 + 1)) (xs (4 * k + 1 + 2))).2.toInt64 := h3
  have hPj : va_P D vwCl (WC cI cZ ad (σ1, γ1) ++ [cO cJ ao f1]) H2 := hPj
  have hDj : va_D (AO ad ao H.size) (WC cI cZ ad (σ1, γ1) ++ [cO cJ ao f1]) := hDj
  rw [h1] at hPj hDj
  rw [h2]
  have hP2 := keepWO WAd_m hsep hbo hP2 hk1
  have hDk := hDj.weaken (fun _ q _ h => hF q.1 h)
  have hP1 := hPj.sub (ws' := WC cI cZ ad (σ, γ1)) [0, 1, 2, 3, 4, 5, 6, 7, 8, 9, 10, 11] rfl
  have hPo := hPj.sub (ws' := [cO cJ ao f1]) [12] rfl
  have hD1 := hDk.sub (ws' := WC cI cZ ad (σ, γ1)) [0, 1, 2, 3, 4, 5, 6, 7, 8, 9, 10, 11] (by decide) rfl
  have hS := hS2
  have hle := oRow_le (fun c => roL σ c 3) (xs (4 * k + 1 + 1)) (xs (4 * k + 1 + 2))
  refine lv_istore (lv' := [(5, .int (nI (oRow (fun c => roL σ c 3) (xs (4 * k + 1 + 1)) (xs (4 * k + 1 + 2))).1)), (0, .ref b), (1, .ref (ad 0)), (2, .ref (bd 0)), (3, .ref ao), (4, .int (nI (4 * k + 1)))]) hx hb dL_law_513 hl (by decide) rfl (fun ls hl => ?_)
  refine lv_aload_n hx hb dL_law_515 rfl (lv_at hl 3 rfl) ?_
  refine lv_aload_n hx hb dL_law_516 rfl (lv_at hl 1 rfl) ?_
  refine lv_iload hx hb dL_law_517 (lv_at hl 5 rfl) ?_
  refine lv_iconst (v := 1) hx hb dL_law_519 (by decide) ?_
  refine lv_iadd hx hb dL_law_520 ?_
  refine q_topi (nI (4 * k + 1 + 1)) (nI_add (4 * k + 1) 1) ?_
  refine q_sld hx hb hX0 hbl hbA hS (4 * k + 1 + 1) (nI_toInt (by omega)) (by omega) dL_law_521 ?_
  refine lv_aload_n hx hb dL_law_522 rfl (lv_at hl 1 rfl) ?_
  refine lv_iload hx hb dL_law_523 (lv_at hl 5 rfl) ?_
  refine lv_iconst (v := 2) hx hb dL_law_525 (by decide) ?_
  refine lv_iadd hx hb dL_law_526 ?_
  refine q_topi (nI (4 * k + 1 + 2)) (nI_add (4 * k + 1) 2) ?_
  refine q_sld hx hb hX0 hbl hbA hS (4 * k + 1 + 2) (nI_toInt (by omega)) (by omega) dL_law_527 ?_
  refine callK_i (As := [.int (xs (4 * k + 1 + 1)), .int (xs (4 * k + 1 + 2))]) (rest := []) WAd_m ⟨hx, hb, hml, hown, hts⟩ (c_X2_list l cI cZ D bd pl tb _ σ δ w (xs (4 * k + 1 + 1)) (xs (4 * k + 1 + 2)) hI) (cwV 2 hts gL_law_X2_list rfl rfl rfl (by decide +kernel) ⟨Nat.le_of_ble_eq_true rfl, Nat.le_of_ble_eq_true rfl⟩) (va_recv hK hP2 (ci := 1) (q0 := 0) rfl rfl) hK hP2 hD2 hS hA hZ rfl rfl (Nat.le_of_ble_eq_true rfl) hl.1 dL_law_528 ⟨by show 25 + k + 1 ≤ 1055; omega, by show 4789 + 6 * k + 6 ≤ 13017; omega⟩ (fun r u H locs hq hP2 hD2 hS hk1 => ?_)
  have hP1 := keepW WAd_c (fun i j hi hj z => hsep j i hj hi z.symm) hP1 hk1
  have hPo := keep1 hbo hPo hk1
  obtain ⟨δ1, w1, rfl, rfl, hf0⟩ := hq
  refine lv_istore (lv' := [(6, .int (oRow (fun c => roL σ c 3) (xs (4 * k + 1 + 1)) (xs (4 * k + 1 + 2))).2), (5, .int (nI (oRow (fun c => roL σ c 3) (xs (4 * k + 1 + 1)) (xs (4 * k + 1 + 2))).1)), (0, .ref b), (1, .ref (ad 0)), (2, .ref (bd 0)), (3, .ref ao), (4, .int (nI (4 * k + 1)))]) hx hb dL_law_531 hl (by decide) rfl (fun ls hl => ?_)
  refine lv_aload_n hx hb dL_law_533 rfl (lv_at hl 4 rfl) ?_
  refine callK_i (As := []) (rest := []) WAd_m ⟨hx, hb, hml, hown, hts⟩ (c_X2_thrown l cI cZ D bd pl tb _ σ δ1 w1 (by omega)) (cwV 0 hts gL_law_X2_thrown rfl rfl rfl (by decide +kernel) ⟨Nat.le_of_ble_eq_true rfl, Nat.le_of_ble_eq_true rfl⟩) (va_recv hK hP2 (ci := 1) (q0 := 0) rfl rfl) hK hP2 hD2 hS hA hZ rfl rfl (Nat.le_of_ble_eq_true rfl) hl.1 dL_law_534 ⟨by show 25 + k + 1 ≤ 1055; omega, by show 4789 + 6 * k + 6 ≤ 13017; omega⟩ (fun r u H locs hq hP2 hD2 hS hk1 => ?_)
  have hP1 := keepW WAd_c (fun i j hi hj z => hsep j i hj hi z.symm) hP1 hk1
  have hPo := keep1 hbo hPo hk1
  obtain ⟨rfl, rfl⟩ := hq
  refine lv_iload hx hb dL_law_537 (lv_at hl 1 rfl) ?_
  refine lv_icmp_eq (tgt := 544) hx hb dL_law_539 (by decide) (fun _ => ?_) (fun c_1 => absurd (congrArg nI hf0) c_1)
  refine lv_iload hx hb dL_law_544 (lv_at hl 1 rfl) ?_
  refine lv_if_ne (tgt := 561) hx hb dL_law_546 (by decide) (fun c_2 => ?_) (fun c_2 => ?_)
  · skip
    refine lv_goto (tgt := 800) hx hb dL_law_561 (by decide) ?_
    refine W.widen (k := 25 + (k + 1)) (n := 4789 + 6 * (k + 1)) (by omega) (by omega) ?_
    exact hn σ γ1 δ1 w1 f1 hI _ _ _ ⟨hP1, hD1, hP2, hD2, hPo, hS⟩ (lv_sub hl [2, 3, 4, 5, 6] rfl)
  · skip
    have c_2 := nI_z hle c_2
    have h4 := h3 c_2
    refine lv_aload_n hx hb dL_law_549 rfl (lv_at hl 5 rfl) ?_
    refine lv_iconst (v := 0) hx hb dL_law_550 (by decide) ?_
    refine va_lald hx hb hKo hPo 0 0 rfl rfl (q_vin (x := 0) (j := 0) (n := 1) (by decide) (by decide)) dL_law_551 ?_
    refine lv_iload hx hb dL_law_552 (lv_at hl 0 rfl) ?_
    refine lv_i2l hx hb dL_law_554 rfl ?_
    refine W.lcmp hx hb dL_law_555 ?_
    refine lv_if_eq (tgt := 561) hx hb dL_law_556 (by decide) (fun _ => ?_) (fun c_3 => absurd (by show lg_cmp (f1 0) _ = 0; rw [h4]; exact lg_same _) c_3)
    refine lv_goto (tgt := 800) hx hb dL_law_561 (by decide) ?_
    refine W.widen (k := 25 + (k + 1)) (n := 4789 + 6 * (k + 1)) (by omega) (by omega) ?_
    exact hn σ γ1 δ1 w1 f1 hI _ _ _ ⟨hP1, hD1, hP2, hD2, hPo, hS⟩ (lv_sub hl [2, 3, 4, 5, 6] rfl)

set_option maxHeartbeats 4000000 in
set_option maxRecDepth 100000 in
theorem k_minutes {p : Program} {e : Env} {s : State} {m : MethodId} {below : List Frame} {meth : Method} {c : Code} (l : Launch) (hl0 : l.stackTraces = false) {b L : Nat} {xs : Nat → Int32} (C0 : lw_At p s m meth c b L xs) {cI cZ cJ : ClassId} {D : va_G} {ad bd pl sa : Nat → Nat} {tb ao : Nat} (C1 : LC cI cZ cJ D ad bd pl sa tb ao s)
    {k : Nat} (hk : 4 * k + 5 ≤ L) (hL5 : L ≤ 2049) (hn : NX p l e s m below meth c b cI cZ cJ D ad bd ao k) (σ γ δ : Sg) (w : Int32) (f : Nat → Int64) (hI : Inv σ) (H : Heap) (locs : List Loc) (ls : Array Slot) (hw : LW cI cZ cJ D ad bd ao s σ γ δ w f H locs) (hl : lv_has ls 7 (LV b ad bd ao k)) : W p l e room_1 s m #[Value.ref b] below meth c H locs (25 + k) (4789 + 6 * k) (lw_Z below #[Value.ref b] s) (F0 m 651 ls []) := by
  obtain ⟨hx, hb, hr, hml, hown, hts0, hX0, hbl, hlocks, hgv⟩ := C0
  have hts : ∀ w ∈ wsL_law, w.before #[Value.ref b] s = true := fun w h => hts0 w (wsL_law_in w h)
  obtain ⟨hK, hKo, hNc, hZ, hX, hsep, hao, hbo, hAo⟩ := C1
  obtain ⟨hP1, hD1, hP2, hD2, hPo, hS⟩ := hw
  have hA : ∀ q : Nat, s.heap.size ≤ q → (fun q : Nat => s.heap.size ≤ q) q := fun _ h => h
  have hbA : ¬ (fun q : Nat => s.heap.size ≤ q) b := Nat.not_le.mpr hbl
  have hf : 25 + k ≤ room_1.cells ∧ 4789 + 6 * k ≤ room_1.slots := ⟨by show 25 + k ≤ 1055; omega, by show 4789 + 6 * k ≤ 13017; omega⟩
  refine lv_aload_n hx hb dL_law_651 rfl (lv_at hl 1 rfl) ?_
  refine lv_aload_n hx hb dL_law_652 rfl (lv_at hl 0 rfl) ?_
  refine lv_iload hx hb dL_law_653 (lv_at hl 4 rfl) ?_
  refine lv_iconst (v := 1) hx hb dL_law_655 (by decide) ?_
  refine lv_iadd hx hb dL_law_656 ?_
  refine q_topi (nI (4 * k + 1 + 1)) (nI_add (4 * k + 1) 1) ?_
  refine q_sld hx hb hX0 hbl hbA hS (4 * k + 1 + 1) (nI_toInt (by omega)) (by omega) dL_law_657 ?_
  refine lv_aload_n hx hb dL_law_658 rfl (lv_at hl 3 rfl) ?_
  have hF : ∀ q, AO ad ao H.size q → (fun q : Nat => s.heap.size ≤ q) q := fun q h => h.elim (fun h => AC_in WAd_c hD1 hS hA q h) (fun h => by rw [h]; exact hAo)
  refine vx_calli (vx_runSX (As := [.ref (ad 0), .int (xs (4 * k + 1 + 1)), .ref ao]) (rest := []) ⟨hx, hb, hml, hown, hts⟩ (c_L_minutes l hl0 cI cZ cJ D ad pl sa tb ao H.size hao σ γ f (xs (4 * k + 1 + 1)) hI) (vx_cwSW 3 hts gL_law_L_minutes rfl rfl rfl (by decide +kernel) ⟨Nat.le_of_ble_eq_true rfl, Nat.le_of_ble_eq_true rfl⟩) ⟨PreH.blind, fun U hU hW => ⟨rfl, ⟨⟨by rw [hU], by rw [hU]; exact hP1, va_K.moved hW.alike hK, hD1.weaken (fun _ _ _ _ => trivial), hZ.pass hW.alike (fun a h1 h2 => by rw [hU]; exact hS.2.1 a h1 h2) (AC_in WAd_c hD1 hS hA)⟩, hX.pass hW (fun a h1 h2 => by rw [hU]; exact hS.2.1 a h1 h2) (AC_in WAd_c hD1 hS hA)⟩, by rw [hU]; exact hPo, va_K.moved hW.alike hKo, va_Nc.moved hW.alike hNc⟩⟩ rfl rfl hl.1 rfl (lv_room (Nat.le_of_ble_eq_true rfl)) dL_law_659 ⟨by show 25 + k + 1 ≤ 1055; omega, by show 4789 + 6 * k + 6 ≤ 13017; omega⟩) hS (fun q _ h => hF q h) hF (fun q _ h => hF q h) (fun E ce q9 u t H1 locs1 ht hvm hpx => False.elim hpx) (fun r u t H2 locs ht hvm hp hB hz1 hk1 hS2 => ?_)
  obtain ⟨σ1, γ1, f1⟩ := u
  obtain ⟨h1, h2, h3⟩ := hp
  obtain ⟨hPj, hDj⟩ := hB
  rw [ht] at hPj
  have h1 : σ1 = σ := h1
  have h3 : (oMin σ (xs (4 * k + 1 + 1))).1 = 0 → f1 0 = (oMin σ (xs (4 * k + 1 + 1))).2.toInt64 := h3
  have hPj : va_P D vwCl (WC cI cZ ad (σ1, γ1) ++ [cO cJ ao f1]) H2 := hPj
  have hDj : va_D (AO ad ao H.size) (WC cI cZ ad (σ1, γ1) ++ [cO cJ ao f1]) := hDj
  rw [h1] at hPj hDj
  rw [h2]
  have hP2 := keepWO WAd_m hsep hbo hP2 hk1
  have hDk := hDj.weaken (fun _ q _ h => hF q.1 h)
  have hP1 := hPj.sub (ws' := WC cI cZ ad (σ, γ1)) [0, 1, 2, 3, 4, 5, 6, 7, 8, 9, 10, 11] rfl
  have hPo := hPj.sub (ws' := [cO cJ ao f1]) [12] rfl
  have hD1 := hDk.sub (ws' := WC cI cZ ad (σ, γ1)) [0, 1, 2, 3, 4, 5, 6, 7, 8, 9, 10, 11] (by decide) rfl
  have hS := hS2
  have hle := oMin_le σ (xs (4 * k + 1 + 1))
  refine lv_istore (lv' := [(5, .int (nI (oMin σ (xs (4 * k + 1 + 1))).1)), (0, .ref b), (1, .ref (ad 0)), (2, .ref (bd 0)), (3, .ref ao), (4, .int (nI (4 * k + 1)))]) hx hb dL_law_662 hl (by decide) rfl (fun ls hl => ?_)
  refine lv_aload_n hx hb dL_law_664 rfl (lv_at hl 3 rfl) ?_
  refine lv_aload_n hx hb dL_law_665 rfl (lv_at hl 1 rfl) ?_
  refine lv_iload hx hb dL_law_666 (lv_at hl 5 rfl) ?_
  refine lv_iconst (v := 1) hx hb dL_law_668 (by decide) ?_
  refine lv_iadd hx hb dL_law_669 ?_
  refine q_topi (nI (4 * k + 1 + 1)) (nI_add (4 * k + 1) 1) ?_
  refine q_sld hx hb hX0 hbl hbA hS (4 * k + 1 + 1) (nI_toInt (by omega)) (by omega) dL_law_670 ?_
  refine callK_i (As := [.int (xs (4 * k + 1 + 1))]) (rest := []) WAd_m ⟨hx, hb, hml, hown, hts⟩ (c_X2_minutes l cI cZ D bd pl tb _ σ δ w (xs (4 * k + 1 + 1)) hI) (cwV 1 hts gL_law_X2_minutes rfl rfl rfl (by decide +kernel) ⟨Nat.le_of_ble_eq_true rfl, Nat.le_of_ble_eq_true rfl⟩) (va_recv hK hP2 (ci := 1) (q0 := 0) rfl rfl) hK hP2 hD2 hS hA hZ rfl rfl (Nat.le_of_ble_eq_true rfl) hl.1 dL_law_671 ⟨by show 25 + k + 1 ≤ 1055; omega, by show 4789 + 6 * k + 6 ≤ 13017; omega⟩ (fun r u H locs hq hP2 hD2 hS hk1 => ?_)
  have hP1 := keepW WAd_c (fun i j hi hj z => hsep j i hj hi z.symm) hP1 hk1
  have hPo := keep1 hbo hPo hk1
  obtain ⟨δ1, w1, rfl, rfl, hf0⟩ := hq
  refine lv_istore (lv' := [(6, .int (oMin σ (xs (4 * k + 1 + 1))).2), (5, .int (nI (oMin σ (xs (4 * k + 1 + 1))).1)), (0, .ref b), (1, .ref (ad 0)), (2, .ref (bd 0)), (3, .ref ao), (4, .int (nI (4 * k + 1)))]) hx hb dL_law_674 hl (by decide) rfl (fun ls hl => ?_)
  refine lv_aload_n hx hb dL_law_676 rfl (lv_at hl 4 rfl) ?_
  refine callK_i (As := []) (rest := []) WAd_m ⟨hx, hb, hml, hown, hts⟩ (c_X2_thrown l cI cZ D bd pl tb _ σ δ1 w1 (by omega)) (cwV 0 hts gL_law_X2_thrown rfl rfl rfl (by decide +kernel) ⟨Nat.le_of_ble_eq_true rfl, Nat.le_of_ble_eq_true rfl⟩) (va_recv hK hP2 (ci := 1) (q0 := 0) rfl rfl) hK hP2 hD2 hS hA hZ rfl rfl (Nat.le_of_ble_eq_true rfl) hl.1 dL_law_677 ⟨by show 25 + k + 1 ≤ 1055; omega, by show 4789 + 6 * k + 6 ≤ 13017; omega⟩ (fun r u H locs hq hP2 hD2 hS hk1 => ?_)
  have hP1 := keepW WAd_c (fun i j hi hj z => hsep j i hj hi z.symm) hP1 hk1
  have hPo := keep1 hbo hPo hk1
  obtain ⟨rfl, rfl⟩ := hq
  refine lv_iload hx hb dL_law_680 (lv_at hl 1 rfl) ?_
  refine lv_icmp_eq (tgt := 687) hx hb dL_law_682 (by decide) (fun _ => ?_) (fun c_1 => absurd (congrArg nI hf0) c_1)
  refine lv_iload hx hb dL_law_687 (lv_at hl 1 rfl) ?_
  refine lv_if_ne (tgt := 704) hx hb dL_law_689 (by decide) (fun c_2 => ?_) (fun c_2 => ?_)
  · skip
    refine lv_goto (tgt := 800) hx hb dL_law_704 (by decide) ?_
    refine W.widen (k := 25 + (k + 1)) (n := 4789 + 6 * (k + 1)) (by omega) (by omega) ?_
    exact hn σ γ1 δ1 w1 f1 hI _ _ _ ⟨hP1, hD1, hP2, hD2, hPo, hS⟩ (lv_sub hl [2, 3, 4, 5, 6] rfl)
  · skip
    have c_2 := nI_z hle c_2
    have h4 := h3 c_2
    refine lv_aload_n hx hb dL_law_692 rfl (lv_at hl 5 rfl) ?_
    refine lv_iconst (v := 0) hx hb dL_law_693 (by decide) ?_
    refine va_lald hx hb hKo hPo 0 0 rfl rfl (q_vin (x := 0) (j := 0) (n := 1) (by decide) (by decide)) dL_law_694 ?_
    refine lv_iload hx hb dL_law_695 (lv_at hl 0 rfl) ?_
    refine lv_i2l hx hb dL_law_697 rfl ?_
    refine W.lcmp hx hb dL_law_698 ?_
    refine lv_if_eq (tgt := 704) hx hb dL_law_699 (by decide) (fun _ => ?_) (fun c_3 => absurd (by show lg_cmp (f1 0) _ = 0; rw [h4]; exact lg_same _) c_3)
    refine lv_goto (tgt := 800) hx hb dL_law_704 (by decide) ?_
    refine W.widen (k := 25 + (k + 1)) (n := 4789 + 6 * (k + 1)) (by omega) (by omega) ?_
    exact hn σ γ1 δ1 w1 f1 hI _ _ _ ⟨hP1, hD1, hP2, hD2, hPo, hS⟩ (lv_sub hl [2, 3, 4, 5, 6] rfl)

set_option maxHeartbeats 4000000 in
set_option maxRecDepth 100000 in
theorem k_count {p : Program} {e : Env} {s : State} {m : MethodId} {below : List Frame} {meth : Method} {c : Code} (l : Launch) (hl0 : l.stackTraces = false) {b L : Nat} {xs : Nat → Int32} (C0 : lw_At p s m meth c b L xs) {cI cZ cJ : ClassId} {D : va_G} {ad bd pl sa : Nat → Nat} {tb ao : Nat} (C1 : LC cI cZ cJ D ad bd pl sa tb ao s)
    {k : Nat} (hk : 4 * k + 5 ≤ L) (hL5 : L ≤ 2049) (hn : NX p l e s m below meth c b cI cZ cJ D ad bd ao k) (σ γ δ : Sg) (w : Int32) (f : Nat → Int64) (hI : Inv σ) (H : Heap) (locs : List Loc) (ls : Array Slot) (hw : LW cI cZ cJ D ad bd ao s σ γ δ w f H locs) (hl : lv_has ls 7 (LV b ad bd ao k)) : W p l e room_1 s m #[Value.ref b] below meth c H locs (25 + k) (4789 + 6 * k) (lw_Z below #[Value.ref b] s) (F0 m 744 ls []) := by
  obtain ⟨hx, hb, hr, hml, hown, hts0, hX0, hbl, hlocks, hgv⟩ := C0
  have hts : ∀ w ∈ wsL_law, w.before #[Value.ref b] s = true := fun w h => hts0 w (wsL_law_in w h)
  obtain ⟨hK, hKo, hNc, hZ, hX, hsep, hao, hbo, hAo⟩ := C1
  obtain ⟨hP1, hD1, hP2, hD2, hPo, hS⟩ := hw
  have hA : ∀ q : Nat, s.heap.size ≤ q → (fun q : Nat => s.heap.size ≤ q) q := fun _ h => h
  have hbA : ¬ (fun q : Nat => s.heap.size ≤ q) b := Nat.not_le.mpr hbl
  have hf : 25 + k ≤ room_1.cells ∧ 4789 + 6 * k ≤ room_1.slots := ⟨by show 25 + k ≤ 1055; omega, by show 4789 + 6 * k ≤ 13017; omega⟩
  refine lv_aload_n hx hb dL_law_744 rfl (lv_at hl 1 rfl) ?_
  refine lv_aload_n hx hb dL_law_745 rfl (lv_at hl 0 rfl) ?_
  refine lv_iload hx hb dL_law_746 (lv_at hl 4 rfl) ?_
  refine lv_iconst (v := 1) hx hb dL_law_748 (by decide) ?_
  refine lv_iadd hx hb dL_law_749 ?_
  refine q_topi (nI (4 * k + 1 + 1)) (nI_add (4 * k + 1) 1) ?_
  refine q_sld hx hb hX0 hbl hbA hS (4 * k + 1 + 1) (nI_toInt (by omega)) (by omega) dL_law_750 ?_
  refine lv_aload_n hx hb dL_law_751 rfl (lv_at hl 3 rfl) ?_
  have hF : ∀ q, AO ad ao H.size q → (fun q : Nat => s.heap.size ≤ q) q := fun q h => h.elim (fun h => AC_in WAd_c hD1 hS hA q h) (fun h => by rw [h]; exact hAo)
  refine vx_calli (vx_runSX (As := [.ref (ad 0), .int (xs (4 * k + 1 + 1)), .ref ao]) (rest := []) ⟨hx, hb, hml, hown, hts⟩ (c_L_count l hl0 cI cZ cJ D ad pl sa tb ao H.size hao σ γ f (xs (4 * k + 1 + 1)) hI) (vx_cwSW 3 hts gL_law_L_count rfl rfl rfl (by decide +kernel) ⟨Nat.le_of_ble_eq_true rfl, Nat.le_of_ble_eq_true rfl⟩) ⟨PreH.blind, fun U hU hW => ⟨rfl, ⟨⟨by rw [hU], by rw [hU]; exact hP1, va_K.moved hW.alike hK, hD1.weaken (fun _ _ _ _ => trivial), hZ.pass hW.alike (fun a h1 h2 => by rw [hU]; exact hS.2.1 a h1 h2) (AC_in WAd_c hD1 hS hA)⟩, hX.pass hW (fun a h1 h2 => by rw [hU]; exact hS.2.1 a h1 h2) (AC_in WAd_c hD1 hS hA)⟩, by rw [hU]; exact hPo, va_K.moved hW.alike hKo, va_Nc.moved hW.alike hNc⟩⟩ rfl rfl hl.1 rfl (lv_room (Nat.le_of_ble_eq_true rfl)) dL_law_752 ⟨by show 25 + k + 1 ≤ 1055; omega, by show 4789 + 6 * k + 6 ≤ 13017; omega⟩) hS (fun q _ h => hF q h) hF (fun q _ h => hF q h) (fun E ce q9 u t H1 locs1 ht hvm hpx => False.elim hpx) (fun r u t H2 locs ht hvm hp hB hz1 hk1 hS2 => ?_)
  obtain ⟨σ1, γ1, f1⟩ := u
  obtain ⟨h1, h2, h3⟩ := hp
  obtain ⟨hPj, hDj⟩ := hB
  rw [ht] at hPj
  have h1 : σ1 = σ := h1
  have h3 : (oCnt σ (xs (4 * k + 1 + 1))).1 = 0 → f1 0 = (oCnt σ (xs (4 * k + 1 + 1))).2.toInt64 := h3
  have hPj : va_P D vwCl (WC cI cZ ad (σ1, γ1) ++ [cO cJ ao f1]) H2 := hPj
  have hDj : va_D (AO ad ao H.size) (WC cI cZ ad (σ1, γ1) ++ [cO cJ ao f1]) := hDj
  rw [h1] at hPj hDj
  rw [h2]
  have hP2 := keepWO WAd_m hsep hbo hP2 hk1
  have hDk := hDj.weaken (fun _ q _ h => hF q.1 h)
  have hP1 := hPj.sub (ws' := WC cI cZ ad (σ, γ1)) [0, 1, 2, 3, 4, 5, 6, 7, 8, 9, 10, 11] rfl
  have hPo := hPj.sub (ws' := [cO cJ ao f1]) [12] rfl
  have hD1 := hDk.sub (ws' := WC cI cZ ad (σ, γ1)) [0, 1, 2, 3, 4, 5, 6, 7, 8, 9, 10, 11] (by decide) rfl
  have hS := hS2
  have hle := oCnt_le σ (xs (4 * k + 1 + 1))
  refine lv_istore (lv' := [(5, .int (nI (oCnt σ (xs (4 * k + 1 + 1))).1)), (0, .ref b), (1, .ref (ad 0)), (2, .ref (bd 0)), (3, .ref ao), (4, .int (nI (4 * k + 1)))]) hx hb dL_law_755 hl (by decide) rfl (fun ls hl => ?_)
  refine lv_aload_n hx hb dL_law_757 rfl (lv_at hl 3 rfl) ?_
  refine lv_aload_n hx hb dL_law_758 rfl (lv_at hl 1 rfl) ?_
  refine lv_iload hx hb dL_law_759 (lv_at hl 5 rfl) ?_
  refine lv_iconst (v := 1) hx hb dL_law_761 (by decide) ?_
  refine lv_iadd hx hb dL_law_762 ?_
  refine q_topi (nI (4 * k + 1 + 1)) (nI_add (4 * k + 1) 1) ?_
  refine q_sld hx hb hX0 hbl hbA hS (4 * k + 1 + 1) (nI_toInt (by omega)) (by omega) dL_law_763 ?_
  refine callK_i (As := [.int (xs (4 * k + 1 + 1))]) (rest := []) WAd_m ⟨hx, hb, hml, hown, hts⟩ (c_X2_count l cI cZ D bd pl tb _ σ δ w (xs (4 * k + 1 + 1)) hI) (cwV 1 hts gL_law_X2_count rfl rfl rfl (by decide +kernel) ⟨Nat.le_of_ble_eq_true rfl, Nat.le_of_ble_eq_true rfl⟩) (va_recv hK hP2 (ci := 1) (q0 := 0) rfl rfl) hK hP2 hD2 hS hA hZ rfl rfl (Nat.le_of_ble_eq_true rfl) hl.1 dL_law_764 ⟨by show 25 + k + 1 ≤ 1055; omega, by show 4789 + 6 * k + 6 ≤ 13017; omega⟩ (fun r u H locs hq hP2 hD2 hS hk1 => ?_)
  have hP1 := keepW WAd_c (fun i j hi hj z => hsep j i hj hi z.symm) hP1 hk1
  have hPo := keep1 hbo hPo hk1
  obtain ⟨δ1, w1, rfl, rfl, hf0⟩ := hq
  refine lv_istore (lv' := [(6, .int (oCnt σ (xs (4 * k + 1 + 1))).2), (5, .int (nI (oCnt σ (xs (4 * k + 1 + 1))).1)), (0, .ref b), (1, .ref (ad 0)), (2, .ref (bd 0)), (3, .ref ao), (4, .int (nI (4 * k + 1)))]) hx hb dL_law_767 hl (by decide) rfl (fun ls hl => ?_)
  refine lv_aload_n hx hb dL_law_769 rfl (lv_at hl 4 rfl) ?_
  refine callK_i (As := []) (rest := []) WAd_m ⟨hx, hb, hml, hown, hts⟩ (c_X2_thrown l cI cZ D bd pl tb _ σ δ1 w1 (by omega)) (cwV 0 hts gL_law_X2_thrown rfl rfl rfl (by decide +kernel) ⟨Nat.le_of_ble_eq_true rfl, Nat.le_of_ble_eq_true rfl⟩) (va_recv hK hP2 (ci := 1) (q0 := 0) rfl rfl) hK hP2 hD2 hS hA hZ rfl rfl (Nat.le_of_ble_eq_true rfl) hl.1 dL_law_770 ⟨by show 25 + k + 1 ≤ 1055; omega, by show 4789 + 6 * k + 6 ≤ 13017; omega⟩ (fun r u H locs hq hP2 hD2 hS hk1 => ?_)
  have hP1 := keepW WAd_c (fun i j hi hj z => hsep j i hj hi z.symm) hP1 hk1
  have hPo := keep1 hbo hPo hk1
  obtain ⟨rfl, rfl⟩ := hq
  refine lv_iload hx hb dL_law_773 (lv_at hl 1 rfl) ?_
  refine lv_icmp_eq (tgt := 780) hx hb dL_law_775 (by decide) (fun _ => ?_) (fun c_1 => absurd (congrArg nI hf0) c_1)
  refine lv_iload hx hb dL_law_780 (lv_at hl 1 rfl) ?_
  refine lv_if_ne (tgt := 797) hx hb dL_law_782 (by decide) (fun c_2 => ?_) (fun c_2 => ?_)
  · skip
    refine lv_goto (tgt := 800) hx hb dL_law_797 (by decide) ?_
    refine W.widen (k := 25 + (k + 1)) (n := 4789 + 6 * (k + 1)) (by omega) (by omega) ?_
    exact hn σ γ1 δ1 w1 f1 hI _ _ _ ⟨hP1, hD1, hP2, hD2, hPo, hS⟩ (lv_sub hl [2, 3, 4, 5, 6] rfl)
  · skip
    have c_2 := nI_z hle c_2
    have h4 := h3 c_2
    refine lv_aload_n hx hb dL_law_785 rfl (lv_at hl 5 rfl) ?_
    refine lv_iconst (v := 0) hx hb dL_law_786 (by decide) ?_
    refine va_lald hx hb hKo hPo 0 0 rfl rfl (q_vin (x := 0) (j := 0) (n := 1) (by decide) (by decide)) dL_law_787 ?_
    refine lv_iload hx hb dL_law_788 (lv_at hl 0 rfl) ?_
    refine lv_i2l hx hb dL_law_790 rfl ?_
    refine W.lcmp hx hb dL_law_791 ?_
    refine lv_if_eq (tgt := 797) hx hb dL_law_792 (by decide) (fun _ => ?_) (fun c_3 => absurd (by show lg_cmp (f1 0) _ = 0; rw [h4]; exact lg_same _) c_3)
    refine lv_goto (tgt := 800) hx hb dL_law_797 (by decide) ?_
    refine W.widen (k := 25 + (k + 1)) (n := 4789 + 6 * (k + 1)) (by omega) (by omega) ?_
    exact hn σ γ1 δ1 w1 f1 hI _ _ _ ⟨hP1, hD1, hP2, hD2, hPo, hS⟩ (lv_sub hl [2, 3, 4, 5, 6] rfl)

