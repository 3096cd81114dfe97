set_option maxHeartbeats 4000000 in
set_option maxRecDepth 100000 in
/-- the law's loop, k calls behind it -/
theorem law_loop {p : Program} {e : Env} {s : State} {m : MethodId} {below : List Frame} {meth : Method} {c : Code} (l : Launch) (hl0 : l.stackTraces = false) {b L : Nat} {xs : Nat → Int32} (hL5 : L ≤ 2049) (C0 : lw_At p s m meth c b L xs) {cI cZ cJ : ClassId} {D : va_G} {ad bd pl sa : Nat → Nat} {tb ao : Nat} (C1 : LC cI cZ cJ D ad bd pl sa tb ao s) :
    ∀ (n k : Nat), n + k = 513 → k ≤ 512 → ∀ (σ γ δ : Sg) (w : Int32) (f : Nat → Int64), Inv σ → ∀ (H : Heap) (locs : List Loc) (ls : Array Slot), LW cI cZ cJ D ad bd ao s σ γ δ w f H locs → lv_has ls 7 (LV b ad bd ao k) → W p l e room_1 s m #[Value.ref b] below meth c H locs (25 + k) (4789 + 6 * k) (lw_Z below #[Value.ref b] s) (F0 m 33 ls []) := by
  obtain ⟨hx, hb, hr, hml, hown, hts0, hX0, hbl, hlocks, hgv⟩ := id C0
  have hbA : ¬ (fun q : Nat => s.heap.size ≤ q) b := Nat.not_le.mpr hbl
  intro n
  induction n with
  | zero => intro k h1 h2; omega
  | succ n ih =>
    intro k h1 h2 σ γ δ w f hI H locs ls hw hl
    have hS := hw.2.2.2.2.2
    refine lv_iload hx hb dL_law_33 (lv_at hl 4 rfl) ?_
    refine lv_aload_n hx hb dL_law_35 rfl (lv_at hl 0 rfl) ?_
    refine va_slen hx hb hX0 hbl hbA hS dL_law_36 ?_
    refine lv_iconst (v := 4) hx hb dL_law_37 (by decide) ?_
    refine lv_isub hx hb dL_law_38 ?_
    refine lv_icmp_gt (tgt := 806) hx hb dL_law_39 (by decide) (fun c_1 => ?_) (fun c_1 => ?_)
    · refine lv_iconst (v := 1) hx hb dL_law_806 (by decide) ?_
      refine va_forget hS.2.2 ?_
      refine W.widen (k := 1055) (n := 13017) (by omega) (by omega) ?_
      exact lw_ret hx hb hr hlocks dL_law_807
    · have c_1 := mt (cq_lt (sub4 hL5) (nI_toInt (n := 4 * k + 1) (by omega))).mpr c_1
      have hk : 4 * k + 5 ≤ L := by omega
      have hn : NX p l e s m below meth c b cI cZ cJ D ad bd ao k := by
        intro σ γ δ w f hI H locs ls hw hl
        refine lv_iinc (v := nI (4 * (k + 1) + 1)) (lv' := [(4, .int (nI (4 * (k + 1) + 1))), (0, .ref b), (1, .ref (ad 0)), (2, .ref (bd 0)), (3, .ref ao)]) hx hb dL_law_800 hl (k := 4) rfl (by rw [show 4 * (k + 1) + 1 = 4 * k + 1 + 4 from by omega]; exact nI_add (4 * k + 1) 4) (by decide) rfl (fun ls hl => ?_)
        refine lv_goto (tgt := 33) hx hb dL_law_803 (by decide) ?_
        exact ih (k + 1) (by omega) (by omega) σ γ δ w f hI H locs ls hw (lv_sub hl [1, 2, 3, 4, 0] rfl)
      refine lv_aload_n hx hb dL_law_42 rfl (lv_at hl 0 rfl) ?_
      refine lv_iload hx hb dL_law_43 (lv_at hl 4 rfl) ?_
      refine q_sld hx hb hX0 hbl hbA hS (4 * k + 1) (nI_toInt (by omega)) (by omega) dL_law_45 ?_
      refine lv_bipush (v := 15) hx hb dL_law_46 (by decide) ?_
      refine lv_iand hx hb dL_law_48 ?_
      refine lv_topi (fun v hv => ?_)
      by_cases w_0 : v = 0
      · refine lv_tableIn (off := 79) (tgt := 128) hx hb dL_law_49 (by rw [w_0]; decide) (by rw [w_0]; decide) (by rw [w_0]; rfl) (by decide) ?_
        exact k_house l hl0 C0 C1 hk hL5 hn σ γ δ w f hI H locs ls hw hl
      have w_0 : ¬ v.toInt = 0 := mt (cq_eq rfl (by decide : (0 : Int32).toInt = 0)).mpr w_0
      by_cases w_1 : v = 1
      · refine lv_tableIn (off := 116) (tgt := 165) hx hb dL_law_49 (by rw [w_1]; decide) (by rw [w_1]; decide) (by rw [w_1]; rfl) (by decide) ?_
        exact k_point l hl0 C0 C1 hk hL5 hn σ γ δ w f hI H locs ls hw hl
      have w_1 : ¬ v.toInt = 1 := mt (cq_eq rfl (by decide : (1 : Int32).toInt = 1)).mpr w_1
      by_cases w_2 : v = 2
      · refine lv_tableIn (off := 153) (tgt := 202) hx hb dL_law_49 (by rw [w_2]; decide) (by rw [w_2]; decide) (by rw [w_2]; rfl) (by decide) ?_
        exact k_item l hl0 C0 C1 hk hL5 hn σ γ δ w f hI H locs ls hw hl
      have w_2 : ¬ v.toInt = 2 := mt (cq_eq rfl (by decide : (2 : Int32).toInt = 2)).mpr w_2
      by_cases w_3 : v = 3
      · refine lv_tableIn (off := 190) (tgt := 239) hx hb dL_law_49 (by rw [w_3]; decide) (by rw [w_3]; decide) (by rw [w_3]; rfl) (by decide) ?_
        exact k_bundle l hl0 C0 C1 hk hL5 hn σ γ δ w f hI H locs ls hw hl
      have w_3 : ¬ v.toInt = 3 := mt (cq_eq rfl (by decide : (3 : Int32).toInt = 3)).mpr w_3
      by_cases w_4 : v = 4
      · refine lv_tableIn (off := 227) (tgt := 276) hx hb dL_law_49 (by rw [w_4]; decide) (by rw [w_4]; decide) (by rw [w_4]; rfl) (by decide) ?_
        exact k_put l hl0 C0 C1 hk hL5 hn σ γ δ w f hI H locs ls hw hl
      have w_4 : ¬ v.toInt = 4 := mt (cq_eq rfl (by decide : (4 : Int32).toInt = 4)).mpr w_4
      by_cases w_5 : v = 5
      · refine lv_tableIn (off := 264) (tgt := 313) hx hb dL_law_49 (by rw [w_5]; decide) (by rw [w_5]; decide) (by rw [w_5]; rfl) (by decide) ?_
        exact k_hold l hl0 C0 C1 hk hL5 hn σ γ δ w f hI H locs ls hw hl
      have w_5 : ¬ v.toInt = 5 := mt (cq_eq rfl (by decide : (5 : Int32).toInt = 5)).mpr w_5
      by_cases w_6 : v = 6
      · refine lv_tableIn (off := 317) (tgt := 366) hx hb dL_law_49 (by rw [w_6]; decide) (by rw [w_6]; decide) (by rw [w_6]; rfl) (by decide) ?_
        exact k_sample l hl0 C0 C1 hk hL5 hn σ γ δ w f hI H locs ls hw hl
      have w_6 : ¬ v.toInt = 6 := mt (cq_eq rfl (by decide : (6 : Int32).toInt = 6)).mpr w_6
      by_cases w_7 : v = 7
      · refine lv_tableIn (off := 366) (tgt := 415) hx hb dL_law_49 (by rw [w_7]; decide) (by rw [w_7]; decide) (by rw [w_7]; rfl) (by decide) ?_
        exact k_sort l hl0 C0 C1 hk hL5 hn σ γ δ w f hI H locs ls hw hl
      have w_7 : ¬ v.toInt = 7 := mt (cq_eq rfl (by decide : (7 : Int32).toInt = 7)).mpr w_7
      by_cases w_8 : v = 8
      · refine lv_tableIn (off := 379) (tgt := 428) hx hb dL_law_49 (by rw [w_8]; decide) (by rw [w_8]; decide) (by rw [w_8]; rfl) (by decide) ?_
        exact k_frame l hl0 C0 C1 hk hL5 hn σ γ δ w f hI H locs ls hw hl
      have w_8 : ¬ v.toInt = 8 := mt (cq_eq rfl (by decide : (8 : Int32).toInt = 8)).mpr w_8
      by_cases w_9 : v = 9
      · refine lv_tableIn (off := 447) (tgt := 496) hx hb dL_law_49 (by rw [w_9]; decide) (by rw [w_9]; decide) (by rw [w_9]; rfl) (by decide) ?_
        exact k_list l hl0 C0 C1 hk hL5 hn σ γ δ w f hI H locs ls hw hl
      have w_9 : ¬ v.toInt = 9 := mt (cq_eq rfl (by decide : (9 : Int32).toInt = 9)).mpr w_9
      by_cases w_10 : v = 10
      · refine lv_tableIn (off := 515) (tgt := 564) hx hb dL_law_49 (by rw [w_10]; decide) (by rw [w_10]; decide) (by rw [w_10]; rfl) (by decide) ?_
        exact k_drawer l hl0 C0 C1 hk hL5 hn σ γ δ w f hI H locs ls hw hl
      have w_10 : ¬ v.toInt = 10 := mt (cq_eq rfl (by decide : (10 : Int32).toInt = 10)).mpr w_10
      by_cases w_11 : v = 11
      · refine lv_tableIn (off := 552) (tgt := 601) hx hb dL_law_49 (by rw [w_11]; decide) (by rw [w_11]; decide) (by rw [w_11]; rfl) (by decide) ?_
        exact k_stray l hl0 C0 C1 hk hL5 hn σ γ δ w f hI H locs ls hw hl
      have w_11 : ¬ v.toInt = 11 := mt (cq_eq rfl (by decide : (11 : Int32).toInt = 11)).mpr w_11
      by_cases w_12 : v = 12
      · refine lv_tableIn (off := 577) (tgt := 626) hx hb dL_law_49 (by rw [w_12]; decide) (by rw [w_12]; decide) (by rw [w_12]; rfl) (by decide) ?_
        exact k_lies l hl0 C0 C1 hk hL5 hn σ γ δ w f hI H locs ls hw hl
      have w_12 : ¬ v.toInt = 12 := mt (cq_eq rfl (by decide : (12 : Int32).toInt = 12)).mpr w_12
      by_cases w_13 : v = 13
      · refine lv_tableIn (off := 602) (tgt := 651) hx hb dL_law_49 (by rw [w_13]; decide) (by rw [w_13]; decide) (by rw [w_13]; rfl) (by decide) ?_
        exact k_minutes l hl0 C0 C1 hk hL5 hn σ γ δ w f hI H locs ls hw hl
      have w_13 : ¬ v.toInt = 13 := mt (cq_eq rfl (by decide : (13 : Int32).toInt = 13)).mpr w_13
      by_cases w_14 : v = 14
      · refine lv_tableIn (off := 658) (tgt := 707) hx hb dL_law_49 (by rw [w_14]; decide) (by rw [w_14]; decide) (by rw [w_14]; rfl) (by decide) ?_
        exact k_teaching l hl0 C0 C1 hk hL5 hn σ γ δ w f hI H locs ls hw hl
      have w_14 : ¬ v.toInt = 14 := mt (cq_eq rfl (by decide : (14 : Int32).toInt = 14)).mpr w_14
      by_cases w_15 : v = 15
      · refine lv_tableIn (off := 695) (tgt := 744) hx hb dL_law_49 (by rw [w_15]; decide) (by rw [w_15]; decide) (by rw [w_15]; rfl) (by decide) ?_
        exact k_count l hl0 C0 C1 hk hL5 hn σ γ δ w f hI H locs ls hw hl
      have w_15 : ¬ v.toInt = 15 := mt (cq_eq rfl (by decide : (15 : Int32).toInt = 15)).mpr w_15
      refine lv_tableOut (tgt := 800) hx hb dL_law_49 (by omega) (by decide) ?_
      refine W.widen (k := 25 + (k + 1)) (n := 4789 + 6 * (k + 1)) (by omega) (by omega) ?_
      exact hn σ γ δ w f hI H locs ls hw hl
