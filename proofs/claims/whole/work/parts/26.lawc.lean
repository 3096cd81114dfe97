/-! the law's ground: the invariant behind each call; the script's numbers -/
theorem Io_house {σ : Sg} {p0 p1 : Int32} (hI : Inv σ) : Inv (oHouse σ p0 p1).2 := by
  unfold oHouse
  split
  · exact hI
  · split
    · exact hI
    · split
      · exact hI
      · split
        · exact hI
        · exact I_house hI (by omega) (by omega) (by omega) (by omega)
theorem Io_point {σ : Sg} {p0 p1 : Int32} (hI : Inv σ) : Inv (oPoint σ p0 p1).2 := by
  unfold oPoint
  split
  · exact hI
  · split
    · exact hI
    · exact I_point hI (by omega) (by omega) (by omega)
theorem Io_item {σ : Sg} {p0 p1 : Int32} (hI : Inv σ) : Inv (oItem σ p0 p1).2 := by
  unfold oItem
  split
  · exact hI
  · split
    · exact hI
    · exact I_item hI (by omega) (by omega) (by omega)
theorem Io_bundle {σ : Sg} {p0 p1 : Int32} (hI : Inv σ) : Inv (oBundle σ p0 p1).2 := by
  unfold oBundle
  split
  · exact hI
  · split
    · exact hI
    · rename_i h1 h2
      have h2 := Decidable.not_not.mp h2
      exact I_bundle hI (by omega) (by omega) h2.2.2.1 h2.2.2.2.1 h2.2.2.2.2
theorem Io_put {σ : Sg} {p0 p1 : Int32} (hI : Inv σ) : Inv (oPut σ p0 p1).2 := by
  unfold oPut
  split
  · exact hI
  · split
    · exact hI
    · split
      · exact hI
      · exact I_put hI (by omega)
theorem Io_hold {σ : Sg} {p0 : Int32} {on : Nat} (hI : Inv σ) (hon : on ≤ 1) : Inv (oHold σ p0 on).2 := by
  unfold oHold
  split
  · exact hI
  · exact I_hold hI (by omega) (by omega) hon
theorem foldS_inv {f : TS → Nat → TS} (hf : ∀ t i, Inv t.2.1 → Inv (f t i).2.1) (t : TS) (ht : Inv t.2.1) : ∀ n, Inv (foldS f t n).2.1 := by
  intro n
  induction n with
  | zero => exact ht
  | succ n ih => exact hf _ _ ih
theorem smI_inv (lay : Nat → Nat) (g : Nat) (p1 p2 : Int32) (t : TS) (i : Nat) (h : Inv t.2.1) : Inv (smI lay g p1 p2 t i).2.1 := by
  unfold smI
  split
  · split
    · exact I_home h
    · exact h
  · exact h
theorem Io_sample {σ : Sg} {p0 p1 p2 : Int32} (hI : Inv σ) : Inv (oSample σ p0 p1 p2).2 := by
  unfold oSample
  split
  · exact hI
  · exact foldS_inv (fun t g h => foldS_inv (fun t i h => smI_inv _ _ _ _ t i h) t h _) _ hI _
theorem oRow_le (LL : Nat → List Nat) (p0 p1 : Int32) : (oRow LL p0 p1).1 ≤ 2 := by
  unfold oRow
  split
  · show 1 ≤ 2; decide
  · split
    · show 0 ≤ 2; decide
    · show 2 ≤ 2; decide
theorem oMin_le (σ : Sg) (p0 : Int32) : (oMin σ p0).1 ≤ 2 := by
  unfold oMin
  split
  · show 1 ≤ 2; decide
  · show 0 ≤ 2; decide
theorem oCnt_le (σ : Sg) (p0 : Int32) : (oCnt σ p0).1 ≤ 2 := by
  unfold oCnt
  split
  · show 1 ≤ 2; decide
  · show 0 ≤ 2; decide
theorem nI_z {n : Nat} (h : n ≤ 2) (e : nI n = 0) : n = 0 := by
  rcases (show n = 0 ∨ n = 1 ∨ n = 2 by omega) with rfl | rfl | rfl
  · rfl
  · exact absurd e (by decide)
  · exact absurd e (by decide)
theorem lg_same (x : Int64) : lg_cmp x x = 0 := by
  unfold lg_cmp
  rw [if_neg (by simp), if_pos rfl]
theorem sub4 {L : Nat} (h : L ≤ 2049) : (Int32.ofNat L - 4).toInt = (L : Int) - 4 := by
  rcases Nat.lt_or_ge L 4 with q | q
  · rcases (show L = 0 ∨ L = 1 ∨ L = 2 ∨ L = 3 by omega) with rfl | rfl | rfl | rfl <;> decide
  · obtain ⟨k, rfl⟩ : ∃ k, L = k + 4 := ⟨L - 4, by omega⟩
    have e : Int32.ofNat (k + 4) - 4 = nI k := by
      have h9 : nI k + 4 = Int32.ofNat (k + 4) := nI_add k 4
      rw [← h9]
      exact Int32.add_sub_cancel _ _
    rw [e, nI_toInt (by omega)]
    omega
section QL
variable {p : Program} {l : Launch} {e : Env} {R : Room} {s : State} {m : MethodId} {args : Array Value} {below : List Frame} {meth : Method} {c : Code} {H : Heap} {locs : List Loc} {cells slots : Nat} {Q : State → Prop}
variable {cc : ByteArray} {pc : Nat} {ls : Array Slot} {rest : List Value} {A : Nat → Prop} {H0 : Heap}
theorem q_sld (hexec : p.tables.exec = Jvm.exec) (hb : c.code = cc) {b L : Nat} {xs : Nat → Int32} (hX : va_X b L xs s H0) (hbl : b < H0.size) (hbA : ¬ A b) (hS : va_S A H0 H locs) {i : Int32} (j : Nat) (hi : i.toInt = (j : Int)) (hj : j < L) (hdg : decode cc pc = .ok (.iaload, 1))
    (kk : W p l e R s m args below meth c H locs cells slots Q (F0 m (pc + 1) ls (.int (xs j) :: rest))) : W p l e R s m args below meth c H locs cells slots Q (F0 m pc ls (.int i :: .ref b :: rest)) := by
  refine va_sld hexec hb hX hbl hbA hS (q_vin hi hj) hdg ?_
  rw [q_clamp hi]
  exact kk
end QL
/-- what stays all along the law -/
def LC (cI cZ cJ : ClassId) (D : va_G) (ad bd pl sa : Nat → Nat) (tb ao : Nat) (s : State) : Prop :=
  va_K D vwCl (tyK cI cZ) s ∧ va_K D vwCl [(cJ, .long)] s ∧ va_Nc "java/lang/IndexOutOfBoundsException" "java/lang/IllegalArgumentException" s ∧ ST pl tb (fun q => s.heap.size ≤ q) s s.heap ∧ SX sa (fun q => s.heap.size ≤ q) s s.heap ∧ (∀ i j, i < 12 → j < 12 → ad i ≠ bd j) ∧ (∀ k, k < 12 → ad k ≠ ao) ∧ (∀ k, k < 12 → bd k ≠ ao) ∧ s.heap.size ≤ ao
/-- .. and the worlds at a point of it -/
def LW (cI cZ cJ : ClassId) (D : va_G) (ad bd : Nat → Nat) (ao : Nat) (s : State) (σ γ δ : Sg) (w : Int32) (f : Nat → Int64) (H : Heap) (locs : List Loc) : Prop :=
  va_P D vwCl (WC cI cZ ad (σ, γ)) H ∧ va_D (fun q => s.heap.size ≤ q) (WC cI cZ ad (σ, γ)) ∧ va_P D vwCl (WM cI cZ bd (σ, δ, w)) H ∧ va_D (fun q => s.heap.size ≤ q) (WM cI cZ bd (σ, δ, w)) ∧ va_P D vwCl [cO cJ ao f] H ∧ va_S (fun q => s.heap.size ≤ q) s.heap H locs
abbrev LV (b : Nat) (ad bd : Nat → Nat) (ao k : Nat) : List (Nat × Value) := [(0, .ref b), (1, .ref (ad 0)), (2, .ref (bd 0)), (3, .ref ao), (4, .int (nI (4 * k + 1)))]
/-- behind a case: on to the next call -/
def NX (p : Program) (l : Launch) (e : Env) (s : State) (m : MethodId) (below : List Frame) (meth : Method) (c : Code) (b : Nat) (cI cZ cJ : ClassId) (D : va_G) (ad bd : Nat → Nat) (ao k : Nat) : Prop :=
  ∀ (σ γ δ : Sg) (w : Int32) (f : Nat → Int64), Inv σ → ∀ (H : Heap) (locs : List Loc) (ls : Array Slot), LW cI cZ cJ D ad bd ao s σ γ δ w f H locs → lv_has ls 7 (LV b ad bd ao k) → W p l e room_1 s m #[Value.ref b] below meth c H locs (25 + (k + 1)) (4789 + 6 * (k + 1)) (lw_Z below #[Value.ref b] s) (F0 m 800 ls [])
