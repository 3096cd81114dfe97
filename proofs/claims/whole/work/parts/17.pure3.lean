/-! the reference's sums and rows are the class's -/
def frF (σ : Sg) : Nat → Nat := fun c => (frL σ c).length
def roN (σ : Sg) : Nat → Nat := fun c => (roL σ c 3).length
def drF (σ : Sg) : Nat → Nat := fun h => if σ 1 h = 0 then 0 else (hL σ h 2).length
def he2F (σ : Sg) : Nat → Nat := fun h => if σ 3 h = 0 then 0 else 1
def oRow (LL : Nat → List Nat) (p0 p1 : Int32) : Nat × Int32 :=
  if ¬ (0 ≤ p0.toInt ∧ p0.toInt < 4) then (1, 0) else if 0 ≤ p1.toInt ∧ p1.toInt < ((LL p0.toInt.toNat).length : Int) then (0, nI ((LL p0.toInt.toNat).getD p1.toInt.toNat 0)) else (2, 0)
def oMin (σ : Sg) (p0 : Int32) : Nat × Int32 := if ¬ (0 ≤ p0.toInt ∧ p0.toInt < 4) then (1, 0) else (0, nI ((secL σ p0.toInt.toNat + 59) / 60))
def oCnt (σ : Sg) (p0 : Int32) : Nat × Int32 := if ¬ (0 ≤ p0.toInt ∧ p0.toInt ≤ 8) then (1, 0) else (0, nI (oCount σ p0.toInt.toNat))
theorem oCnt_lit {σ : Sg} {p0 : Int32} {k : Nat} (h : p0.toInt = (k : Int)) (hk : k ≤ 8) : oCnt σ p0 = (0, nI (oCount σ k)) := by
  unfold oCnt
  rw [if_neg (by omega), show p0.toInt.toNat = k by omega]
theorem pickM_no {w : Int32} {L : List Nat} (h : pickM w L = 0) : ¬ (0 ≤ w.toInt ∧ w.toInt < (L.length : Int)) := by
  intro q
  unfold pickM at h
  rw [if_pos q] at h
  omega
theorem pickM_yes {w : Int32} {L : List Nat} (h : pickM w L ≠ 0) : 0 ≤ w.toInt ∧ w.toInt < (L.length : Int) := by
  unfold pickM at h
  by_cases q : 0 ≤ w.toInt ∧ w.toInt < (L.length : Int)
  · exact q
  · rw [if_neg q] at h; exact absurd rfl h
theorem getD_at {A r : List Nat} {n x : Nat} (h : n = A.length) : (A ++ [x] ++ r).getD n 0 = x := by
  subst h
  simp [List.getD]
theorem plc_house {σ : Sg} (hI : Inv σ) {i q : Nat} (h : plc σ i = q) (hq : q = 2 ∨ q = 3 ∨ q = 4) : σ 1 (σ 6 i) ≠ 0 := by
  intro e
  have e2 := hI.2.1.1 (σ 6 i) (b6 hI i) e
  unfold plc at h
  split at h
  · first | omega | (rw [if_pos e] at h; omega)
  · split at h
    · omega
    · split at h
      · omega
      · split at h <;> omega
theorem hL_len (σ : Sg) (h q : Nat) : (hL σ h q).length = sumN (fun i => if σ 6 i = h ∧ σ 9 i = 0 ∧ plc σ i = q then len σ i else 0) (σ 11 0) := by
  unfold hL
  rw [catN_len]
  refine sumN_congr (fun i hi => ?_)
  unfold ofH
  split <;> rfl
theorem H_sum {σ : Sg} (hI : Inv σ) {q : Nat} (hq : q = 2 ∨ q = 3 ∨ q = 4) : sumN (fun k => (hL σ (σ 4 k) q).length) (σ 5 0) = sumN (atF σ q) (σ 11 0) := by
  have e1 : sumN (fun k => (hL σ (σ 4 k) q).length) (σ 5 0) = sumN (fun k => sumN (fun i => if σ 6 i = σ 4 k ∧ σ 9 i = 0 ∧ plc σ i = q then len σ i else 0) (σ 11 0)) (σ 5 0) :=
    sumN_congr (fun k _ => hL_len σ (σ 4 k) q)
  rw [e1, sumN_swap (fun k i => if σ 6 i = σ 4 k ∧ σ 9 i = 0 ∧ plc σ i = q then len σ i else 0) (σ 5 0) (σ 11 0)]
  refine sumN_congr (fun i hi => ?_)
  unfold atF
  by_cases e : σ 9 i = 0 ∧ plc σ i = q
  · rw [if_pos e]
    obtain ⟨k, hk, ek⟩ := hI.2.1.2.2.2 (σ 6 i) (b6 hI i) (plc_house hI e.2 hq)
    rw [sumN_one (f := fun k => if σ 6 i = σ 4 k ∧ σ 9 i = 0 ∧ plc σ i = q then len σ i else 0) hk (fun j hj hjk => if_neg (fun z => hjk (hI.2.1.2.2.1 j k hj hk (z.1.symm.trans ek.symm))))]
    exact if_pos ⟨ek.symm, e⟩
  · rw [if_neg e]
    exact sumN_zero (fun k _ => if_neg (fun z => e z.2))
theorem C_sum {σ : Sg} (hI : Inv σ) (X : Nat → Nat) : sumN (fun c => sumN (fun k => if σ 1 (σ 4 k) = c + 1 then X k else 0) (σ 5 0)) 4 = sumN X (σ 5 0) := by
  rw [sumN_swap (fun c k => if σ 1 (σ 4 k) = c + 1 then X k else 0) 4 (σ 5 0)]
  refine sumN_congr (fun k hk => ?_)
  have h1 := hI.2.1.2.1 k hk
  have h2 := b1 hI (σ 4 k)
  rw [sumN_one (f := fun c => if σ 1 (σ 4 k) = c + 1 then X k else 0) (k := σ 1 (σ 4 k) - 1) (by omega) (fun c _ hc => if_neg (by omega))]
  exact if_pos (by omega)
theorem roL_len (σ : Sg) (c q : Nat) : (roL σ c q).length = sumN (fun k => if σ 1 (σ 4 k) = c + 1 then (hL σ (σ 4 k) q).length else 0) (σ 5 0) := by
  unfold roL
  rw [catN_len]
  refine sumN_congr (fun k _ => ?_)
  unfold roF
  split <;> rfl
theorem R_sum {σ : Sg} (hI : Inv σ) {q : Nat} (hq : q = 2 ∨ q = 3 ∨ q = 4) : sumN (fun c => (roL σ c q).length) 4 = sumN (atF σ q) (σ 11 0) := by
  have e1 : sumN (fun c => (roL σ c q).length) 4 = sumN (fun c => sumN (fun k => if σ 1 (σ 4 k) = c + 1 then (hL σ (σ 4 k) q).length else 0) (σ 5 0)) 4 :=
    sumN_congr (fun c _ => roL_len σ c q)
  rw [e1, C_sum hI (fun k => (hL σ (σ 4 k) q).length), H_sum hI hq]
theorem P_list {σ : Sg} (hI : Inv σ) : sumN (roN σ) 4 = sumN (atF σ 3) (σ 11 0) := R_sum hI (by omega)
theorem P_held {σ : Sg} (hI : Inv σ) : sumN (he2F σ) 200 = sumN (heF σ) (σ 5 0) :=
  P_perm hI (he2F σ) (fun h hh e => if_pos (hI.2.1.1 h hh e).2)
theorem P_drawer {σ : Sg} (hI : Inv σ) : sumN (drF σ) 200 = sumN (atF σ 2) (σ 11 0) := by
  rw [P_perm hI (drF σ) (fun h hh e => if_pos e), ← H_sum hI (q := 2) (by omega)]
  exact sumN_congr (fun k hk => if_neg (hI.2.1.2.1 k hk))
theorem P_stray {σ : Sg} (hI : Inv σ) : (stL σ).length = sumN (atF σ 0) (σ 11 0) := by
  unfold stL
  rw [catN_len]
  refine sumN_congr (fun i _ => ?_)
  unfold stF atF
  split <;> rfl
theorem plc_astray {σ : Sg} {i : Nat} (h : plc σ i = 1) : hol σ i ≠ 0 ∧ leastN σ (hol σ i - 1) (σ 5 0) ≠ 0 := by
  unfold plc at h
  split at h
  · split at h
    · omega
    · split at h <;> omega
  · split at h
    · omega
    · split at h
      · split at h <;> omega
      · split at h
        · omega
        · exact ⟨by assumption, by assumption⟩
theorem asF_len (σ : Sg) (g : Nat) : (catN (asF σ g) (σ 11 0)).length = sumN (fun i => if σ 9 i = 0 ∧ hol σ i = g + 1 ∧ plc σ i = 1 then len σ i else 0) (σ 11 0) := by
  rw [catN_len]
  refine sumN_congr (fun i _ => ?_)
  unfold asF
  split <;> rfl
theorem A_sum {σ : Sg} (hI : Inv σ) : sumN (fun c => (asL σ c).length) 4 = sumN (atF σ 1) (σ 11 0) := by
  have e1 : sumN (fun c => (asL σ c).length) 4 = sumN (fun c => sumN (fun g => if leastN σ g (σ 5 0) = c + 1 then (catN (asF σ g) (σ 11 0)).length else 0) (σ 0 0)) 4 := by
    refine sumN_congr (fun c _ => ?_)
    unfold asL
    rw [catN_len]
    refine sumN_congr (fun g _ => ?_)
    unfold asG
    split <;> rfl
  rw [e1, sumN_swap (fun c g => if leastN σ g (σ 5 0) = c + 1 then (catN (asF σ g) (σ 11 0)).length else 0) 4 (σ 0 0)]
  have e2 : sumN (fun g => sumN (fun c => if leastN σ g (σ 5 0) = c + 1 then (catN (asF σ g) (σ 11 0)).length else 0) 4) (σ 0 0) = sumN (fun g => sumN (fun i => if σ 9 i = 0 ∧ hol σ i = g + 1 ∧ plc σ i = 1 then len σ i else 0) (σ 11 0)) (σ 0 0) := by
    refine sumN_congr (fun g _ => ?_)
    have hl := leastN_le hI g (σ 5 0)
    by_cases e : leastN σ g (σ 5 0) = 0
    · rw [sumN_zero (f := fun c => if leastN σ g (σ 5 0) = c + 1 then (catN (asF σ g) (σ 11 0)).length else 0) (fun c _ => if_neg (by omega))]
      refine (sumN_zero (fun i _ => if_neg (fun z => ?_))).symm
      have h3 := (plc_astray z.2.2).2
      rw [z.2.1] at h3
      exact h3 e
    · rw [sumN_one (f := fun c => if leastN σ g (σ 5 0) = c + 1 then (catN (asF σ g) (σ 11 0)).length else 0) (k := leastN σ g (σ 5 0) - 1) (by omega) (fun c _ hc => if_neg (by omega))]
      rw [← asF_len]
      exact if_pos (by omega)
  rw [e2, sumN_swap (fun g i => if σ 9 i = 0 ∧ hol σ i = g + 1 ∧ plc σ i = 1 then len σ i else 0) (σ 0 0) (σ 11 0)]
  refine sumN_congr (fun i _ => ?_)
  unfold atF
  by_cases e : σ 9 i = 0 ∧ plc σ i = 1
  · rw [if_pos e]
    have h1 := (plc_astray e.2).1
    have h2 := hol_le hI i
    rw [sumN_one (f := fun g => if σ 9 i = 0 ∧ hol σ i = g + 1 ∧ plc σ i = 1 then len σ i else 0) (k := hol σ i - 1) (by omega) (fun g _ hg => if_neg (fun z => hg (by omega)))]
    exact if_pos ⟨e.1, by omega, e.2⟩
  · rw [if_neg e]
    exact sumN_zero (fun g _ => if_neg (fun z => e ⟨z.1, z.2.2⟩))
theorem P_framed {σ : Sg} (hI : Inv σ) : sumN (frF σ) 4 = sumN (atF σ 4) (σ 11 0) + sumN (atF σ 1) (σ 11 0) := by
  have e1 : sumN (frF σ) 4 = sumN (fun c => (roL σ c 4).length + (asL σ c).length) 4 := sumN_congr (fun c _ => by unfold frF frL; rw [List.length_append])
  rw [e1, sumN_add (fun c => (roL σ c 4).length) (fun c => (asL σ c).length) 4, R_sum hI (q := 4) (by omega), A_sum hI]
theorem dH_no {σ : Sg} (hI : Inv σ) {p : Int32} (h : ¬ (0 ≤ p.toInt ∧ p.toInt < 200 ∧ σ 1 p.toInt.toNat ≠ 0)) : dH p = 200 ∨ σ 1 (dH p) = 0 := by
  unfold dH
  split
  · right; omega
  · left; rfl
theorem hL_no {σ : Sg} (hI : Inv σ) {x : Nat} (h : x = 200 ∨ σ 1 x = 0) : hL σ x 2 = [] := by
  have key : ∀ n, catN (ofH σ x 2) n = [] := by
    intro n
    induction n with
    | zero => rfl
    | succ n ih =>
      simp only [catN]
      have e : ofH σ x 2 n = [] := if_neg (fun z => by
        have h6 := b6 hI n
        have h7 := plc_house hI z.2.2 (by omega)
        rw [z.1] at h7
        omega)
      rw [ih, e]; rfl
  exact key _
/-! minutes -/
def f5F (σ : Sg) (c : Nat) : Nat → Nat := fun k => if 0 < (hL σ (σ 12 (60 * c + k)) 4).length + (hL σ (σ 12 (60 * c + k)) 3).length then 5 else 0
def sumL (f : Nat → Nat) : List Nat → Nat
  | [] => 0
  | x :: r => f x + sumL f r
theorem sumL_app (f : Nat → Nat) (a b : List Nat) : sumL f (a ++ b) = sumL f a + sumL f b := by
  induction a with
  | nil => simp [sumL]
  | cons x r ih => simp only [List.cons_append, sumL, ih]; omega
theorem sumL_cat (f : Nat → Nat) (F : Nat → List Nat) (n : Nat) : sumL f (catN F n) = sumN (fun i => sumL f (F i)) n := by
  induction n with
  | zero => rfl
  | succ n ih => simp only [catN, sumN, sumL_app, ih]
theorem f5_sum {σ : Sg} (hI : Inv σ) {c : Nat} (hc : c < 4) : sumN (f5F σ c) (σ 13 c) = sumN (fvF σ c) (σ 5 0) := by
  have e1 : sumN (f5F σ c) (σ 13 c) = sumL (fun h => if 0 < (hL σ h 4).length + (hL σ h 3).length then 5 else 0) (catN (rdF σ c) (σ 13 c)) := by
    rw [sumL_cat]
    exact sumN_congr (fun k _ => by simp [rdF, sumL, f5F])
  rw [e1, (hI.2.2.1 c hc).2, sumL_cat]
  refine sumN_congr (fun k _ => ?_)
  unfold toF fvF
  by_cases e : σ 1 (σ 4 k) = c + 1
  · rw [if_pos e]
    by_cases q : 0 < (hL σ (σ 4 k) 4).length + (hL σ (σ 4 k) 3).length
    · rw [if_pos ⟨e, q⟩]; simp only [sumL]; rw [if_pos q]
    · rw [if_neg (fun z => q z.2)]; simp only [sumL]; rw [if_neg q]
  · rw [if_neg e, if_neg (fun z => e z.1)]; rfl
theorem mF_len (σ : Sg) (c : Nat) : (catN (mF σ c) (σ 5 0)).length = (roL σ c 4).length + (roL σ c 3).length := by
  rw [catN_len, roL_len, roL_len, ← sumN_add]
  refine sumN_congr (fun k _ => ?_)
  unfold mF
  split
  · rw [List.length_append]
  · rfl
theorem mF_cost (σ : Sg) (c : Nat) : costL σ (catN (mF σ c) (σ 5 0)) = costL σ (roL σ c 4) + costL σ (roL σ c 3) := by
  unfold roL
  rw [costL_cat, costL_cat, costL_cat, ← sumN_add]
  refine sumN_congr (fun k _ => ?_)
  unfold mF roF
  by_cases e : σ 1 (σ 4 k) = c + 1
  · rw [if_pos e, if_pos e, if_pos e, costL_app]
  · rw [if_neg e, if_neg e, if_neg e]; rfl
theorem P_min {σ : Sg} (hI : Inv σ) {c : Nat} (hc : c < 4) : costL σ (frL σ c) + costL σ (roL σ c 3) + sumN (f5F σ c) (σ 13 c) = secL σ c := by
  unfold secL frL
  rw [f5_sum hI hc, costL_app, costL_app, mF_cost]
  omega
/-! short rows -/
theorem lead_sum {σ : Sg} (hI : Inv σ) {f : Nat → Nat} (h : ∀ i, f i ≤ if σ 9 i = 0 then len σ i else 0) : sumN f (σ 11 0) ≤ 250 := by
  have h1 := sumN_le (n := σ 11 0) (fun i _ => h i)
  rw [I_sum hI] at h1
  have := b11 hI
  omega
theorem mL_le {σ : Sg} (hI : Inv σ) {c : Nat} (hc : c < 4) : (catN (mF σ c) (σ 5 0) ++ asL σ c).length ≤ 250 := by
  have h4 := sumN_term (f := fun c => (roL σ c 4).length) hc
  have h3 := sumN_term (f := fun c => (roL σ c 3).length) hc
  have h1 := sumN_term (f := fun c => (asL σ c).length) hc
  rw [R_sum hI (q := 4) (by omega)] at h4
  rw [R_sum hI (q := 3) (by omega)] at h3
  rw [A_sum hI] at h1
  have h4 : (roL σ c 4).length ≤ sumN (atF σ 4) (σ 11 0) := h4
  have h3 : (roL σ c 3).length ≤ sumN (atF σ 3) (σ 11 0) := h3
  have h1 : (asL σ c).length ≤ sumN (atF σ 1) (σ 11 0) := h1
  have hs : sumN (fun i => (atF σ 4 i + atF σ 3 i) + atF σ 1 i) (σ 11 0) ≤ 250 := by
    refine lead_sum hI (fun i => ?_)
    unfold atF
    by_cases e : σ 9 i = 0
    · rw [if_pos e]
      by_cases q4 : plc σ i = 4
      · rw [if_pos ⟨e, q4⟩, if_neg (fun z => by omega), if_neg (fun z => by omega)]; omega
      · rw [if_neg (fun z => q4 z.2)]
        by_cases q3 : plc σ i = 3
        · rw [if_pos ⟨e, q3⟩, if_neg (fun z => by omega)]; omega
        · rw [if_neg (fun z => q3 z.2)]
          split <;> omega
    · rw [if_neg e, if_neg (fun z => e z.1), if_neg (fun z => e z.1), if_neg (fun z => e z.1)]; exact Nat.le_refl _
  rw [sumN_add (fun i => atF σ 4 i + atF σ 3 i) (atF σ 1), sumN_add (atF σ 4) (atF σ 3)] at hs
  rw [List.length_append, mF_len]
  omega
theorem frL_le {σ : Sg} (hI : Inv σ) {c : Nat} (hc : c < 4) : (frL σ c).length ≤ 250 := by
  have h := mL_le hI hc
  rw [List.length_append, mF_len] at h
  unfold frL
  rw [List.length_append]
  omega
theorem roL_le {σ : Sg} (hI : Inv σ) {c : Nat} (hc : c < 4) : (roL σ c 3).length ≤ 250 := by
  have h := mL_le hI hc
  rw [List.length_append, mF_len] at h
  omega
theorem secL_le {σ : Sg} (hI : Inv σ) (c : Nat) : secL σ c ≤ 100000000 := by
  unfold secL
  have h1 : ∀ n, sumN (fvF σ c) n ≤ n * 5 := by
    intro n
    induction n with
    | zero => exact Nat.le_refl _
    | succ n ih =>
      simp only [sumN]
      have : fvF σ c n ≤ 5 := by unfold fvF; split <;> omega
      omega
  have h2 := h1 (σ 5 0)
  have h3 := costL_le σ (catN (mF σ c) (σ 5 0) ++ asL σ c)
  have b5 := b5 hI
  have b0 := b0 hI
  have b11 := b11 hI
  have h4 : (catN (mF σ c) (σ 5 0)).length ≤ σ 5 0 * 125000 := catN_bd (fun k => by
    unfold mF
    split
    · rw [List.length_append]
      have := ofH_bd hI (σ 4 k) 4 (Nat.le_refl _)
      have := ofH_bd hI (σ 4 k) 3 (Nat.le_refl _)
      unfold hL
      omega
    · exact Nat.zero_le _) _
  have h5 : (asL σ c).length ≤ σ 0 0 * 62500 := catN_bd (fun g => by
    unfold asG
    split
    · have := catN_bd (f := asF σ g) (b := 250) (fun i => by
        unfold asF
        split
        · exact chain_le σ 250 _
        · exact Nat.zero_le _) (σ 11 0)
      omega
    · exact Nat.zero_le _) _
  rw [List.length_append] at h3
  omega
/-! houses by holes, over the rounds -/
def tmK (σ : Sg) (g c : Nat) : Nat → List Nat := fun k => if σ 2 (σ 12 (60 * c + k)) = g + 1 then [σ 12 (60 * c + k)] else []
theorem P_te {σ : Sg} (hI : Inv σ) (g : Nat) {c : Nat} (hc : c < 4) : catN (tmK σ g c) (σ 13 c) = teC σ g c := by
  have e1 : catN (tmK σ g c) (σ 13 c) = (catN (rdF σ c) (σ 13 c)).flatMap (fun h => if σ 2 h = g + 1 then [h] else []) := by
    rw [catN_bind]
    refine catN_congr (fun i _ => ?_)
    simp [rdF, tmK]
  rw [e1, (hI.2.2.1 c hc).2, catN_bind]
  refine catN_congr (fun k _ => ?_)
  unfold toF teK
  by_cases e : σ 1 (σ 4 k) = c + 1
  · rw [if_pos e]
    by_cases q : σ 2 (σ 4 k) = g + 1
    · rw [if_pos ⟨q, e⟩]; simp [q]
    · rw [if_neg (fun z => q z.1)]; simp [q]
  · rw [if_neg e, if_neg (fun z => e z.2)]; rfl
theorem tmK_bd (σ : Sg) (g c n : Nat) : (catN (tmK σ g c) n).length ≤ n := by
  have := catN_bd (f := tmK σ g c) (b := 1) (fun i => by unfold tmK; split <;> simp) n
  omega
theorem tm_bd {σ : Sg} (hI : Inv σ) (g c k : Nat) : (catN (teG σ) g ++ catN (teC σ g) c ++ catN (tmK σ g c) k).length ≤ g * 240 + c * 60 + k := by
  rw [List.length_append, List.length_append]
  have h1 := teG_bd hI g
  have h2 := teC_bd hI g c
  have h3 := tmK_bd σ g c k
  omega
theorem tmK_no {σ : Sg} {g c k : Nat} (h : ¬ σ 2 (σ 12 (60 * c + k)) = g + 1) : catN (tmK σ g c) (k + 1) = catN (tmK σ g c) k := by
  have e : tmK σ g c k = [] := if_neg h
  simp only [catN]; rw [e, List.append_nil]
theorem tmK_yes {σ : Sg} {g c k : Nat} (h : σ 2 (σ 12 (60 * c + k)) = g + 1) : catN (tmK σ g c) (k + 1) = catN (tmK σ g c) k ++ [σ 12 (60 * c + k)] := by
  have e : tmK σ g c k = [σ 12 (60 * c + k)] := if_pos h
  simp only [catN]; rw [e]
theorem tm_split {σ : Sg} (hI : Inv σ) {g c k : Nat} (hg : g < σ 0 0) (hc : c < 4) (hk : k < σ 13 c) (h : σ 2 (σ 12 (60 * c + k)) = g + 1) :
    ∃ r, teL σ = catN (teG σ) g ++ catN (teC σ g) c ++ catN (tmK σ g c) k ++ [σ 12 (60 * c + k)] ++ r := by
  obtain ⟨r1, h1⟩ := catN_split (teG σ) hg
  obtain ⟨r2, h2⟩ := catN_split (teC σ g) hc
  obtain ⟨r3, h3⟩ := catN_split (tmK σ g c) hk
  have e : tmK σ g c k = [σ 12 (60 * c + k)] := if_pos h
  rw [e, P_te hI g hc] at h3
  have h2' : teG σ g = _ := h2
  refine ⟨r3 ++ r2 ++ r1, ?_⟩
  show catN (teG σ) (σ 0 0) = _
  rw [h1, h2', h3]
  simp only [List.append_assoc]
theorem I_rd {σ : Sg} (hI : Inv σ) {c k : Nat} (hc : c < 4) (hk : k < σ 13 c) : σ 1 (σ 12 (60 * c + k)) = c + 1 := by
  obtain ⟨r, hr⟩ := catN_split (rdF σ c) hk
  have hm : σ 12 (60 * c + k) ∈ catN (rdF σ c) (σ 13 c) := by
    rw [hr]
    simp [rdF]
  rw [(hI.2.2.1 c hc).2] at hm
  obtain ⟨j, hj, hx⟩ := catN_mem hm
  unfold toF at hx
  split at hx
  · have : σ 12 (60 * c + k) = σ 4 j := by simpa using hx
    rw [this]; assumption
  · cases hx
theorem pick_bd {σ δ : Sg} {w : Int32} {L : List Nat} (h : PasIs σ δ w L) (hx : ∀ x, x ∈ L → x < 250) : δ 4 0 ≤ 250 := by
  rw [h.2.2]
  unfold pickM
  split
  · rename_i q
    have := hx _ (getD_mem (L := L) (i := w.toInt.toNat) (by omega))
    omega
  · omega
theorem roL_mem {σ : Sg} (hI : Inv σ) {c q x : Nat} (hx : x ∈ roL σ c q) : x < σ 11 0 := by
  obtain ⟨k, hk, hx⟩ := catN_mem hx
  unfold roF at hx
  split at hx
  · exact hL_mem hI hx
  · cases hx
theorem frL_mem {σ : Sg} (hI : Inv σ) {c x : Nat} (hx : x ∈ frL σ c) : x < σ 11 0 := by
  rcases List.mem_append.mp hx with hx | hx
  · exact roL_mem hI hx
  · exact asL_mem hI hx
