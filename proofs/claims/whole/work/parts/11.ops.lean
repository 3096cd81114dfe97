/-! the calls: what they answer, and the state behind them -/
def uHouse (σ : Sg) (c h : Nat) : Sg := setA (setA (setA (setA (setA σ 4 (σ 5 0) h) 5 0 (σ 5 0 + 1)) 1 h (c + 1)) 12 (60 * c + σ 13 c) h) 13 c (σ 13 c + 1)
def uPoint (σ : Sg) (h g : Nat) : Sg := setA σ 2 h (g + 1)
def uItem (σ : Sg) (n k : Nat) : Sg := setA (setA (setA (setA (setA (setA σ 6 (σ 11 0) n) 7 (σ 11 0) k) 8 (σ 11 0) 0) 9 (σ 11 0) 0) 10 (σ 11 0) 0) 11 0 (σ 11 0 + 1)
def uBundle (σ : Sg) (a b : Nat) : Sg := setA (setA (setA σ 10 a (b + 1)) 9 b (a + 1)) 8 b 0
def uPut (σ : Sg) (i g : Nat) : Sg := setA σ 8 i (g + 1)
def uHold (σ : Sg) (h v : Nat) : Sg := setA σ 3 h v
def uHome (σ : Sg) (i : Nat) : Sg := setA σ 8 i 0
def oHouse (σ : Sg) (p0 p1 : Int32) : Int32 × Sg :=
  if ¬ (0 ≤ p0.toInt ∧ p0.toInt < 4) then (-1, σ) else if ¬ (0 ≤ p1.toInt ∧ p1.toInt < 200) then (-2, σ) else if σ 1 p1.toInt.toNat ≠ 0 then (-3, σ) else if 60 ≤ σ 5 0 then (-4, σ)
  else (nI (sumN (cF (uHouse σ p0.toInt.toNat p1.toInt.toNat) p0.toInt.toNat) ((uHouse σ p0.toInt.toNat p1.toInt.toNat) 5 0)), uHouse σ p0.toInt.toNat p1.toInt.toNat)
def oPoint (σ : Sg) (p0 p1 : Int32) : Int32 × Sg :=
  if ¬ (0 ≤ p0.toInt ∧ p0.toInt < 200 ∧ σ 1 p0.toInt.toNat ≠ 0) then (-1, σ) else if ¬ (0 ≤ p1.toInt ∧ p1.toInt < (σ 0 0 : Nat)) then (-2, σ)
  else (nI (sumN (hF (uPoint σ p0.toInt.toNat p1.toInt.toNat) p1.toInt.toNat) ((uPoint σ p0.toInt.toNat p1.toInt.toNat) 5 0)), uPoint σ p0.toInt.toNat p1.toInt.toNat)
def oItem (σ : Sg) (p0 p1 : Int32) : Int32 × Sg :=
  if ¬ (0 ≤ p0.toInt ∧ p0.toInt < 200 ∧ 0 ≤ p1.toInt ∧ p1.toInt < 3) then (-2, σ) else if 250 ≤ σ 11 0 then (-4, σ) else (nI (σ 11 0), uItem σ p0.toInt.toNat p1.toInt.toNat)
def mayB (σ : Sg) (a b : Nat) : Prop := σ 7 a ≠ 2 ∧ σ 7 b ≠ 2 ∧ σ 9 b = 0 ∧ σ 10 a = 0 ∧ leadN σ 250 a ≠ b
def oBundle (σ : Sg) (p0 p1 : Int32) : Int32 × Sg :=
  if ¬ (0 ≤ p0.toInt ∧ p0.toInt < (σ 11 0 : Nat) ∧ 0 ≤ p1.toInt ∧ p1.toInt < (σ 11 0 : Nat)) then (-1, σ)
  else if ¬ (σ 7 p0.toInt.toNat ≠ 2 ∧ σ 7 p1.toInt.toNat ≠ 2 ∧ σ 9 p1.toInt.toNat = 0 ∧ σ 10 p0.toInt.toNat = 0 ∧ leadN σ 250 p0.toInt.toNat ≠ p1.toInt.toNat) then (-3, σ)
  else (nI (len (uBundle σ p0.toInt.toNat p1.toInt.toNat) (leadN (uBundle σ p0.toInt.toNat p1.toInt.toNat) 250 p0.toInt.toNat)), uBundle σ p0.toInt.toNat p1.toInt.toNat)
def oPut (σ : Sg) (p0 p1 : Int32) : Int32 × Sg :=
  if ¬ (0 ≤ p0.toInt ∧ p0.toInt < (σ 11 0 : Nat)) then (-1, σ) else if ¬ (0 ≤ p1.toInt ∧ p1.toInt < (σ 0 0 : Nat)) then (-2, σ) else if σ 7 p0.toInt.toNat = 2 ∨ σ 9 p0.toInt.toNat ≠ 0 then (-3, σ)
  else (pI (hol (uPut σ p0.toInt.toNat p1.toInt.toNat) p0.toInt.toNat ≠ 0 ∧ hol (uPut σ p0.toInt.toNat p1.toInt.toNat) p0.toInt.toNat ≠ (uPut σ p0.toInt.toNat p1.toInt.toNat) 2 ((uPut σ p0.toInt.toNat p1.toInt.toNat) 6 p0.toInt.toNat)), uPut σ p0.toInt.toNat p1.toInt.toNat)
def oHold (σ : Sg) (p0 : Int32) (on : Nat) : Int32 × Sg :=
  if ¬ (0 ≤ p0.toInt ∧ p0.toInt < 200 ∧ σ 1 p0.toInt.toNat ≠ 0) ∨ σ 3 p0.toInt.toNat = on then (0, σ) else (1, uHold σ p0.toInt.toNat on)
def oLies (σ : Sg) (p0 : Int32) : Int32 := if 0 ≤ p0.toInt ∧ p0.toInt < (σ 11 0 : Nat) then mI (hol σ (leadN σ 250 p0.toInt.toNat)) else -1
def teV (σ : Sg) (h : Nat) (p1 : Int32) : Int32 := if p1.toInt = 0 then nI h else if p1.toInt = 1 then mI (σ 2 h) else if p1.toInt = 2 then mI (σ 1 h) else -2
def oTeach (σ : Sg) (p0 p1 : Int32) : Int32 := if 0 ≤ p0.toInt ∧ p0.toInt < ((teL σ).length : Int) then teV σ ((teL σ).getD p0.toInt.toNat 0) p1 else -1
/-- a house told by any int: 200 is none's number -/
def dH (p : Int32) : Nat := if 0 ≤ p.toInt ∧ p.toInt < 200 then p.toInt.toNat else 200
theorem dH_iff {p : Int32} : ∀ n : Nat, n < 200 → (p.toInt = (n : Int) ↔ n = dH p) := by
  intro n hn
  unfold dH
  split <;> omega
def layF (σ : Sg) : Nat → Nat := fun i => if σ 9 i = 0 then hol σ i else 0
/-- one that lay there is drawn, or not -/
def smX (x : Int32) : Int32 := x * 1103515245 + 12345
def smU (x : Int32) : Int32 := (x.toUInt32 >>> ((16 : Int32).toUInt32 &&& Int32.toUInt32 31)).toInt32
abbrev TS : Type := Int32 × Sg × Nat
def smI (lay : Nat → Nat) (g : Nat) (p1 p2 : Int32) (t : TS) (i : Nat) : TS :=
  if lay i = g + 1 then (if (smU (smX t.1) - smU (smX t.1) / p2 * p2).toInt < p1.toInt ∧ hol t.2.1 i ≠ 0 ∧ hol t.2.1 i ≠ t.2.1 2 (t.2.1 6 i) ∧ t.2.1 2 (t.2.1 6 i) ≠ 0 then (smX t.1, uHome t.2.1 i, t.2.2 + 1) else (smX t.1, t.2.1, t.2.2)) else t
def foldS (f : TS → Nat → TS) (t : TS) : Nat → TS
  | 0 => t
  | n + 1 => f (foldS f t n) n
def smG (σ : Sg) (p1 p2 : Int32) (t : TS) (g : Nat) : TS := foldS (smI (layF σ) g p1 p2) t (σ 11 0)
def smT (σ : Sg) (p0 p1 p2 : Int32) : TS := foldS (smG σ p1 p2) (p0, σ, 0) (σ 0 0)
def oSample (σ : Sg) (p0 p1 p2 : Int32) : Int32 × Sg :=
  if ¬ (1 ≤ p2.toInt ∧ p2.toInt ≤ 1000 ∧ 0 ≤ p1.toInt ∧ p1.toInt ≤ p2.toInt) then (-2, σ) else (nI (smT σ p0 p1 p2).2.2, (smT σ p0 p1 p2).2.1)
def oCount (σ : Sg) (k : Nat) : Nat :=
  if k = 0 then σ 0 0 else if k = 1 then σ 5 0 else if k = 2 then σ 11 0 else if k = 3 then sumN (wrF σ) (σ 11 0) else if k = 4 then sumN (heF σ) (σ 5 0)
  else if k = 5 then sumN (atF σ 4) (σ 11 0) + sumN (atF σ 1) (σ 11 0) else if k = 6 then sumN (atF σ 3) (σ 11 0) else if k = 7 then sumN (atF σ 2) (σ 11 0) else sumN (atF σ 0) (σ 11 0)
/-! the invariant stays -/
theorem I_house {σ : Sg} {c h : Nat} (hI : Inv σ) (hc : c < 4) (hh : h < 200) (h1 : σ 1 h = 0) (h5 : σ 5 0 < 60) : Inv (uHouse σ c h) := by
  sorry
theorem I_point {σ : Sg} {h g : Nat} (hI : Inv σ) (hh : h < 200) (h1 : σ 1 h ≠ 0) (hg : g < σ 0 0) : Inv (uPoint σ h g) := by
  sorry
theorem I_item {σ : Sg} {n k : Nat} (hI : Inv σ) (hn : n < 200) (hk : k ≤ 2) (h11 : σ 11 0 < 250) : Inv (uItem σ n k) := by
  sorry
theorem I_bundle {σ : Sg} {a b : Nat} (hI : Inv σ) (ha : a < σ 11 0) (hb : b < σ 11 0) (h9 : σ 9 b = 0) (h10 : σ 10 a = 0) (hl : leadN σ 250 a ≠ b) : Inv (uBundle σ a b) := by
  sorry
theorem I_put {σ : Sg} {i g : Nat} (hI : Inv σ) (hg : g < σ 0 0) : Inv (uPut σ i g) := by
  sorry
theorem I_hold {σ : Sg} {h v : Nat} (hI : Inv σ) (hh : h < 200) (h1 : σ 1 h ≠ 0) (hv : v ≤ 1) : Inv (uHold σ h v) := by
  sorry
theorem I_home {σ : Sg} {i : Nat} (hI : Inv σ) : Inv (uHome σ i) := by
  sorry
/-! the rows stay short -/
theorem ops_hL_len (σ : Sg) (h q : Nat) : (hL σ h q).length = sumN (fun i => if σ 6 i = h ∧ σ 9 i = 0 ∧ plc σ i = q then len σ i else 0) (σ 11 0) := by
  unfold hL
  rw [catN_len]
  refine sumN_congr (fun i hi => ?_)
  unfold ofH
  split <;> rfl
theorem ops_lead_sum {σ : Sg} (hI : Inv σ) {f : Nat → Nat} (h : ∀ i, f i ≤ if σ 9 i = 0 then len σ i else 0) : sumN f (σ 11 0) ≤ 250 := by
  have h1 := sumN_le (n := σ 11 0) (fun i _ => h i)
  rw [I_sum hI] at h1
  have := b11 hI
  omega
theorem hL_le {σ : Sg} (hI : Inv σ) (h q : Nat) : (hL σ h q).length ≤ 250 := by
  rw [ops_hL_len]
  refine ops_lead_sum hI (fun i => ?_)
  by_cases e : σ 6 i = h ∧ σ 9 i = 0 ∧ plc σ i = q
  · rw [if_pos e, if_pos e.2.1]; exact Nat.le_refl _
  · rw [if_neg e]; exact Nat.zero_le _
theorem stL_le {σ : Sg} (hI : Inv σ) : (stL σ).length ≤ 250 := by
  have e : (stL σ).length = sumN (fun i => if σ 9 i = 0 ∧ plc σ i = 0 then len σ i else 0) (σ 11 0) := by
    unfold stL
    rw [catN_len]
    refine sumN_congr (fun i _ => ?_)
    unfold stF
    split <;> rfl
  rw [e]
  refine ops_lead_sum hI (fun i => ?_)
  by_cases e : σ 9 i = 0 ∧ plc σ i = 0
  · rw [if_pos e, if_pos e.1]; exact Nat.le_refl _
  · rw [if_neg e]; exact Nat.zero_le _
theorem teL_mem {σ : Sg} {x : Nat} (hx : x ∈ teL σ) : ∃ k, k < σ 5 0 ∧ x = σ 4 k := by
  obtain ⟨g, hg, hx⟩ := catN_mem hx
  obtain ⟨c, hc, hx⟩ := catN_mem hx
  obtain ⟨k, hk, hx⟩ := catN_mem hx
  unfold teK at hx
  split at hx
  · exact ⟨k, hk, by simpa using hx⟩
  · cases hx
