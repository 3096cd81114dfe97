/-! the calls: what they answer, and the state behind them -/
def uHouse (σ : Sg) (c h : Nat) : Sg := setA (setA (setA (setA (setA σ 4 (σ 5 0) h) 5 0 (σ 5 0 + 1)) 1 h (c + 1)) 12 (60 * c + σ 13 c) h) 13 c (σ 13 c + 1)
def uPoint (σ : Sg) (h g : Nat) : Sg := setA σ 2 h (g + 1)
def uItem (σ : Sg) (n k : Nat) : Sg := setA (setA (setA (setA (setA (setA σ 6 (σ 11 0) n) 7 (σ 11 0) k) 8 (σ 11 0) 0) 9 (σ 11 0) 0) 10 (σ 11 0) 0) 11 0 (σ 11 0 + 1)
def uBundle (σ : Sg) (a b : Nat) : Sg := setA (setA (setA σ 10 a (b + 1)) 9 b (a + 1)) 8 b 0
def uPut (σ : Sg) (i g : Nat) : Sg := setA σ 8 i (g + 1)
def uHold (σ : Sg) (h v : Nat) : Sg := setA σ 3 h v
def uHome (σ : Sg) (i : Nat) : Sg := setA σ 8 i 0
def oHouse (σ : Sg) (p0 p1 : Int32) : Int32 × Sg :=
  if ¬ (0 ≤ p0.toInt ∧ p0.toInt < 4) then (-1, σ) else if ¬ (0 ≤ p1.toInt ∧ p1.toInt < 200) then (-2, σ) else if σ 1 p1.toInt.toNat ≠ 0 then (-3, σ) else if 60 ≤ σ 5 0 then (-4, σ)
  else (nI (sumN (cF (uHouse σ p0.toInt.toNat p1.toInt.toNat) p0.toInt.toNat) ((uHouse σ p0.toInt.toNat p1.toInt.toNat) 5 0)), uHouse σ p0.toInt.toNat p1.toInt.toNat)
def oPoint (σ : Sg) (p0 p1 : Int32) : Int32 × Sg :=
  if ¬ (0 ≤ p0.toInt ∧ p0.toInt < 200 ∧ σ 1 p0.toInt.toNat ≠ 0) then (-1, σ) else if ¬ (0 ≤ p1.toInt ∧ p1.toInt < (σ 0 0 : Nat)) then (-2, σ)
  else (nI (sumN (hF (uPoint σ p0.toInt.toNat p1.toInt.toNat) p1.toInt.toNat) ((uPoint σ p0.toInt.toNat p1.toInt.toNat) 5 0)), uPoint σ p0.toInt.toNat p1.toInt.toNat)
def oItem (σ : Sg) (p0 p1 : Int32) : Int32 × Sg :=
  if ¬ (0 ≤ p0.toInt ∧ p0.toInt < 200 ∧ 0 ≤ p1.toInt ∧ p1.toInt < 3) then (-2, σ) else if 250 ≤ σ 11 0 then (-4, σ) else (nI (σ 11 0), uItem σ p0.toInt.toNat p1.toInt.toNat)
def mayB (σ : Sg) (a b : Nat) : Prop := σ 7 a ≠ 2 ∧ σ 7 b ≠ 2 ∧ σ 9 b = 0 ∧ σ 10 a = 0 ∧ leadN σ 250 a ≠ b
def oBundle (σ : Sg) (p0 p1 : Int32) : Int32 × Sg :=
  if ¬ (0 ≤ p0.toInt ∧ p0.toInt < (σ 11 0 : Nat) ∧ 0 ≤ p1.toInt ∧ p1.toInt < (σ 11 0 : Nat)) then (-1, σ)
  else if ¬ (σ 7 p0.toInt.toNat ≠ 2 ∧ σ 7 p1.toInt.toNat ≠ 2 ∧ σ 9 p1.toInt.toNat = 0 ∧ σ 10 p0.toInt.toNat = 0 ∧ leadN σ 250 p0.toInt.toNat ≠ p1.toInt.toNat) then (-3, σ)
  else (nI (len (uBundle σ p0.toInt.toNat p1.toInt.toNat) (leadN (uBundle σ p0.toInt.toNat p1.toInt.toNat) 250 p0.toInt.toNat)), uBundle σ p0.toInt.toNat p1.toInt.toNat)
def oPut (σ : Sg) (p0 p1 : Int32) : Int32 × Sg :=
  if ¬ (0 ≤ p0.toInt ∧ p0.toInt < (σ 11 0 : Nat)) then (-1, σ) else if ¬ (0 ≤ p1.toInt ∧ p1.toInt < (σ 0 0 : Nat)) then (-2, σ) else if σ 7 p0.toInt.toNat = 2 ∨ σ 9 p0.toInt.toNat ≠ 0 then (-3, σ)
  else (pI (hol (uPut σ p0.toInt.toNat p1.toInt.toNat) p0.toInt.toNat ≠ 0 ∧ hol (uPut σ p0.toInt.toNat p1.toInt.toNat) p0.toInt.toNat ≠ (uPut σ p0.toInt.toNat p1.toInt.toNat) 2 ((uPut σ p0.toInt.toNat p1.toInt.toNat) 6 p0.toInt.toNat)), uPut σ p0.toInt.toNat p1.toInt.toNat)
def oHold (σ : Sg) (p0 : Int32) (on : Nat) : Int32 × Sg :=
  if ¬ (0 ≤ p0.toInt ∧ p0.toInt < 200 ∧ σ 1 p0.toInt.toNat ≠ 0) ∨ σ 3 p0.toInt.toNat = on then (0, σ) else (1, uHold σ p0.toInt.toNat on)
def oLies (σ : Sg) (p0 : Int32) : Int32 := if 0 ≤ p0.toInt ∧ p0.toInt < (σ 11 0 : Nat) then mI (hol σ (leadN σ 250 p0.toInt.toNat)) else -1
def teV (σ : Sg) (h : Nat) (p1 : Int32) : Int32 := if p1.toInt = 0 then nI h else if p1.toInt = 1 then mI (σ 2 h) else if p1.toInt = 2 then mI (σ 1 h) else -2
def oTeach (σ : Sg) (p0 p1 : Int32) : Int32 := if 0 ≤ p0.toInt ∧ p0.toInt < ((teL σ).length : Int) then teV σ ((teL σ).getD p0.toInt.toNat 0) p1 else -1
/-- a house told by any int: 200 is none's number -/
def dH (p : Int32) : Nat := if 0 ≤ p.toInt ∧ p.toInt < 200 then p.toInt.toNat else 200
theorem dH_iff {p : Int32} : ∀ n : Nat, n < 200 → (p.toInt = (n : Int) ↔ n = dH p) := by
  intro n hn
  unfold dH
  split <;> omega
def layF (σ : Sg) : Nat → Nat := fun i => if σ 9 i = 0 then hol σ i else 0
/-- one that lay there is drawn, or not -/
def smX (x : Int32) : Int32 := x * 1103515245 + 12345
def smU (x : Int32) : Int32 := (x.toUInt32 >>> ((16 : Int32).toUInt32 &&& Int32.toUInt32 31)).toInt32
abbrev TS : Type := Int32 × Sg × Nat
def smI (lay : Nat → Nat) (g : Nat) (p1 p2 : Int32) (t : TS) (i : Nat) : TS :=
  if lay i = g + 1 then (if (smU (smX t.1) - smU (smX t.1) / p2 * p2).toInt < p1.toInt ∧ hol t.2.1 i ≠ 0 ∧ hol t.2.1 i ≠ t.2.1 2 (t.2.1 6 i) ∧ t.2.1 2 (t.2.1 6 i) ≠ 0 then (smX t.1, uHome t.2.1 i, t.2.2 + 1) else (smX t.1, t.2.1, t.2.2)) else t
def foldS (f : TS → Nat → TS) (t : TS) : Nat → TS
  | 0 => t
  | n + 1 => f (foldS f t n) n
def smG (σ : Sg) (p1 p2 : Int32) (t : TS) (g : Nat) : TS := foldS (smI (layF σ) g p1 p2) t (σ 11 0)
def smT (σ : Sg) (p0 p1 p2 : Int32) : TS := foldS (smG σ p1 p2) (p0, σ, 0) (σ 0 0)
def oSample (σ : Sg) (p0 p1 p2 : Int32) : Int32 × Sg :=
  if ¬ (1 ≤ p2.toInt ∧ p2.toInt ≤ 1000 ∧ 0 ≤ p1.toInt ∧ p1.toInt ≤ p2.toInt) then (-2, σ) else (nI (smT σ p0 p1 p2).2.2, (smT σ p0 p1 p2).2.1)
def oCount (σ : Sg) (k : Nat) : Nat :=
  if k = 0 then σ 0 0 else if k = 1 then σ 5 0 else if k = 2 then σ 11 0 else if k = 3 then sumN (wrF σ) (σ 11 0) else if k = 4 then sumN (heF σ) (σ 5 0)
  else if k = 5 then sumN (atF σ 4) (σ 11 0) + sumN (atF σ 1) (σ 11 0) else if k = 6 then sumN (atF σ 3) (σ 11 0) else if k = 7 then sumN (atF σ 2) (σ 11 0) else sumN (atF σ 0) (σ 11 0)
/-! the invariant stays -/
theorem X3_bundle {σ τ : Sg} {dp rk ld : Nat → Nat} {a b : Nat} (h : X3 σ dp rk ld) (ha : a < σ 11 0) (hb : b < σ 11 0) (h9 : σ 9 b = 0) (h10 : σ 10 a = 0) (hl : ld a ≠ b)
    (t9 : ∀ i, τ 9 i = if i = b then a + 1 else σ 9 i) (t10 : ∀ i, τ 10 i = if i = a then b + 1 else σ 10 i) (t11 : τ 11 0 = σ 11 0) :
    X3 τ (fun i => if ld i = b then dp i + dp a + 1 else dp i) (fun i => if ld i = ld a then rk i + rk b else rk i) (fun i => if ld i = b then ld a else ld i) := by
  obtain ⟨e1, e2, e3, e4, e5, e6⟩ := id h
  have hlb : ld b = b := (e1 b hb h9).2
  have hdb : dp b = 0 := (e1 b hb h9).1
  have hra : rk a = 1 := e3 a ha h10
  have hba : ld b ≠ ld a := by rw [hlb]; exact fun z => hl z.symm
  have hll : ∀ i, i < σ 11 0 → ld (ld i) = ld i := fun i hi => (e1 _ (e5 i hi).1 (e5 i hi).2.1).2
  have huniq : ∀ (d i j : Nat), i < σ 11 0 → j < σ 11 0 → dp i = d → dp j = d → ld i = ld j → i = j := by
    intro d
    induction d with
    | zero =>
      intro i j hi hj hdi hdj hij
      have hi9 : σ 9 i = 0 := by
        by_cases z : σ 9 i = 0
        · exact z
        · have := (e2 i hi z).2.2.1; omega
      have hj9 : σ 9 j = 0 := by
        by_cases z : σ 9 j = 0
        · exact z
        · have := (e2 j hj z).2.2.1; omega
      have q1 := (e1 i hi hi9).2
      have q2 := (e1 j hj hj9).2
      omega
    | succ d ih =>
      intro i j hi hj hdi hdj hij
      have hi9 : σ 9 i ≠ 0 := fun z => by have := (e1 i hi z).1; omega
      have hj9 : σ 9 j ≠ 0 := fun z => by have := (e1 j hj z).1; omega
      obtain ⟨a1, a2, a3, a4, a5⟩ := e2 i hi hi9
      obtain ⟨b1, b2, b3, b4, b5⟩ := e2 j hj hj9
      have hp : σ 9 i - 1 = σ 9 j - 1 := ih _ _ a1 b1 (by omega) (by omega) (by rw [← a4, ← b4]; exact hij)
      rw [hp] at a2
      omega
  refine ⟨fun i hi hi9 => ?_, fun i hi hi9 => ?_, fun i hi hi10 => ?_, fun i hi hi10 => ?_, fun i hi => ?_, ?_⟩
  · rw [t11] at hi
    rw [t9] at hi9
    have hib : i ≠ b := by
      intro z
      rw [if_pos z] at hi9
      omega
    rw [if_neg hib] at hi9
    obtain ⟨q1, q2⟩ := e1 i hi hi9
    have hn : ld i ≠ b := by rw [q2]; exact hib
    exact ⟨by show (if ld i = b then _ else dp i) = 0; rw [if_neg hn]; exact q1, by show (if ld i = b then _ else ld i) = i; rw [if_neg hn]; exact q2⟩
  · rw [t11] at hi
    rw [t9] at hi9
    rw [t9, t11]
    by_cases hib : i = b
    · subst hib
      rw [if_pos rfl, Nat.add_sub_cancel, t10, if_pos rfl]
      refine ⟨ha, rfl, ?_, ?_, ?_⟩
      · show (if ld i = i then dp i + dp a + 1 else dp i) = (if ld a = i then _ else dp a) + 1
        rw [if_pos hlb, if_neg hl, hdb]; omega
      · show (if ld i = i then ld a else ld i) = (if ld a = i then ld a else ld a)
        rw [if_pos hlb, if_neg hl]
      · show (if ld a = ld a then rk a + rk i else rk a) = (if ld i = ld a then _ else rk i) + 1
        rw [if_pos rfl, if_neg hba, hra]; omega
    · rw [if_neg hib] at hi9
      rw [if_neg hib, t10]
      obtain ⟨a1, a2, a3, a4, a5⟩ := e2 i hi hi9
      have hpa : σ 9 i - 1 ≠ a := by
        intro z
        rw [z] at a2
        omega
      rw [if_neg hpa]
      refine ⟨a1, a2, ?_, ?_, ?_⟩
      · show (if ld i = b then dp i + dp a + 1 else dp i) = (if ld (σ 9 i - 1) = b then dp (σ 9 i - 1) + dp a + 1 else dp (σ 9 i - 1)) + 1
        rw [← a4]
        by_cases z : ld i = b
        · rw [if_pos z, if_pos z]; omega
        · rw [if_neg z, if_neg z]; exact a3
      · show (if ld i = b then ld a else ld i) = (if ld (σ 9 i - 1) = b then ld a else ld (σ 9 i - 1))
        rw [← a4]
      · show (if ld (σ 9 i - 1) = ld a then rk (σ 9 i - 1) + rk b else rk (σ 9 i - 1)) = (if ld i = ld a then rk i + rk b else rk i) + 1
        rw [← a4]
        by_cases z : ld i = ld a
        · rw [if_pos z, if_pos z]; omega
        · rw [if_neg z, if_neg z]; exact a5
  · rw [t11] at hi
    rw [t10] at hi10
    have hia : i ≠ a := by
      intro z
      rw [if_pos z] at hi10
      omega
    rw [if_neg hia] at hi10
    have hri := e3 i hi hi10
    show (if ld i = ld a then rk i + rk b else rk i) = 1
    by_cases z : ld i = ld a
    · exfalso
      have q1 := (e5 i hi).2.2
      have q2 := (e5 a ha).2.2
      rw [z] at q1
      exact hia (huniq (dp a) i a hi ha (by omega) rfl z)
    · rw [if_neg z]; exact hri
  · rw [t11] at hi
    rw [t10] at hi10
    rw [t10, t11, t9]
    by_cases hia : i = a
    · subst hia
      rw [if_pos rfl, Nat.add_sub_cancel, if_pos rfl]
      exact ⟨hb, rfl⟩
    · rw [if_neg hia] at hi10
      rw [if_neg hia]
      obtain ⟨a1, a2⟩ := e4 i hi hi10
      have hnb : σ 10 i - 1 ≠ b := by
        intro z
        rw [z] at a2
        omega
      rw [if_neg hnb]
      exact ⟨a1, a2⟩
  · rw [t11] at hi
    rw [t11, t9]
    obtain ⟨q1, q2, q3⟩ := e5 i hi
    obtain ⟨r1, r2, r3⟩ := e5 a ha
    show (if ld i = b then ld a else ld i) < σ 11 0 ∧ (if (if ld i = b then ld a else ld i) = b then a + 1 else σ 9 (if ld i = b then ld a else ld i)) = 0 ∧ (if ld i = b then dp i + dp a + 1 else dp i) + (if ld i = ld a then rk i + rk b else rk i) = (if ld (if ld i = b then ld a else ld i) = ld a then rk (if ld i = b then ld a else ld i) + rk b else rk (if ld i = b then ld a else ld i))
    by_cases z : ld i = b
    · rw [if_pos z, if_pos z, if_neg hl, if_neg (by rw [z]; exact fun y => hl y.symm), if_pos (hll a ha)]
      rw [z] at q3
      exact ⟨r1, r2, by omega⟩
    · rw [if_neg z, if_neg z, if_neg z, hll i hi]
      refine ⟨q1, q2, ?_⟩
      by_cases y : ld i = ld a
      · rw [if_pos y, if_pos y]; omega
      · rw [if_neg y, if_neg y]; exact q3
  · rw [t11]
    have hp : ∀ i, i < σ 11 0 → (if τ 9 i = 0 then (if ld i = ld a then rk i + rk b else rk i) else 0) + (if i = b then rk b else 0) = (if σ 9 i = 0 then rk i else 0) + (if i = ld a then rk b else 0) := by
      intro i hi
      rw [t9]
      by_cases hib : i = b
      · subst hib
        rw [if_pos rfl, if_neg (by omega), if_pos rfl, if_pos h9, if_neg (fun z => hl z.symm)]; omega
      · rw [if_neg hib, if_neg hib]
        by_cases z9 : σ 9 i = 0
        · rw [if_pos z9, if_pos z9, (e1 i hi z9).2]
          by_cases y : i = ld a
          · rw [if_pos y, if_pos y]; exact Nat.add_zero _
          · rw [if_neg y, if_neg y]
        · rw [if_neg z9, if_neg z9, if_neg (fun y => z9 (by rw [y]; exact (e5 a ha).2.1))]
    have hs := sumN_congr hp
    rw [sumN_add (fun i => if τ 9 i = 0 then (if ld i = ld a then rk i + rk b else rk i) else 0) (fun i => if i = b then rk b else 0), sumN_add (fun i => if σ 9 i = 0 then rk i else 0) (fun i => if i = ld a then rk b else 0), e6] at hs
    rw [sumN_one (f := fun i => if i = b then rk b else 0) hb (fun i _ z => if_neg z), sumN_one (f := fun i => if i = ld a then rk b else 0) (e5 a ha).1 (fun i _ z => if_neg z)] at hs
    have hs : sumN (fun i => if τ 9 i = 0 then (if ld i = ld a then rk i + rk b else rk i) else 0) (σ 11 0) + (if b = b then rk b else 0) = σ 11 0 + (if ld a = ld a then rk b else 0) := hs
    rw [if_pos rfl, if_pos rfl] at hs
    show sumN (fun i => if τ 9 i = 0 then (if ld i = ld a then rk i + rk b else rk i) else 0) (σ 11 0) = σ 11 0
    omega
theorem I_put {σ : Sg} {i g : Nat} (hI : Inv σ) (hg : g < σ 0 0) : Inv (uPut σ i g) := by
  obtain ⟨⟨g0, g1, g2, g3, g4, g5, g6, g7, g8, g9, g10, g11, g12, g13⟩, hH, hR, dp, rk, ld, hX⟩ := hI
  refine ⟨⟨g0, g1, g2, g3, g4, g5, g6, g7, fun x => ?_, g9, g10, g11, g12, g13⟩, hH, hR, dp, rk, ld, hX⟩
  show (if x = i then g + 1 else σ 8 x) ≤ σ 0 0
  split
  · omega
  · exact g8 x
theorem I_home {σ : Sg} {i : Nat} (hI : Inv σ) : Inv (uHome σ i) := by
  obtain ⟨⟨g0, g1, g2, g3, g4, g5, g6, g7, g8, g9, g10, g11, g12, g13⟩, hH, hR, dp, rk, ld, hX⟩ := hI
  refine ⟨⟨g0, g1, g2, g3, g4, g5, g6, g7, fun x => ?_, g9, g10, g11, g12, g13⟩, hH, hR, dp, rk, ld, hX⟩
  show (if x = i then 0 else σ 8 x) ≤ σ 0 0
  split
  · omega
  · exact g8 x
theorem I_hold {σ : Sg} {h v : Nat} (hI : Inv σ) (hh : h < 200) (h1 : σ 1 h ≠ 0) (hv : v ≤ 1) : Inv (uHold σ h v) := by
  obtain ⟨⟨g0, g1, g2, g3, g4, g5, g6, g7, g8, g9, g10, g11, g12, g13⟩, ⟨k1, k2, k3, k4⟩, hR, dp, rk, ld, hX⟩ := hI
  refine ⟨⟨g0, g1, g2, fun x => ?_, g4, g5, g6, g7, g8, g9, g10, g11, g12, g13⟩, ⟨fun x hx e => ?_, k2, k3, k4⟩, hR, dp, rk, ld, hX⟩
  · show (if x = h then v else σ 3 x) ≤ 1
    split
    · exact hv
    · exact g3 x
  · have e : σ 1 x = 0 := e
    refine ⟨(k1 x hx e).1, ?_⟩
    show (if x = h then v else σ 3 x) = 0
    rw [if_neg (fun z => h1 (by rw [← z]; exact e))]
    exact (k1 x hx e).2
theorem I_point {σ : Sg} {h g : Nat} (hI : Inv σ) (hh : h < 200) (h1 : σ 1 h ≠ 0) (hg : g < σ 0 0) : Inv (uPoint σ h g) := by
  obtain ⟨⟨g0, g1, g2, g3, g4, g5, g6, g7, g8, g9, g10, g11, g12, g13⟩, ⟨k1, k2, k3, k4⟩, hR, dp, rk, ld, hX⟩ := hI
  refine ⟨⟨g0, g1, fun x => ?_, g3, g4, g5, g6, g7, g8, g9, g10, g11, g12, g13⟩, ⟨fun x hx e => ?_, k2, k3, k4⟩, hR, dp, rk, ld, hX⟩
  · show (if x = h then g + 1 else σ 2 x) ≤ σ 0 0
    split
    · omega
    · exact g2 x
  · have e : σ 1 x = 0 := e
    refine ⟨?_, (k1 x hx e).2⟩
    show (if x = h then g + 1 else σ 2 x) = 0
    rw [if_neg (fun z => h1 (by rw [← z]; exact e))]
    exact (k1 x hx e).1
theorem I_item {σ : Sg} {n k : Nat} (hI : Inv σ) (hn : n < 200) (hk : k ≤ 2) (h11 : σ 11 0 < 250) : Inv (uItem σ n k) := by
  obtain ⟨⟨g0, g1, g2, g3, g4, g5, g6, g7, g8, g9, g10, g11, g12, g13⟩, hH, hR, dp, rk, ld, hX⟩ := hI
  obtain ⟨e1, e2, e3, e4, e5, e6⟩ := id hX
  have t9 : ∀ i, uItem σ n k 9 i = if i = σ 11 0 then 0 else σ 9 i := fun _ => rfl
  have t10 : ∀ i, uItem σ n k 10 i = if i = σ 11 0 then 0 else σ 10 i := fun _ => rfl
  have t11 : uItem σ n k 11 0 = σ 11 0 + 1 := rfl
  refine ⟨⟨g0, g1, g2, g3, g4, g5, fun x => ?_, fun x => ?_, fun x => ?_, fun x => ?_, fun x => ?_, ?_, g12, g13⟩, hH, hR, fun i => if i = σ 11 0 then 0 else dp i, fun i => if i = σ 11 0 then 1 else rk i, fun i => if i = σ 11 0 then σ 11 0 else ld i, fun i hi q => ?_, fun i hi q => ?_, fun i hi q => ?_, fun i hi q => ?_, fun i hi => ?_, ?_⟩
  · show (if x = σ 11 0 then n else σ 6 x) < 200
    split
    · exact hn
    · exact g6 x
  · show (if x = σ 11 0 then k else σ 7 x) ≤ 2
    split
    · exact hk
    · exact g7 x
  · show (if x = σ 11 0 then 0 else σ 8 x) ≤ σ 0 0
    split
    · exact Nat.zero_le _
    · exact g8 x
  · rw [t9]
    split
    · exact Nat.zero_le _
    · exact g9 x
  · rw [t10]
    split
    · exact Nat.zero_le _
    · exact g10 x
  · rw [t11]; omega
  · rw [t11] at hi
    rw [t9] at q
    by_cases z : i = σ 11 0
    · exact ⟨if_pos z, by show (if i = σ 11 0 then σ 11 0 else ld i) = i; rw [if_pos z]; exact z.symm⟩
    · rw [if_neg z] at q
      exact ⟨(if_neg z).trans (e1 i (by omega) q).1, (if_neg z).trans (e1 i (by omega) q).2⟩
  · rw [t11] at hi
    rw [t9] at q
    by_cases z : i = σ 11 0
    · rw [if_pos z] at q; exact absurd rfl q
    · rw [if_neg z] at q
      obtain ⟨a1, a2, a3, a4, a5⟩ := e2 i (by omega) q
      rw [t9, t11, if_neg z, t10]
      have y : σ 9 i - 1 ≠ σ 11 0 := by omega
      refine ⟨by omega, (if_neg y).trans a2, ?_, ?_, ?_⟩
      · show (if i = σ 11 0 then 0 else dp i) = (if σ 9 i - 1 = σ 11 0 then 0 else dp (σ 9 i - 1)) + 1
        rw [if_neg z, if_neg y]; exact a3
      · show (if i = σ 11 0 then σ 11 0 else ld i) = (if σ 9 i - 1 = σ 11 0 then σ 11 0 else ld (σ 9 i - 1))
        rw [if_neg z, if_neg y]; exact a4
      · show (if σ 9 i - 1 = σ 11 0 then 1 else rk (σ 9 i - 1)) = (if i = σ 11 0 then 1 else rk i) + 1
        rw [if_neg z, if_neg y]; exact a5
  · rw [t11] at hi
    rw [t10] at q
    show (if i = σ 11 0 then 1 else rk i) = 1
    by_cases z : i = σ 11 0
    · exact if_pos z
    · rw [if_neg z] at q
      rw [if_neg z]; exact e3 i (by omega) q
  · rw [t11] at hi
    rw [t10] at q
    by_cases z : i = σ 11 0
    · rw [if_pos z] at q; exact absurd rfl q
    · rw [if_neg z] at q
      obtain ⟨a1, a2⟩ := e4 i (by omega) q
      rw [t10, t11, if_neg z, t9]
      exact ⟨by omega, (if_neg (by omega)).trans a2⟩
  · rw [t11] at hi
    rw [t11]
    show (if i = σ 11 0 then σ 11 0 else ld i) < σ 11 0 + 1 ∧ uItem σ n k 9 (if i = σ 11 0 then σ 11 0 else ld i) = 0 ∧ (if i = σ 11 0 then 0 else dp i) + (if i = σ 11 0 then 1 else rk i) = (if (if i = σ 11 0 then σ 11 0 else ld i) = σ 11 0 then 1 else rk (if i = σ 11 0 then σ 11 0 else ld i))
    by_cases z : i = σ 11 0
    · rw [if_pos z, if_pos z, if_pos z, t9, if_pos rfl, if_pos rfl]
      exact ⟨by omega, rfl, rfl⟩
    · rw [if_neg z, if_neg z, if_neg z, t9]
      obtain ⟨q1, q2, q3⟩ := e5 i (by omega)
      have y : ld i ≠ σ 11 0 := by omega
      rw [if_neg y, if_neg y]
      exact ⟨by omega, q2, q3⟩
  · rw [t11]
    have hs : sumN (fun i => if uItem σ n k 9 i = 0 then (if i = σ 11 0 then 1 else rk i) else 0) (σ 11 0) = σ 11 0 := by
      refine Eq.trans (sumN_congr (fun i hi => ?_)) e6
      have z : i ≠ σ 11 0 := by have hi : i < σ 11 0 := hi; omega
      rw [t9, if_neg z, if_neg z]
    show sumN (fun i => if uItem σ n k 9 i = 0 then (if i = σ 11 0 then 1 else rk i) else 0) (σ 11 0) + (if uItem σ n k 9 (σ 11 0) = 0 then (if σ 11 0 = σ 11 0 then 1 else rk (σ 11 0)) else 0) = σ 11 0 + 1
    rw [hs, t9, if_pos rfl, if_pos rfl, if_pos rfl]
theorem I_bundle {σ : Sg} {a b : Nat} (hI : Inv σ) (ha : a < σ 11 0) (hb : b < σ 11 0) (h9 : σ 9 b = 0) (h10 : σ 10 a = 0) (hl : leadN σ 250 a ≠ b) : Inv (uBundle σ a b) := by
  have hb11 := b11 hI
  obtain ⟨⟨g0, g1, g2, g3, g4, g5, g6, g7, g8, g9, g10, g11, g12, g13⟩, hH, hR, dp, rk, ld, hX⟩ := hI
  have hla : ld a ≠ b := by
    have q := (X_rk hX ha).2
    rw [← X_lead hX 250 a ha (by omega)]
    exact hl
  refine ⟨⟨g0, g1, g2, g3, g4, g5, g6, g7, fun x => ?_, fun x => ?_, fun x => ?_, g11, g12, g13⟩, hH, hR, _, _, _, X3_bundle hX ha hb h9 h10 hla (fun _ => rfl) (fun _ => rfl) rfl⟩
  · show (if x = b then 0 else σ 8 x) ≤ σ 0 0
    split
    · exact Nat.zero_le _
    · exact g8 x
  · show (if x = b then a + 1 else σ 9 x) ≤ 250
    split
    · omega
    · exact g9 x
  · show (if x = a then b + 1 else σ 10 x) ≤ 250
    split
    · omega
    · exact g10 x
theorem I_house {σ : Sg} {c h : Nat} (hI : Inv σ) (hc : c < 4) (hh : h < 200) (h1 : σ 1 h = 0) (h5 : σ 5 0 < 60) : Inv (uHouse σ c h) := by
  obtain ⟨⟨g0, g1, g2, g3, g4, g5, g6, g7, g8, g9, g10, g11, g12, g13⟩, ⟨k1, k2, k3, k4⟩, hR, dp, rk, ld, hX⟩ := hI
  have t1 : ∀ x, uHouse σ c h 1 x = if x = h then c + 1 else σ 1 x := fun _ => rfl
  have t4 : ∀ x, uHouse σ c h 4 x = if x = σ 5 0 then h else σ 4 x := fun _ => rfl
  have t5 : uHouse σ c h 5 0 = σ 5 0 + 1 := rfl
  have t12 : ∀ x, uHouse σ c h 12 x = if x = 60 * c + σ 13 c then h else σ 12 x := fun _ => rfl
  have t13 : ∀ x, uHouse σ c h 13 x = if x = c then σ 13 c + 1 else σ 13 x := fun _ => rfl
  have old : ∀ k, k < σ 5 0 → σ 4 k ≠ h := fun k hk z => k2 k hk (by rw [z]; exact h1)
  have o4 : ∀ k, k < σ 5 0 → uHouse σ c h 4 k = σ 4 k := fun k hk => by rw [t4, if_neg (by omega)]
  have o1 : ∀ k, k < σ 5 0 → uHouse σ c h 1 (uHouse σ c h 4 k) = σ 1 (σ 4 k) := fun k hk => by rw [o4 k hk, t1, if_neg (old k hk)]
  have n4 : uHouse σ c h 4 (σ 5 0) = h := by rw [t4, if_pos rfl]
  have n1 : uHouse σ c h 1 (uHouse σ c h 4 (σ 5 0)) = c + 1 := by rw [n4, t1, if_pos rfl]
  have hs13 : σ 13 c ≤ σ 5 0 := by
    rw [(hR c hc).1]
    have := sumN_le (f := cF σ c) (g := fun _ => 1) (n := σ 5 0) (fun i _ => by unfold cF; split <;> omega)
    have e : ∀ n, sumN (fun _ => 1) n = n := by
      intro n
      induction n with
      | zero => rfl
      | succ n ih => simp only [sumN]; rw [ih]
    rw [e] at this
    exact this
  refine ⟨⟨g0, fun x => ?_, g2, g3, fun x => ?_, ?_, g6, g7, g8, g9, g10, g11, fun x => ?_, fun x => ?_⟩, ⟨fun x hx e => ?_, fun k hk => ?_, fun j k hj hk e => ?_, fun x hx e => ?_⟩, fun c2 hc2 => ?_, dp, rk, ld, hX⟩
  · rw [t1]
    split
    · omega
    · exact g1 x
  · rw [t4]
    split
    · exact hh
    · exact g4 x
  · rw [t5]; omega
  · rw [t12]
    split
    · exact hh
    · exact g12 x
  · rw [t13]
    split
    · omega
    · exact g13 x
  · rw [t1] at e
    split at e
    · omega
    · exact k1 x hx e
  · rw [t5] at hk
    by_cases z : k = σ 5 0
    · rw [z, n1]; omega
    · rw [o1 k (by omega)]; exact k2 k (by omega)
  · rw [t5] at hj hk
    by_cases zj : j = σ 5 0
    · by_cases zk : k = σ 5 0
      · rw [zj, zk]
      · rw [zj, n4, o4 k (by omega)] at e
        exact absurd e.symm (old k (by omega))
    · by_cases zk : k = σ 5 0
      · rw [zk, n4, o4 j (by omega)] at e
        exact absurd e (old j (by omega))
      · rw [o4 j (by omega), o4 k (by omega)] at e
        exact k3 j k (by omega) (by omega) e
  · rw [t5]
    by_cases z : x = h
    · exact ⟨σ 5 0, by omega, by rw [n4, z]⟩
    · rw [t1, if_neg z] at e
      obtain ⟨k, hk, ek⟩ := k4 x hx e
      exact ⟨k, by omega, by rw [o4 k hk]; exact ek⟩
  · obtain ⟨r1, r2⟩ := hR c2 hc2
    have f1 : sumN (cF (uHouse σ c h) c2) (σ 5 0) = sumN (cF σ c2) (σ 5 0) := sumN_congr (fun k hk => by unfold cF; rw [o1 k hk])
    have f2 : catN (toF (uHouse σ c h) c2) (σ 5 0) = catN (toF σ c2) (σ 5 0) := catN_congr (fun k hk => by unfold toF; rw [o1 k hk, o4 k hk])
    rw [t5, t13]
    show (if c2 = c then σ 13 c + 1 else σ 13 c2) = sumN (cF (uHouse σ c h) c2) (σ 5 0) + cF (uHouse σ c h) c2 (σ 5 0) ∧ catN (rdF (uHouse σ c h) c2) (if c2 = c then σ 13 c + 1 else σ 13 c2) = catN (toF (uHouse σ c h) c2) (σ 5 0) ++ toF (uHouse σ c h) c2 (σ 5 0)
    rw [f1, f2]
    by_cases z : c2 = c
    · subst z
      have w1 : cF (uHouse σ c2 h) c2 (σ 5 0) = 1 := by unfold cF; rw [n1]; exact if_pos rfl
      have w2 : toF (uHouse σ c2 h) c2 (σ 5 0) = [h] := by unfold toF; rw [n1, n4]; exact if_pos rfl
      have w3 : catN (rdF (uHouse σ c2 h) c2) (σ 13 c2) = catN (rdF σ c2) (σ 13 c2) := catN_congr (fun k hk => by unfold rdF; rw [t12, if_neg (by omega)])
      have w4 : rdF (uHouse σ c2 h) c2 (σ 13 c2) = [h] := by unfold rdF; rw [t12, if_pos rfl]
      rw [if_pos rfl, w1, w2, ← r1]
      refine ⟨rfl, ?_⟩
      show catN (rdF (uHouse σ c2 h) c2) (σ 13 c2) ++ rdF (uHouse σ c2 h) c2 (σ 13 c2) = _
      rw [w3, w4, r2]
    · have w1 : cF (uHouse σ c h) c2 (σ 5 0) = 0 := by unfold cF; rw [n1]; exact if_neg (by omega)
      have w2 : toF (uHouse σ c h) c2 (σ 5 0) = [] := by unfold toF; rw [n1]; exact if_neg (by omega)
      have w3 : catN (rdF (uHouse σ c h) c2) (σ 13 c2) = catN (rdF σ c2) (σ 13 c2) := catN_congr (fun k hk => by
        have q := g13 c2
        unfold rdF; rw [t12, if_neg (by omega)])
      rw [if_neg z, w1, w2, w3, r2, List.append_nil]
      exact ⟨by rw [r1]; rfl, rfl⟩
/-! the rows stay short -/
theorem ops_hL_len (σ : Sg) (h q : Nat) : (hL σ h q).length = sumN (fun i => if σ 6 i = h ∧ σ 9 i = 0 ∧ plc σ i = q then len σ i else 0) (σ 11 0) := by
  unfold hL
  rw [catN_len]
  refine sumN_congr (fun i hi => ?_)
  unfold ofH
  split <;> rfl
theorem ops_lead_sum {σ : Sg} (hI : Inv σ) {f : Nat → Nat} (h : ∀ i, f i ≤ if σ 9 i = 0 then len σ i else 0) : sumN f (σ 11 0) ≤ 250 := by
  have h1 := sumN_le (n := σ 11 0) (fun i _ => h i)
  rw [I_sum hI] at h1
  have := b11 hI
  omega
theorem hL_le {σ : Sg} (hI : Inv σ) (h q : Nat) : (hL σ h q).length ≤ 250 := by
  rw [ops_hL_len]
  refine ops_lead_sum hI (fun i => ?_)
  by_cases e : σ 6 i = h ∧ σ 9 i = 0 ∧ plc σ i = q
  · rw [if_pos e, if_pos e.2.1]; exact Nat.le_refl _
  · rw [if_neg e]; exact Nat.zero_le _
theorem stL_le {σ : Sg} (hI : Inv σ) : (stL σ).length ≤ 250 := by
  have e : (stL σ).length = sumN (fun i => if σ 9 i = 0 ∧ plc σ i = 0 then len σ i else 0) (σ 11 0) := by
    unfold stL
    rw [catN_len]
    refine sumN_congr (fun i _ => ?_)
    unfold stF
    split <;> rfl
  rw [e]
  refine ops_lead_sum hI (fun i => ?_)
  by_cases e : σ 9 i = 0 ∧ plc σ i = 0
  · rw [if_pos e, if_pos e.1]; exact Nat.le_refl _
  · rw [if_neg e]; exact Nat.zero_le _
theorem teL_mem {σ : Sg} {x : Nat} (hx : x ∈ teL σ) : ∃ k, k < σ 5 0 ∧ x = σ 4 k := by
  obtain ⟨g, hg, hx⟩ := catN_mem hx
  obtain ⟨c, hc, hx⟩ := catN_mem hx
  obtain ⟨k, hk, hx⟩ := catN_mem hx
  unfold teK at hx
  split at hx
  · exact ⟨k, hk, by simpa using hx⟩
  · cases hx
