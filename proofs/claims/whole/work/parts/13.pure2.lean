theorem in_c {x a b : Int32} {i j k : Int} (hx : x.toInt = i) (ha : a.toInt = j) (hb : b.toInt = k) : (a.toInt ≤ x.toInt ∧ x.toInt ≤ b.toInt) ↔ (j ≤ i ∧ i ≤ k) := by rw [hx, ha, hb]
def h2F (σ : Sg) (g : Nat) : Nat → Nat := fun h => if σ 2 h = g + 1 then 1 else 0
/-- a sum over all numbers is one over the houses told -/
theorem P_perm {σ : Sg} (hI : Inv σ) (f : Nat → Nat) (h0 : ∀ h, h < 200 → σ 1 h = 0 → f h = 0) : sumN f 200 = sumN (fun k => f (σ 4 k)) (σ 5 0) := by
  have e1 : sumN f 200 = sumN (fun h => sumN (fun k => if σ 4 k = h then f h else 0) (σ 5 0)) 200 := by
    refine sumN_congr (fun h hh => ?_)
    by_cases e : σ 1 h = 0
    · rw [h0 h hh e]
      exact (sumN_zero (fun k hk => by split <;> rfl)).symm
    · obtain ⟨k, hk, ek⟩ := hI.2.1.2.2.2 h hh e
      rw [sumN_one (f := fun k => if σ 4 k = h then f h else 0) hk (fun j hj hjk => if_neg (fun q => hjk (hI.2.1.2.2.1 j k hj hk (q.trans ek.symm))))]
      exact (if_pos ek).symm
  rw [e1, sumN_swap (fun h k => if σ 4 k = h then f h else 0) 200 (σ 5 0)]
  refine sumN_congr (fun k hk => ?_)
  rw [sumN_one (f := fun h => if σ 4 k = h then f h else 0) (b4 hI k) (fun h _ hne => if_neg (fun q => hne q.symm))]
  exact if_pos rfl
theorem I_nh {σ : Sg} (hI : Inv σ) {h : Nat} (hh : h < 200) : σ 1 h ≠ 0 ∨ (σ 2 h = 0 ∧ σ 3 h = 0) := by
  by_cases e : σ 1 h = 0
  · exact Or.inr (hI.2.1.1 h hh e)
  · exact Or.inl e
theorem P_point {σ : Sg} (hI : Inv σ) (g : Nat) : sumN (h2F σ g) 200 = sumN (hF σ g) (σ 5 0) :=
  P_perm hI (h2F σ g) (fun h hh e => if_neg (by have := (hI.2.1.1 h hh e).1; omega))
theorem leastN_spec {σ : Sg} (hI : Inv σ) (g : Nat) : ∀ n, n ≤ σ 5 0 → (leastN σ g n = 0 ∧ ∀ k, k < n → σ 2 (σ 4 k) ≠ g + 1) ∨ (leastN σ g n ≠ 0 ∧ (∃ k, k < n ∧ σ 2 (σ 4 k) = g + 1 ∧ leastN σ g n = σ 1 (σ 4 k)) ∧ ∀ j, j < n → σ 2 (σ 4 j) = g + 1 → leastN σ g n ≤ σ 1 (σ 4 j)) := by
  intro n
  induction n with
  | zero => intro _; exact Or.inl ⟨rfl, fun k hk => by omega⟩
  | succ n ih =>
    intro hn
    have hne := hI.2.1.2.1 n (by omega)
    have key : leastN σ g (n + 1) = if σ 2 (σ 4 n) = g + 1 ∧ (leastN σ g n = 0 ∨ σ 1 (σ 4 n) < leastN σ g n) then σ 1 (σ 4 n) else leastN σ g n := rfl
    rcases ih (by omega) with ⟨h1, h2⟩ | ⟨h0, ⟨k, hk, h3, h4⟩, h5⟩
    · by_cases e : σ 2 (σ 4 n) = g + 1
      · rw [if_pos ⟨e, Or.inl h1⟩] at key
        refine Or.inr ⟨by rw [key]; exact hne, ⟨n, by omega, e, key⟩, fun j hj ej => ?_⟩
        by_cases q : j = n
        · subst q; rw [key]; exact Nat.le_refl _
        · exact absurd ej (h2 j (by omega))
      · rw [if_neg (fun q => e q.1)] at key
        refine Or.inl ⟨by rw [key]; exact h1, fun j hj => ?_⟩
        by_cases q : j = n
        · subst q; exact e
        · exact h2 j (by omega)
    · by_cases e : σ 2 (σ 4 n) = g + 1 ∧ (leastN σ g n = 0 ∨ σ 1 (σ 4 n) < leastN σ g n)
      · rw [if_pos e] at key
        refine Or.inr ⟨by rw [key]; exact hne, ⟨n, by omega, e.1, key⟩, fun j hj ej => ?_⟩
        by_cases q : j = n
        · subst q; rw [key]; exact Nat.le_refl _
        · have := h5 j (by omega) ej
          have := e.2
          omega
      · rw [if_neg e] at key
        refine Or.inr ⟨by rw [key]; exact h0, ⟨k, by omega, h3, by rw [key]; exact h4⟩, fun j hj ej => ?_⟩
        rw [key]
        by_cases q : j = n
        · subst q
          rcases Nat.lt_or_ge (σ 1 (σ 4 j)) (leastN σ g j) with z | z
          · exact absurd ⟨ej, Or.inr z⟩ e
          · exact z
        · exact h5 j (by omega) ej
theorem leastM_spec {σ : Sg} (hI : Inv σ) (g : Nat) : ∀ n, n ≤ 200 → (leastM σ g n = 0 ∧ ∀ k, k < n → σ 2 k ≠ g + 1) ∨ (leastM σ g n ≠ 0 ∧ (∃ k, k < n ∧ σ 2 k = g + 1 ∧ leastM σ g n = σ 1 k) ∧ ∀ j, j < n → σ 2 j = g + 1 → leastM σ g n ≤ σ 1 j) := by
  intro n
  induction n with
  | zero => intro _; exact Or.inl ⟨rfl, fun k hk => by omega⟩
  | succ n ih =>
    intro hn
    have hne := I_nh hI (h := n) (by omega)
    have key : leastM σ g (n + 1) = if σ 2 n = g + 1 ∧ (leastM σ g n = 0 ∨ σ 1 n < leastM σ g n) then σ 1 n else leastM σ g n := rfl
    rcases ih (by omega) with ⟨h1, h2⟩ | ⟨h0, ⟨k, hk, h3, h4⟩, h5⟩
    · by_cases e : σ 2 n = g + 1
      · rw [if_pos ⟨e, Or.inl h1⟩] at key
        refine Or.inr ⟨by rw [key]; omega, ⟨n, by omega, e, key⟩, fun j hj ej => ?_⟩
        by_cases q : j = n
        · subst q; rw [key]; exact Nat.le_refl _
        · exact absurd ej (h2 j (by omega))
      · rw [if_neg (fun q => e q.1)] at key
        refine Or.inl ⟨by rw [key]; exact h1, fun j hj => ?_⟩
        by_cases q : j = n
        · subst q; exact e
        · exact h2 j (by omega)
    · by_cases e : σ 2 n = g + 1 ∧ (leastM σ g n = 0 ∨ σ 1 n < leastM σ g n)
      · rw [if_pos e] at key
        refine Or.inr ⟨by rw [key]; omega, ⟨n, by omega, e.1, key⟩, fun j hj ej => ?_⟩
        by_cases q : j = n
        · subst q; rw [key]; exact Nat.le_refl _
        · have := h5 j (by omega) ej
          have := e.2
          omega
      · rw [if_neg e] at key
        refine Or.inr ⟨by rw [key]; exact h0, ⟨k, by omega, h3, by rw [key]; exact h4⟩, fun j hj ej => ?_⟩
        rw [key]
        by_cases q : j = n
        · subst q
          rcases Nat.lt_or_ge (σ 1 j) (leastM σ g j) with z | z
          · exact absurd ⟨ej, Or.inr z⟩ e
          · exact z
        · exact h5 j (by omega) ej
theorem P_least {σ : Sg} (hI : Inv σ) (g : Nat) : leastM σ g 200 = leastN σ g (σ 5 0) := by
  rcases leastM_spec hI g 200 (Nat.le_refl _) with ⟨h1, h2⟩ | ⟨h0, ⟨k, hk, h3, h4⟩, h5⟩
  · rcases leastN_spec hI g _ (Nat.le_refl _) with ⟨g1, g2⟩ | ⟨g0, ⟨j, hj, g3, g4⟩, g5⟩
    · rw [h1, g1]
    · exact absurd g3 (h2 _ (b4 hI j))
  · have hne := I_nh hI (h := k) hk
    obtain ⟨i, hi, ei⟩ := hI.2.1.2.2.2 k hk (by omega)
    rcases leastN_spec hI g _ (Nat.le_refl _) with ⟨g1, g2⟩ | ⟨g0, ⟨j, hj, g3, g4⟩, g5⟩
    · exact absurd (by rw [ei]; exact h3) (g2 i hi)
    · have a1 := h5 _ (b4 hI j) g3
      have a2 := g5 i hi (by rw [ei]; exact h3)
      rw [ei] at a2
      omega
theorem I_rs {σ : Sg} (hI : Inv σ) {c : Nat} (hc : c < 4) : σ 13 c ≤ σ 5 0 := by
  rw [(hI.2.2.1 c hc).1]
  have key : ∀ n, sumN (cF σ c) n ≤ n := by
    intro n
    induction n with
    | zero => exact Nat.le_refl _
    | succ n ih =>
      simp only [sumN]
      have : cF σ c n ≤ 1 := by unfold cF; split <;> omega
      omega
  exact key _
theorem I_lead_step {σ : Sg} (hI : Inv σ) {x : Nat} (hx : x < σ 11 0) (e : σ 9 x ≠ 0) : leadN σ 250 (σ 9 x - 1) = leadN σ 250 x := by
  obtain ⟨dp, rk, ld, h⟩ := hI.2.2.2
  obtain ⟨h1, h2, h3, h4, h5⟩ := h.2.1 x hx e
  have b := b11 hI
  have r1 := X_rk h hx
  have r2 := X_rk h h1
  rw [X_lead h 250 _ h1 (by omega), X_lead h 250 _ hx (by omega)]
  exact h4.symm
theorem goe_lt (q : Nat) : goe q < 5 := by
  unfold goe
  repeat (first | omega | split)
theorem lay_put {γ : Sg} {f : Nat → Nat} {i v : Nat} (h : ∀ j, j < i → γ 2 j = f j) (e : v = f i) : ∀ j, j < i + 1 → setA γ 2 i v 2 j = f j := by
  intro j hj
  rw [setA_q]
  by_cases q : j = i
  · rw [if_pos q, q, e]
  · rw [if_neg q]; exact h j (by omega)
theorem lay_put1 {γ : Sg} {f : Nat → Nat} {i v : Nat} (h : ∀ j, j < i → γ 1 j = f j) (e : v = f i) : ∀ j, j < i + 1 → setA γ 1 i v 1 j = f j := by
  intro j hj
  rw [setA_q]
  by_cases q : j = i
  · rw [if_pos q, q, e]
  · rw [if_neg q]; exact h j (by omega)
theorem layF_le {σ : Sg} (hI : Inv σ) (i : Nat) : layF σ i ≤ 40 := by
  unfold layF
  split
  · have := hol_le hI i; omega
  · omega
/-! the reference: what has passed by -/
def pickM (w : Int32) (L : List Nat) : Nat := if 0 ≤ w.toInt ∧ w.toInt < (L.length : Int) then L.getD w.toInt.toNat 0 + 1 else 0
def PasIs (σ δ : Sg) (w : Int32) (L : List Nat) : Prop := δ 2 0 = L.length ∧ δ 3 0 = costL σ L ∧ δ 4 0 = pickM w L
theorem pickM_I (w : Int32) (L : List Nat) : mI (pickM w L) = pickI w L := by
  unfold pickM pickI
  split
  · exact mI_s _
  · exact mI_0
theorem PasIs_nil {σ δ : Sg} {p : Int32} : PasIs σ (setA (setA (setA δ 2 0 0) 3 0 0) 4 0 0) p [] :=
  ⟨rfl, rfl, by rw [setA_s]; unfold pickM; rw [if_neg (by simp only [List.length_nil]; omega)]⟩
theorem getD_left {L r : List Nat} {n : Nat} (h : n < L.length) : (L ++ r).getD n 0 = L.getD n 0 := by simp [List.getD, List.getElem?_append_left h]
theorem PasIs_push {σ δ : Sg} {w : Int32} {L : List Nat} {x f c : Nat} (h : PasIs σ δ w L) (hf : f = if w.toInt = (L.length : Int) then x + 1 else δ 4 0) (hc : c = sec (σ 7 x)) :
    PasIs σ (setA (setA (setA δ 4 0 f) 2 0 (δ 2 0 + 1)) 3 0 (δ 3 0 + c)) w (L ++ [x]) := by
  refine ⟨?_, ?_, ?_⟩
  · show δ 2 0 + 1 = _
    rw [h.1, List.length_append]; rfl
  · show δ 3 0 + c = _
    rw [h.2.1, costL_app, hc]; rfl
  · show f = _
    rw [hf, h.2.2]
    unfold pickM
    by_cases e : w.toInt = (L.length : Int)
    · rw [if_pos e, if_pos (by rw [List.length_append]; simp only [List.length_cons, List.length_nil]; omega)]
      have e2 : w.toInt.toNat = L.length := by omega
      rw [e2]
      simp [List.getD]
    · rw [if_neg e]
      by_cases q : 0 ≤ w.toInt ∧ w.toInt < (L.length : Int)
      · rw [if_pos q, if_pos (by rw [List.length_append]; omega)]
        have hl : w.toInt.toNat < L.length := by omega
        rw [getD_left hl]
      · rw [if_neg q, if_neg (by rw [List.length_append]; simp only [List.length_cons, List.length_nil]; omega)]
theorem goe_0 {q : Nat} (h : goe q = 0) : q = 0 := by
  unfold goe at h
  repeat (first | omega | split at h)
theorem goe_two {q : Nat} : goe q = 2 ↔ q = 1 := by
  unfold goe
  repeat (first | omega | split)
theorem goe_1 : ∀ k : Nat, k < 5 → ((1 : Int32).toInt = (goe k : Int) ↔ k = 4) := by decide
theorem goe_3 : ∀ k : Nat, k < 5 → ((3 : Int32).toInt = (goe k : Int) ↔ k = 2) := by decide
theorem goe_4 : ∀ k : Nat, k < 5 → ((4 : Int32).toInt = (goe k : Int) ↔ k = 3) := by decide
theorem chain_le (σ : Sg) : ∀ (f e : Nat), (chain σ f e).length ≤ f := by
  intro f
  induction f with
  | zero => intro e; exact Nat.le_refl _
  | succ f ih =>
    intro e
    simp only [chain]
    split
    · exact Nat.zero_le _
    · rw [List.length_cons]; exact Nat.succ_le_succ (ih _)
theorem ofH_bd {σ : Sg} (hI : Inv σ) (h q : Nat) {n : Nat} (hn : n ≤ σ 11 0) : (catN (ofH σ h q) n).length ≤ 62500 := by
  have h1 := catN_bd (f := ofH σ h q) (b := 250) (fun i => by
    unfold ofH
    split
    · exact chain_le σ 250 _
    · exact Nat.zero_le _) n
  have := b11 hI
  omega
theorem stF_bd {σ : Sg} (hI : Inv σ) {n : Nat} (hn : n ≤ σ 11 0) : (catN (stF σ) n).length ≤ 62500 := by
  have h1 := catN_bd (f := stF σ) (b := 250) (fun i => by
    unfold stF
    split
    · exact chain_le σ 250 _
    · exact Nat.zero_le _) n
  have := b11 hI
  omega
def rhF (σ : Sg) (c q : Nat) : Nat → List Nat := fun k => hL σ (σ 12 (60 * c + k)) q
theorem rhF_bd {σ : Sg} (hI : Inv σ) (c q k : Nat) : (catN (rhF σ c q) k).length ≤ k * 62500 :=
  catN_bd (fun i => ofH_bd hI _ q (Nat.le_refl _)) k
def asI (σ : Sg) (c g : Nat) : Nat → List Nat := fun i => if σ 9 i = 0 ∧ hol σ i = g + 1 ∧ plc σ i = 1 ∧ leastN σ g (σ 5 0) = c + 1 then chain σ 250 (i + 1) else []
def asM (σ : Sg) (c : Nat) : Nat → List Nat := fun g => catN (asI σ c g) (σ 11 0)
theorem P_round {σ : Sg} (hI : Inv σ) (q : Nat) {c : Nat} (hc : c < 4) : catN (rhF σ c q) (σ 13 c) = roL σ c q := by
  have e1 : catN (rhF σ c q) (σ 13 c) = (catN (rdF σ c) (σ 13 c)).flatMap (fun h => hL σ h q) := by
    rw [catN_bind]
    refine catN_congr (fun i hi => ?_)
    simp [rdF, rhF]
  rw [e1, (hI.2.2.1 c hc).2, catN_bind]
  refine catN_congr (fun k hk => ?_)
  unfold toF roF
  split
  · simp
  · rfl
theorem P_astray (σ : Sg) (c : Nat) : catN (asM σ c) (σ 0 0) = asL σ c := by
  refine catN_congr (fun g hg => ?_)
  unfold asM asG
  by_cases e : leastN σ g (σ 5 0) = c + 1
  · rw [if_pos e]
    refine catN_congr (fun i hi => ?_)
    unfold asI asF
    by_cases q : σ 9 i = 0 ∧ hol σ i = g + 1 ∧ plc σ i = 1
    · rw [if_pos q, if_pos ⟨q.1, q.2.1, q.2.2, e⟩]
    · rw [if_neg q, if_neg (fun z => q ⟨z.1, z.2.1, z.2.2.1⟩)]
  · rw [if_neg e]
    have : ∀ n, catN (asI σ c g) n = [] := by
      intro n
      induction n with
      | zero => rfl
      | succ n ih =>
        simp only [catN]
        rw [ih]
        have e9 : asI σ c g n = [] := if_neg (fun z => e z.2.2.2)
        rw [e9]; rfl
    exact this _
theorem pF_bd {σ : Sg} (hI : Inv σ) (c g i : Nat) (hi : i ≤ σ 11 0) (hg : g ≤ 40) : (roL σ c 4 ++ catN (asM σ c) g ++ catN (asI σ c g) i).length ≤ 10000000 := by
  rw [List.length_append, List.length_append]
  have b5 := b5 hI
  have b11 := b11 hI
  have h1 : (roL σ c 4).length ≤ σ 5 0 * 62500 := catN_bd (fun k => by
    unfold roF
    split
    · exact ofH_bd hI _ 4 (Nat.le_refl _)
    · exact Nat.zero_le _) _
  have key : ∀ g n, (catN (asI σ c g) n).length ≤ n * 250 := fun g n => catN_bd (fun i => by
    unfold asI
    split
    · exact chain_le σ 250 _
    · exact Nat.zero_le _) n
  have h2 : (catN (asM σ c) g).length ≤ g * 62500 := catN_bd (fun g => Nat.le_trans (key g (σ 11 0)) (by omega)) g
  have h3 := key g i
  omega
