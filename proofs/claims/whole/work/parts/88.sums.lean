section ZSUMS
/-! sums -/
def sg (p : Nat → Nat) : Nat → Nat
  | 0 => 0
  | n + 1 => sg p n + p n
theorem sg_cg {p q : Nat → Nat} : ∀ {n : Nat}, (∀ i, i < n → p i = q i) → sg p n = sg q n
  | 0, _ => rfl
  | n + 1, h => by
    show sg p n + p n = sg q n + q n
    rw [sg_cg (fun i hi => h i (by omega)), h n (by omega)]
theorem sg_add {p q : Nat → Nat} : ∀ n : Nat, sg (fun i => p i + q i) n = sg p n + sg q n
  | 0 => rfl
  | n + 1 => by
    show sg _ n + (p n + q n) = sg p n + p n + (sg q n + q n)
    rw [sg_add n]
    omega
theorem sg_0 {p : Nat → Nat} {n : Nat} (h : ∀ i, i < n → p i = 0) : sg p n = 0 := by
  induction n with
  | zero => rfl
  | succ n ih =>
    show sg p n + p n = 0
    rw [ih (fun i hi => h i (by omega)), h n (by omega)]
theorem sg_swap {f : Nat → Nat → Nat} {m : Nat} : ∀ n : Nat, sg (fun i => sg (f i) m) n = sg (fun j => sg (fun i => f i j) n) m
  | 0 => (sg_0 (fun i _ => rfl)).symm
  | n + 1 => by
    show sg (fun i => sg (f i) m) n + sg (f n) m = _
    rw [sg_swap n, ← sg_add]
    rfl
theorem sg_uq {p : Nat → Nat} {n a : Nat} (ha : a < n) (h1 : p a = 1) (h0 : ∀ i, i < n → i ≠ a → p i = 0) : sg p n = 1 := by
  induction n with
  | zero => omega
  | succ n ih =>
    show sg p n + p n = 1
    by_cases e : a = n
    · subst e
      rw [sg_0 (fun i hi => h0 i (by omega) (by omega)), h1]
    · rw [ih (by omega) (fun i hi hn => h0 i (by omega) hn), h0 n (by omega) (fun k => e k.symm)]
theorem sg_1 {p : Nat → Nat} {n : Nat} (h : ∀ i, i < n → p i = 1) : sg p n = n := by
  induction n with
  | zero => rfl
  | succ n ih =>
    show sg p n + p n = n + 1
    rw [ih (fun i hi => h i (by omega)), h n (by omega)]
theorem sg_le {p : Nat → Nat} {n : Nat} (h : ∀ i, i < n → p i ≤ 1) : sg p n ≤ n := by
  induction n with
  | zero => exact Nat.le_refl _
  | succ n ih =>
    show sg p n + p n ≤ n + 1
    have := ih (fun i hi => h i (by omega))
    have := h n (by omega)
    omega
/-! each node but 0 is the child of one node -/
def chC (h : HS) (i : Nat) : Nat := (h 15 i).toNat
theorem kid_uq {h : HS} (w : Psi h) {i : Nat} (hi : (i : Int) < h 9 8) {p : Nat} (hp : (p : Int) < h 9 8) : sg (fun k => if kid h i k = (p : Int) then 1 else 0) (chC h i) = if 1 ≤ p ∧ h 10 p = (i : Int) then 1 else 0 := by
  have c0 := (w.R.g (i : Int) (by omega) hi).2.2.2.2
  unfold chC
  by_cases h1 : 1 ≤ p ∧ h 10 p = (i : Int)
  · obtain ⟨a1, j, a2, a3⟩ := w.A (p : Int) (by omega) hp
    rw [h1.2] at a2 a3
    rw [if_pos h1]
    refine sg_uq (a := j) (by omega) (by rw [if_pos a3]) (fun k hk hn => ?_)
    rw [if_neg]
    exact fun e => hn (w.C.d (i : Int) (by omega) hi k j (by omega) a2 (by rw [e, a3]))
  · rw [if_neg h1]
    refine sg_0 (fun k hk => ?_)
    rw [if_neg]
    intro e
    obtain ⟨b1, b2, b3⟩ := w.C.c (i : Int) (by omega) hi k (by omega)
    rw [e] at b1 b3
    exact h1 ⟨by omega, b3⟩
theorem chC_sum {h : HS} (w : Psi h) {i : Nat} (hi : (i : Int) < h 9 8) : sg (fun p => if 1 ≤ p ∧ h 10 (p : Int) = (i : Int) then 1 else 0) (h 9 8).toNat = chC h i := by
  have c0 := (w.R.g (i : Int) (by omega) hi).2.2.2.2
  rw [sg_cg (q := fun p => sg (fun k => if kid h i k = (p : Int) then 1 else 0) (chC h i)) (fun p hp => (kid_uq w hi (by omega)).symm), sg_swap]
  refine sg_1 (fun k hk => ?_)
  unfold chC at hk
  obtain ⟨b1, b2, b3⟩ := w.C.c (i : Int) (by omega) hi k (by omega)
  refine sg_uq (a := (kid h i k).toNat) (by omega) (by rw [if_pos (by omega)]) (fun p hp hn => by rw [if_neg (by omega)])
theorem all_kids {h : HS} (w : Psi h) : sg (chC h) (h 9 8).toNat = (h 9 8).toNat - 1 := by
  have n := w.R.n
  rw [sg_cg (q := fun i : Nat => sg (fun p : Nat => if 1 ≤ p ∧ h 10 (p : Int) = (i : Int) then 1 else 0) (h 9 8).toNat) (fun i hi => (chC_sum w (by omega)).symm), sg_swap]
  rw [sg_cg (q := fun p : Nat => if 1 ≤ p then 1 else 0) (fun p hp => ?_)]
  · obtain ⟨m, hm⟩ : ∃ m, (h 9 8).toNat = m + 1 := ⟨(h 9 8).toNat - 1, by omega⟩
    rw [hm]
    have key : ∀ m : Nat, sg (fun p : Nat => if 1 ≤ p then 1 else 0) (m + 1) = m := fun m => by
      induction m with
      | zero => rfl
      | succ m ih =>
        show sg _ (m + 1) + (if 1 ≤ m + 1 then 1 else 0) = m + 1
        rw [ih, if_pos (by omega)]
    rw [key]
    omega
  · by_cases h1 : 1 ≤ p
    · obtain ⟨a1, j, a2, a3⟩ := w.A (p : Int) (by omega) (by omega)
      rw [if_pos h1]
      refine sg_uq (a := (h 10 (p : Int)).toNat) (by omega) (by rw [if_pos ⟨h1, by omega⟩]) (fun i hi hn => by rw [if_neg (by omega)])
    · rw [if_neg h1]
      exact sg_0 (fun i hi => by rw [if_neg (fun e => h1 e.1)])
/-! branching -/
def par (h : HS) (i : Nat) : Nat := if 0 < chC h i then 1 else 0
theorem par_le {h : HS} (j : Nat) : sg (par h) j ≤ j := sg_le (fun i _ => by unfold par; split <;> omega)
theorem brC {h : HS} (w : Psi h) : ∀ (nf j : Nat), (j : Int) ≤ h 9 8 → (h 9 8).toNat - j < nf → fX5_branching_L4 nf ((sg (par h) j : Nat) : Int) (j : Int) h = some (if sg (par h) (h 9 8).toNat = 0 then (0, 0, 0) else (1, h 9 8 - 1, ((sg (par h) (h 9 8).toNat : Nat) : Int)))
  | 0, j, h1, h2 => by omega
  | nf + 1, j, h1, h2 => by
    have n := w.R.n
    have pj := par_le (h := h) j
    rw [fX5_branching_L4]
    unfold fX5_branching_b29 fX4_size
    rw [Option.bind_some, Option.bind_some, wr_of (z := h 9 8) (by omega) (by omega), wr_of (z := (j : Int)) (by omega) (by omega), wr_of (z := ((sg (par h) j : Nat) : Int)) (by omega) (by omega)]
    by_cases hj : h 9 8 ≤ (j : Int)
    · have e : (h 9 8).toNat = j := by omega
      rw [if_pos hj, e]
      by_cases h0 : sg (par h) j = 0
      · rw [if_pos (by omega), if_pos h0]
      · rw [if_neg (by omega), if_neg h0]
    · have c0 := (w.R.g (j : Int) (by omega) (by omega)).2.2.2.2
      have ih := brC w nf (j + 1) (by omega) (by omega)
      have es : sg (par h) (j + 1) = sg (par h) j + par h j := rfl
      rw [es] at ih
      unfold par chC at ih
      rw [if_neg hj, pX4_count w.R ⟨by omega, by omega⟩, Option.bind_some, wr_of (z := h 15 (j : Int)) (by omega) (by omega)]
      by_cases hc : h 15 (j : Int) ≤ 0
      · rw [if_pos hc]
        rw [if_neg (by omega), Nat.add_zero] at ih
        rw [show (j : Int) + 1 = ((j + 1 : Nat) : Int) by omega]
        exact ih
      · rw [if_neg hc]
        rw [if_pos (by omega), Int.natCast_add] at ih
        rw [show (j : Int) + 1 = ((j + 1 : Nat) : Int) by omega]
        exact ih
theorem brM {h g : HS} (w : Psi h) (e8 : g 30 8 = h 9 8) (e37 : g 37 = h 37) : ∀ (nf j : Nat), (j : Int) ≤ h 9 8 → (h 9 8).toNat - j < nf → fX6_branching_L11 nf ((sg (chC h) j : Nat) : Int) ((sg (par h) j : Nat) : Int) (j : Int) g = some (if sg (par h) (h 9 8).toNat = 0 then (0, 0, 0) else (1, ((sg (chC h) (h 9 8).toNat : Nat) : Int), ((sg (par h) (h 9 8).toNat : Nat) : Int)), g)
  | 0, j, h1, h2 => by omega
  | nf + 1, j, h1, h2 => by
    have n := w.R.n
    have pj := par_le (h := h) j
    rw [fX6_branching_L11]
    unfold fX6_branching_b43
    rw [e8, wr_of (z := h 9 8) (by omega) (by omega), wr_of (z := (j : Int)) (by omega) (by omega), wr_of (z := ((sg (par h) j : Nat) : Int)) (by omega) (by omega)]
    by_cases hj : h 9 8 ≤ (j : Int)
    · have e : (h 9 8).toNat = j := by omega
      rw [if_pos hj, e]
      by_cases h0 : sg (par h) j = 0
      · rw [if_pos (by omega), if_pos h0]
      · rw [if_neg (by omega), if_neg h0]
    · have c0 := (w.R.g (j : Int) (by omega) (by omega)).2.2.2.2
      have ih := brM w e8 e37 nf (j + 1) (by omega) (by omega)
      have es : sg (par h) (j + 1) = sg (par h) j + par h j := rfl
      have ec : sg (chC h) (j + 1) = sg (chC h) j + chC h j := rfl
      have ek : ((chC h j : Nat) : Int) = h 15 (j : Int) := by unfold chC; omega
      rw [es, ec, Int.natCast_add (sg (chC h) j), ek] at ih
      have ep : par h j = if 0 < h 15 (j : Int) then 1 else 0 := by
        unfold par chC
        by_cases hc : 0 < h 15 (j : Int)
        · rw [if_pos hc, if_pos (by omega)]
        · rw [if_neg hc, if_neg (by omega)]
      rw [ep] at ih
      rw [if_neg hj, (pX6_get w e37 (q := (j : Int)) ⟨by omega, by omega⟩).2.2.2.2, Option.bind_some, Option.bind_some, wr_of (z := h 15 (j : Int)) (by omega) (by omega), show (j : Int) + 1 = ((j + 1 : Nat) : Int) by omega]
      by_cases hc : h 15 (j : Int) ≤ 0
      · rw [if_pos hc]
        rw [if_neg (by omega), Nat.add_zero] at ih
        rw [Int.add_zero]
        exact ih
      · rw [if_neg hc]
        rw [if_pos (by omega), Int.natCast_add] at ih
        exact ih
theorem qc_20 {h : HS} (w : Psi h) : ∃ o, fL_c20 h = some o ∧ Psi o := by
  have n := w.R.n
  have e1 := brC w zF 0 (by omega) (by unfold zF; omega)
  have e2 := brM w (g := hs h 30 0 0) (by rw [hs_at, if_pos rfl, if_neg (by decide), w.R.n2]) (by rw [hs_ne _ _ _ (by decide)]) zF 0 (by omega) (by unfold zF; omega)
  rw [all_kids w, show (((h 9 8).toNat - 1 : Nat) : Int) = h 9 8 - 1 by omega] at e2
  have f1 : fX5_branching h = _ := e1
  have f2 : fX6_branching h = _ := e2
  unfold fL_c20
  rw [f1, Option.bind_some, f2, Option.bind_some]
  exact ⟨_, if_pos ⟨rfl, rfl, rfl⟩, w.sq (zsq.rf.h30 0)⟩
end ZSUMS
