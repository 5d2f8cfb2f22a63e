section ZSPEC
/-! what the document says of moves, once for both sides -/
def exB (p : Nat → Bool) : Nat → Nat → Bool
  | 0, _ => false
  | n + 1, j => p j || exB p n (j + 1)
theorem exB_iff {p : Nat → Bool} : ∀ {n j : Nat}, exB p n j = true ↔ ∃ k, j ≤ k ∧ k < j + n ∧ p k = true
  | 0, j => ⟨fun e => absurd e (by simp [exB]), fun ⟨k, h1, h2, _⟩ => by omega⟩
  | n + 1, j => by
    show (p j || exB p n (j + 1)) = true ↔ _
    rw [Bool.or_eq_true, exB_iff]
    constructor
    · rintro (h | ⟨k, h1, h2, h3⟩)
      · exact ⟨j, by omega, by omega, h⟩
      · exact ⟨k, by omega, by omega, h3⟩
    · rintro ⟨k, h1, h2, h3⟩
      rcases Nat.lt_or_ge j k with g | g
      · exact Or.inr ⟨k, by omega, by omega, h3⟩
      · have e : k = j := by omega
        subst e
        exact Or.inl h3
theorem exB_congr {p q : Nat → Bool} : ∀ {n j : Nat}, (∀ k, j ≤ k → k < j + n → p k = q k) → exB p n j = exB q n j
  | 0, j, _ => rfl
  | n + 1, j, h => by
    show (p j || exB p n (j + 1)) = (q j || exB q n (j + 1))
    rw [h j (by omega) (by omega), exB_congr (fun k h1 h2 => h k (by omega) (by omega))]
def smN (p : Nat → Nat) : Nat → Nat → Nat
  | 0, _ => 0
  | n + 1, j => p j + smN p n (j + 1)
theorem smN_0 {p : Nat → Nat} : ∀ {n j : Nat}, (∀ k, j ≤ k → k < j + n → p k = 0) → smN p n j = 0
  | 0, j, _ => rfl
  | n + 1, j, h => by
    show p j + smN p n (j + 1) = 0
    rw [h j (by omega) (by omega), smN_0 (fun k h1 h2 => h k (by omega) (by omega))]
abbrev KT : Type := (Int → Int) × (Int → Int) × (Int → Int) × (Int → Int)
def sdOf (v : Int) : Int := if v = -1 then -1 else v % 2
def sdY (v y : Int) : Int := if v % 2 = 0 then y else -y
def mv (b : Int → Int) (f t : Int) : Int → Int := fun s => if s = f then -1 else if s = t then b f else b s
def ray (b : Int → Int) (t dx dy : Int) : Nat → Int → Int → Bool
  | 0, _, _ => false
  | n + 1, x, y => if 0 ≤ x ∧ x < 8 ∧ 0 ≤ y ∧ y < 8 then (if y * 8 + x = t then true else if b (y * 8 + x) = -1 then ray b t dx dy n (x + dx) (y + dy) else false) else false
def hitS (K : KT) (b : Int → Int) (f t : Int) (j : Nat) : Bool := ray b t (K.2.1 (b f / 2 * 8 + j)) (sdY (b f) (K.2.2.1 (b f / 2 * 8 + j))) (K.2.2.2 (b f / 2 * 8 + j)).toNat (f % 8 + K.2.1 (b f / 2 * 8 + j)) (f / 8 + sdY (b f) (K.2.2.1 (b f / 2 * 8 + j)))
def hit (K : KT) (b : Int → Int) (f t : Int) : Bool := decide (sdOf (b t) ≠ sdOf (b f)) && exB (hitS K b f t) (K.1 (b f / 2)).toNat 0
def chk (K : KT) (b : Int → Int) (sd : Int) : Bool := exB (fun f => decide (sdOf (b f) = 1 - sd) && exB (fun t => decide (b t = sd) && hit K b f t) 64 0) 64 0
def lgl (K : KT) (b : Int → Int) (f t : Int) : Bool := !chk K (mv b f t) (sdOf (b f))
def cnP (K : KT) (b : Int → Int) (f : Int) (t : Nat) : Nat := if (hit K b f t && lgl K b f t) = true then 1 else 0
def cnF (K : KT) (b : Int → Int) (sd : Int) (f : Nat) : Nat := if sdOf (b f) = sd then smN (cnP K b f) 64 0 else 0
def cnt (K : KT) (b : Int → Int) (sd : Int) : Nat := smN (cnF K b sd) 64 0
def sgn (K : KT) (b : Int → Int) (f t : Int) : Int := if chk K (mv b f t) (1 - sdOf (b f)) = true then (if 0 < cnt K (mv b f t) (1 - sdOf (b f)) then 43 else 35) else -1
/-- all is in range: n kinds, board b -/
abbrev gd (K : KT) (n : Int) (b : Int → Int) : Prop := (0 ≤ n ∧ n ≤ 6) ∧ (∀ s : Int, 0 ≤ s → s < 64 → -1 ≤ b s ∧ b s < 2 * n) ∧ (∀ i : Int, 0 ≤ i → i < 6 → 0 ≤ K.1 i ∧ K.1 i ≤ 8) ∧ (∀ i j : Int, 0 ≤ i → i < 6 → 0 ≤ j → j < K.1 i → (-3 ≤ K.2.1 (i * 8 + j) ∧ K.2.1 (i * 8 + j) ≤ 3) ∧ (-3 ≤ K.2.2.1 (i * 8 + j) ∧ K.2.2.1 (i * 8 + j) ≤ 3) ∧ 1 ≤ K.2.2.2 (i * 8 + j) ∧ K.2.2.2 (i * 8 + j) ≤ 7)
/-- the class's cells hold kinds K and board b -/
abbrev cSt (K : KT) (n : Int) (b : Int → Int) (h : HS) : Prop := h 1 5 = n ∧ (∀ s : Int, 0 ≤ s → s < 64 → h 8 s = b s) ∧ (∀ i : Int, 0 ≤ i → i < 6 → h 3 i = K.1 i) ∧ (∀ i j : Int, 0 ≤ i → i < 6 → 0 ≤ j → j < K.1 i → h 4 (i * 8 + j) = K.2.1 (i * 8 + j) ∧ h 5 (i * 8 + j) = K.2.2.1 (i * 8 + j) ∧ h 6 (i * 8 + j) = K.2.2.2 (i * 8 + j))
/-- the reference's cells hold kinds K, its cell a the board b -/
abbrev mSt (a : Nat) (K : KT) (b : Int → Int) (h : HS) : Prop := (∀ s : Int, 0 ≤ s → s < 64 → h a s = b s) ∧ (∀ i : Int, 0 ≤ i → i < 6 → h 32 i = K.1 i) ∧ (∀ i j : Int, 0 ≤ i → i < 6 → 0 ≤ j → j < K.1 i → h 33 (3 * (8 * i + j)) = K.2.1 (i * 8 + j) ∧ h 33 (3 * (8 * i + j) + 1) = K.2.2.1 (i * 8 + j) ∧ h 33 (3 * (8 * i + j) + 2) = K.2.2.2 (i * 8 + j))
theorem gd_mv {K : KT} {n : Int} {b : Int → Int} (g : gd K n b) {f t : Int} (hf : 0 ≤ f ∧ f < 64) : gd K n (mv b f t) := by
  refine ⟨g.1, fun s s0 s1 => ?_, g.2.2.1, g.2.2.2⟩
  obtain ⟨a1, a2⟩ := g.2.1 s s0 s1
  obtain ⟨c1, c2⟩ := g.2.1 f hf.1 hf.2
  have n0 := g.1
  unfold mv
  by_cases e : s = f
  · rw [if_pos e]; omega
  · rw [if_neg e]
    by_cases e2 : s = t
    · rw [if_pos e2]; omega
    · rw [if_neg e2]; omega
theorem sdOf_01 {v : Int} (h : 0 ≤ v) : sdOf v = v % 2 ∧ (sdOf v = 0 ∨ sdOf v = 1) := by
  unfold sdOf
  rw [if_neg (by omega)]
  omega
theorem sdOf_m : sdOf (-1) = -1 := rfl
end ZSPEC
