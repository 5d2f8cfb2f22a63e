section ZSCAN
/-! words of a text -/
def wdB (h : HS) (p : Int) : Bool := decide ((0 ≤ p ∧ p < h 19 1) ∧ h 20 p ≠ 32 ∧ h 20 p ≠ 40 ∧ h 20 p ≠ 41)
theorem wdB_t {h : HS} {p : Int} : wdB h p = true ↔ (0 ≤ p ∧ p < h 19 1) ∧ h 20 p ≠ 32 ∧ h 20 p ≠ 40 ∧ h 20 p ≠ 41 := by
  unfold wdB
  rw [decide_eq_true_iff]
theorem wdB_f {h : HS} {p : Int} : wdB h p = false ↔ ¬ ((0 ≤ p ∧ p < h 19 1) ∧ h 20 p ≠ 32 ∧ h 20 p ≠ 40 ∧ h 20 p ≠ 41) := by
  unfold wdB
  rw [decide_eq_false_iff_not]
theorem cX3_word {h : HS} (w : PcT h) {p : Int} (hp : zr p) : fX3_isOfWord p h = some (if wdB h p = true then 1 else 0) := by
  have n := w.1
  unfold fX3_isOfWord fX3_get
  rw [wr_of hp.1 hp.2, wr_of (z := h 19 1) (by omega) (by omega)]
  by_cases q0 : p < 0
  · rw [if_pos q0, Option.bind_some, if_pos (show wr (-1) = -1 by decide), if_neg (fun k => by have := wdB_t.mp k; omega)]
  · rw [if_neg q0]
    by_cases q1 : h 19 1 ≤ p
    · rw [if_pos q1, Option.bind_some, if_pos (show wr (-1) = -1 by decide), if_neg (fun k => by have := wdB_t.mp k; omega)]
    · have b := w.2 p (by omega) (by omega)
      rw [if_neg q1, if_pos (by omega), Option.bind_some, wr_of (z := h 20 p) (by omega) (by omega), if_neg (by omega)]
      by_cases q2 : h 20 p = 32
      · rw [if_pos q2, if_neg (fun k => (wdB_t.mp k).2.1 q2)]
      · rw [if_neg q2]
        by_cases q3 : h 20 p = 40
        · rw [if_pos q3, if_neg (fun k => (wdB_t.mp k).2.2.1 q3)]
        · rw [if_neg q3]
          by_cases q4 : h 20 p = 41
          · rw [if_pos q4, if_neg (fun k => (wdB_t.mp k).2.2.2 q4)]
          · rw [if_neg q4, if_pos (wdB_t.mpr ⟨by omega, q2, q3, q4⟩)]
theorem cX3_start {h : HS} (w : PcT h) {p : Int} (hp : 0 ≤ p ∧ p ≤ 2000) : fX3_isWordStart p h = some (if wdB h p = true ∧ wdB h (p - 1) = false then 1 else 0) := by
  unfold fX3_isWordStart
  rw [cX3_word w (by unfold zr; omega), cX3_word w (by unfold zr; omega), Option.bind_some]
  by_cases q : wdB h p = true
  · rw [if_pos q, if_neg (show ¬ wr 1 = 0 by decide), Option.bind_some]
    by_cases q2 : wdB h (p - 1) = true
    · rw [if_pos q2, if_neg (show ¬ wr 1 = 0 by decide), if_neg (fun k => by rw [k.2] at q2; exact absurd q2 (by decide))]
    · rw [if_neg q2, if_pos wr_0, if_pos ⟨q, Bool.eq_false_iff.mpr q2⟩]
  · rw [if_neg q, if_pos wr_0, if_neg (fun k => q k.1)]
def weN (h : HS) : Nat → Int → Int
  | 0, p => p
  | m + 1, p => if wdB h p = true then weN h m (p + 1) else p
theorem weN_rg {h : HS} : ∀ {m : Nat} {p : Int}, p ≤ weN h m p ∧ weN h m p ≤ p + m ∧ (∀ i : Int, p ≤ i → i < weN h m p → wdB h i = true)
  | 0, p => ⟨Int.le_refl _, by show p ≤ p + 0; omega, fun i i0 i1 => by have : i < p := i1; omega⟩
  | m + 1, p => by
    unfold weN
    by_cases q : wdB h p = true
    · rw [if_pos q]
      obtain ⟨a, b, c⟩ := @weN_rg h m (p + 1)
      refine ⟨by omega, by omega, fun i i0 i1 => ?_⟩
      rcases (show i = p ∨ p + 1 ≤ i by omega) with k | k
      · rw [k]; exact q
      · exact c i k i1
    · rw [if_neg q]
      exact ⟨Int.le_refl _, by omega, fun i i0 i1 => by omega⟩
theorem weN_end {h : HS} : ∀ {m : Nat} {p : Int}, h 19 1 ≤ p + m → wdB h (weN h m p) = false
  | 0, p, e => wdB_f.mpr (fun k => by
    have e2 : h 19 1 ≤ p := by omega
    have k2 : p < h 19 1 := k.1.2
    omega)
  | m + 1, p, e => by
    unfold weN
    by_cases q : wdB h p = true
    · rw [if_pos q]
      exact weN_end (by omega)
    · rw [if_neg q]
      exact Bool.eq_false_iff.mpr q
theorem cX3_end {h : HS} (w : PcT h) : ∀ (nf m : Nat) (p : Int), 0 ≤ p → p + m = h 19 1 → m < nf → fX3_wordEnd_L2 nf p h = some (weN h m p)
  | 0, m, p, p0, e, hnf => by omega
  | nf + 1, m, p, p0, e, hnf => by
    have n := w.1
    rw [fX3_wordEnd_L2]
    rw [wr_of (z := h 19 1) (by omega) (by omega), wr_of (z := p) (by omega) (by omega), cX3_word w (by unfold zr; omega), Option.bind_some]
    cases m with
    | zero =>
      rw [if_pos (by omega)]
      rfl
    | succ m =>
      rw [if_neg (by omega)]
      show _ = some (if wdB h p = true then weN h m (p + 1) else p)
      by_cases q : wdB h p = true
      · rw [if_pos q, if_neg (show ¬ wr 1 = 0 by decide), if_pos q]
        exact cX3_end w nf m (p + 1) (by omega) (by omega) (by omega)
      · rw [if_neg q, if_pos wr_0, if_neg q]
theorem mX6_word {V g : HS} (w : Psi V) (e : zqm g V) {p : Int} (hp : 0 ≤ p ∧ p ≤ 2000) : fX6_isWord p g = some (if wdB V p = true then 1 else 0) := by
  have n := w.T.n
  unfold fX6_isWord
  rw [e.c30 (b := 13) (by decide), w.T.n2, e.c (a := 39) (by decide), wr_of (z := V 19 1) (by omega) (by omega), wr_of (z := p) (by omega) (by omega)]
  by_cases q1 : V 19 1 ≤ p
  · rw [if_pos q1, if_neg (fun k => by have := wdB_t.mp k; omega)]
  · obtain ⟨b1, b2, b3⟩ := w.T.by_ p hp.1 (by omega)
    have hp2 : 0 ≤ p ∧ p < 2000 := by omega
    rw [if_neg q1, if_pos hp2, b1, wr_of (z := V 20 p) (by omega) (by omega)]
    simp only [if_pos hp2]
    by_cases q2 : V 20 p = 32
    · rw [if_pos q2, if_neg (fun k => (wdB_t.mp k).2.1 q2)]
    · rw [if_neg q2]
      by_cases q3 : V 20 p = 40
      · rw [if_pos q3, if_neg (fun k => (wdB_t.mp k).2.2.1 q3)]
      · rw [if_neg q3]
        by_cases q4 : V 20 p = 41
        · rw [if_pos q4, if_neg (fun k => (wdB_t.mp k).2.2.2 q4)]
        · rw [if_neg q4, if_pos (wdB_t.mpr ⟨by omega, q2, q3, q4⟩)]
/-! the class's cells of one state, the reference's of another -/
def mg (C G : HS) : HS := fun a => if a < 30 then C a else G a
theorem mg_l {C G : HS} {a : Nat} (ha : a < 30) : mg C G a = C a := by
  unfold mg
  rw [if_pos ha]
theorem mg_r {C G : HS} {a : Nat} (ha : 30 ≤ a) : mg C G a = G a := by
  unfold mg
  rw [if_neg (by omega)]
theorem mg_qm {C G : HS} : zqm G (mg C G) := fun a b ha _ => by rw [mg_r ha]
theorem mg_qc {C G : HS} (e : C 34 = G 34) : zqc C (mg C G) := fun a b ha _ => by
  rcases ha with ha | ha
  · rw [mg_l ha]
  · subst ha
    rw [mg_r (by decide), e]
theorem knF_cg {o h : HS} (e11 : o 11 = h 11) (e12 : o 12 = h 12) (e16 : o 16 = h 16) (e17 : o 17 = h 17) {i f t : Int} : ∀ (m k : Nat), knF o i f t m k = knF h i f t m k
  | 0, k => rfl
  | m + 1, k => by
    unfold knF
    rw [kid_cg (fun i => by rw [e16]) (fun i => by rw [e17]), e11, e12, knF_cg e11 e12 e16 e17 m (k + 1)]
theorem knV_qc {o h : HS} (e : zqc o h) {f t : Int} : knV o f t = knV h f t := by
  unfold knV
  rw [e.c0 (b := 8) (by decide), e.c (a := 15) (by decide)]
  exact knF_cg (e.c (by decide)) (e.c (by decide)) (e.c (by decide)) (e.c (by decide)) _ _
theorem grA_qc {o h : HS} (e : zqc o h) {f t : Int} : zqc (grA f t o) (grA f t h) := fun a b ha hn => by
  have e0 := e.c0 (b := 8) (by decide)
  have e9 : o 9 = h 9 := e.c (by decide)
  have ek : ∀ i j, kid o i j = kid h i j := fun i j => kid_cg (fun i => by rw [e.c (a := 16) (by decide)]) (fun i => by rw [e.c (a := 17) (by decide)]) i j
  unfold grA
  rw [e0, e9, ek, e.c (a := 10) (by decide), e.c (a := 11) (by decide), e.c (a := 12) (by decide), e.c (a := 13) (by decide), e.c (a := 14) (by decide), e.c (a := 15) (by decide), e.c (a := 16) (by decide), e.c (a := 17) (by decide), e.c (a := 8) (by decide)]
  by_cases h1 : a = 9
  · rw [if_pos h1, if_pos h1]
  rw [if_neg h1, if_neg h1]
  by_cases h2 : a = 10
  · rw [if_pos h2, if_pos h2]
  rw [if_neg h2, if_neg h2]
  by_cases h3 : a = 11
  · rw [if_pos h3, if_pos h3]
  rw [if_neg h3, if_neg h3]
  by_cases h4 : a = 12
  · rw [if_pos h4, if_pos h4]
  rw [if_neg h4, if_neg h4]
  by_cases h5 : a = 13
  · rw [if_pos h5, if_pos h5]
  rw [if_neg h5, if_neg h5]
  by_cases h6 : a = 14
  · rw [if_pos h6, if_pos h6]
  rw [if_neg h6, if_neg h6]
  by_cases h7 : a = 15
  · rw [if_pos h7, if_pos h7]
  rw [if_neg h7, if_neg h7]
  by_cases h8 : a = 16
  · rw [if_pos h8, if_pos h8]
  rw [if_neg h8, if_neg h8]
  by_cases h9 : a = 17
  · rw [if_pos h9, if_pos h9]
  rw [if_neg h9, if_neg h9, if_neg (show ¬ a = 30 by omega), if_neg (show ¬ a = 30 by omega), if_neg (show ¬ a = 37 by omega), if_neg (show ¬ a = 37 by omega), if_neg (show ¬ a = 38 by omega), if_neg (show ¬ a = 38 by omega)]
  exact e a b ha hn
theorem folT_qc {o h : HS} (e : zqc o h) {f t : Int} : zqc (folT f t o) (folT f t h) ∧ folP f t o = folP f t h := by
  unfold folT folP
  rw [knV_qc e]
  by_cases q : knV h f t = -1
  · rw [if_pos q, if_pos q, if_pos q, if_pos q, e.c (a := 9) (by decide)]
    exact ⟨grA_qc e, rfl⟩
  · rw [if_neg q, if_neg q, if_neg q, if_neg q]
    exact ⟨e, rfl⟩
theorem mC_qc {X T T2 h : HS} {p : Int} (x : mC X T p h) (e : zqc T T2) : mC X T2 p h := ⟨fun a b ha hn hm => by rw [x.1 a b ha hn hm, e a b (Or.inl ha) hn], x.2.1, fun s s0 s1 => by rw [x.2.2.1 s s0 s1, bd_qc e], x.2.2.2⟩
end ZSCAN
