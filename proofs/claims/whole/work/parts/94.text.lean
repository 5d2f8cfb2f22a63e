section ZTEXT
/-! texts as lists of bytes; the short form of a move -/
def txt (n : Int) (a : Int → Int) (w : List Int) : Prop := n = (w.length : Int) ∧ ∀ i : Nat, i < w.length → w[i]? = some (a (i : Int))
theorem txt_nil {a : Int → Int} : txt 0 a [] := ⟨rfl, fun i hi => absurd hi (Nat.not_lt_zero i)⟩
theorem txt_app {n : Int} {a a2 : Int → Int} {w : List Int} {v : Int} (h : txt n a w) (e : ∀ i : Int, 0 ≤ i → i < n → a2 i = a i) (ev : a2 n = v) : txt (n + 1) a2 (w ++ [v]) := by
  refine ⟨by rw [List.length_append, h.1]; simp, fun i hi => ?_⟩
  rw [List.length_append] at hi
  simp only [List.length_singleton] at hi
  by_cases hw : i < w.length
  · rw [List.getElem?_append_left hw, h.2 i hw, e (i : Int) (by omega) (by rw [h.1]; omega)]
  · have ei : i = w.length := by omega
    rw [List.getElem?_append_right (by omega), ei, Nat.sub_self, ← h.1, ev]
    rfl
theorem txt_cg {n : Int} {a a2 : Int → Int} {w : List Int} (h : txt n a w) (e : ∀ i : Int, 0 ≤ i → i < n → a2 i = a i) : txt n a2 w := ⟨h.1, fun i hi => by rw [h.2 i hi, e (i : Int) (by omega) (by rw [h.1]; omega)]⟩
theorem txt_eq {n n2 : Int} {a a2 : Int → Int} {w : List Int} (h : txt n a w) (h2 : txt n2 a2 w) : n2 = n ∧ ∀ i : Int, 0 ≤ i → i < n → a2 i = a i := by
  refine ⟨by rw [h.1, h2.1], fun i i0 i1 => ?_⟩
  rw [h.1] at i1
  have e1 := h.2 i.toNat (by omega)
  have e2 := h2.2 i.toNat (by omega)
  rw [e1] at e2
  rw [Int.toNat_of_nonneg i0] at e2
  exact (Option.some.inj e2).symm
theorem txt_mem {n : Int} {a : Int → Int} {w : List Int} (h : txt n a w) {i : Int} (i0 : 0 ≤ i) (i1 : i < n) : a i ∈ w := by
  rw [h.1] at i1
  have e1 := h.2 i.toNat (by omega)
  rw [Int.toNat_of_nonneg i0] at e1
  exact List.mem_of_getElem? e1
def otP (K : KT) (b : Int → Int) (f t : Int) (s : Nat) : Bool := decide (¬ (s : Int) = f) && (decide (b s = b f) && (hit K b s t && lgl K b s t))
def otF (K : KT) (b : Int → Int) (f t : Int) (s : Nat) : Bool := otP K b f t s && decide ((s : Int) % 8 = f % 8)
def otR (K : KT) (b : Int → Int) (f t : Int) (s : Nat) : Bool := otP K b f t s && decide ((s : Int) / 8 = f / 8)
def org (o sf sr : Bool) (f : Int) : List Int := (if (o && (!sf || sr)) = true then [97 + f % 8] else []) ++ (if sf = true then [49 + f / 8] else [])
def tgt (K : KT) (b : Int → Int) (f t : Int) : List Int := [97 + t % 8, 49 + t / 8] ++ (if sgn K b f t = -1 then [] else [sgn K b f t])
def mvB (K : KT) (L : Int → Int) (b : Int → Int) (f t : Int) : List Int := [L (b f / 2)] ++ (org (exB (otP K b f t) 64 0) (exB (otF K b f t) 64 0) (exB (otR K b f t) 64 0) f ++ ((if b t = -1 then [] else [120]) ++ tgt K b f t))
theorem org_len {o sf sr : Bool} {f : Int} : (org o sf sr f).length ≤ 2 := by
  unfold org
  split <;> split <;> simp
theorem tgt_len {K : KT} {b : Int → Int} {f t : Int} : (tgt K b f t).length ≤ 3 := by
  unfold tgt
  split <;> simp
theorem mvB_len {K : KT} {L b : Int → Int} {f t : Int} : (mvB K L b f t).length ≤ 7 := by
  have h1 := org_len (o := exB (otP K b f t) 64 0) (sf := exB (otF K b f t) 64 0) (sr := exB (otR K b f t) 64 0) (f := f)
  have h2 := tgt_len (K := K) (b := b) (f := f) (t := t)
  unfold mvB
  rw [List.length_append, List.length_append, List.length_append]
  split
  · simp only [List.length_cons, List.length_nil]; omega
  · simp only [List.length_cons, List.length_nil]; omega
theorem sgn_v {K : KT} {b : Int → Int} {f t : Int} : sgn K b f t = -1 ∨ sgn K b f t = 43 ∨ sgn K b f t = 35 := by
  unfold sgn
  split
  · split
    · exact Or.inr (Or.inl rfl)
    · exact Or.inr (Or.inr rfl)
  · exact Or.inl rfl
theorem mvB_rg {K : KT} {L b : Int → Int} {f t : Int} (hL : 65 ≤ L (b f / 2) ∧ L (b f / 2) ≤ 90) (hf : 0 ≤ f ∧ f < 64) (ht : 0 ≤ t ∧ t < 64) : ∀ v ∈ mvB K L b f t, 35 ≤ v ∧ v ≤ 120 ∧ v ≠ 40 ∧ v ≠ 41 := by
  intro v hv
  have hs := sgn_v (K := K) (b := b) (f := f) (t := t)
  unfold mvB org tgt at hv
  rw [List.mem_append, List.mem_append, List.mem_append, List.mem_append, List.mem_append] at hv
  rcases hv with h | (h | h) | h | h | h
  · rw [List.mem_singleton] at h; omega
  · split at h
    · rw [List.mem_singleton] at h; omega
    · exact absurd h List.not_mem_nil
  · split at h
    · rw [List.mem_singleton] at h; omega
    · exact absurd h List.not_mem_nil
  · split at h
    · exact absurd h List.not_mem_nil
    · rw [List.mem_singleton] at h; omega
  · rcases List.mem_cons.mp h with h | h
    · omega
    · rw [List.mem_singleton] at h; omega
  · split at h
    · exact absurd h List.not_mem_nil
    · rw [List.mem_singleton] at h; omega
def b2i (x : Bool) : Int := if x = true then 1 else 0
theorem b2i_0 {x : Bool} : wr (b2i x) = 0 ↔ x = false := by cases x <;> decide
theorem zor_b {x y : Bool} : zor (b2i x) (b2i y) = b2i (x || y) := by cases x <;> cases y <;> decide
end ZTEXT
