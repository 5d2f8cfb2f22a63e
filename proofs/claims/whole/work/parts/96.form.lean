section ZFORM
/-! short forms: the reference's sixteen rows against the class's states -/
def frm (i : Nat) : List Nat := [[0, 1], [0, 0, 1], [1, 0, 1], [0, 1, 0, 1], [2, 0, 1], [0, 2, 0, 1], [1, 2, 0, 1], [0, 1, 2, 0, 1], [0, 1, 3], [0, 0, 1, 3], [1, 0, 1, 3], [0, 1, 0, 1, 3], [2, 0, 1, 3], [0, 2, 0, 1, 3], [1, 2, 0, 1, 3], [0, 1, 2, 0, 1, 3]].getD i []
def cls (v : Int) : Nat := if 97 ≤ v ∧ v ≤ 104 then 0 else if 49 ≤ v ∧ v ≤ 56 then 1 else if v = 120 then 2 else if v = 43 ∨ v = 35 then 3 else 4
theorem cls_lt (v : Int) : cls v < 5 := by
  unfold cls
  split
  · omega
  · split
    · omega
    · split
      · omega
      · split <;> omega
def fitN : List Nat → List Nat → Nat
  | f :: F, c :: C => if f = c then fitN F C + 1 else 0
  | [], _ => 0
  | _ :: _, [] => 0
theorem fitN_nil {C : List Nat} : fitN [] C = 0 := by cases C <;> rfl
theorem fitN_end {F : List Nat} : fitN F [] = 0 := by cases F <;> rfl
theorem fitN_ext : ∀ {F v C : List Nat}, fitN F v < v.length → fitN F (v ++ C) = fitN F v
  | [], v, C, _ => by rw [fitN_nil, fitN_nil]
  | f :: F, [], C, h => absurd h (by simp)
  | f :: F, c :: v, C, h => by
    show (if f = c then fitN F (v ++ C) + 1 else 0) = if f = c then fitN F v + 1 else 0
    by_cases e : f = c
    · rw [if_pos e, if_pos e, fitN_ext]
      have h2 : (if f = c then fitN F v + 1 else 0) < v.length + 1 := h
      rw [if_pos e] at h2
      omega
    · rw [if_neg e, if_neg e]
def gF (cl : List Nat) : Nat → Nat → Int → Nat → Int × Nat
  | 0, _, fo, mx => (fo, mx)
  | n + 1, k, fo, mx => gF cl n (k + 1) (if fitN (frm k) cl = (frm k).length ∧ (frm k).length = cl.length then (k : Int) else fo) (max mx (fitN (frm k) cl))
def rsF (cl : List Nat) : Int × Nat := gF cl 16 0 (-1) 0
theorem gF_ext {v C : List Nat} : ∀ (n k : Nat) (fo : Int) (mx : Nat), (∀ i, k ≤ i → i < k + n → fitN (frm i) v < v.length) → gF (v ++ C) n k fo mx = gF v n k fo mx
  | 0, k, fo, mx, h => rfl
  | n + 1, k, fo, mx, h => by
    have h0 := h k (Nat.le_refl _) (by omega)
    show gF (v ++ C) n (k + 1) _ _ = gF v n (k + 1) _ _
    rw [fitN_ext h0, if_neg (by rw [List.length_append]; omega), if_neg (by omega)]
    exact gF_ext n (k + 1) _ _ (fun i h1 h2 => h i (by omega) (by omega))
def dl (st c : Nat) : Nat :=
  if st = 1 then (if c = 0 then 2 else if c = 1 then 3 else if c = 2 then 5 else 0)
  else if st = 2 then (if c = 1 then 4 else if c = 0 then 6 else if c = 2 then 5 else 0)
  else if st = 3 then (if c = 0 then 6 else if c = 2 then 5 else 0)
  else if st = 4 then (if c = 3 then 8 else if c = 0 then 6 else if c = 2 then 5 else 0)
  else if st = 5 then (if c = 0 then 6 else 0)
  else if st = 6 then (if c = 1 then 7 else 0)
  else if st = 7 then (if c = 3 then 8 else 0)
  else 0
abbrev okS (st : Nat) : Prop := st = 4 ∨ st = 7 ∨ st = 8
def dr : Nat → List Nat → Int → Option Int
  | st, [], p => if okS st then none else some p
  | st, c :: C, p => if dl st c = 0 then some p else dr (dl st c) C (p + 1)
theorem dr_add : ∀ (C : List Nat) (st : Nat) (p q : Int), dr st C (p + q) = (dr st C p).map (fun x => x + q)
  | [], st, p, q => by
    show (if okS st then none else some (p + q)) = (if okS st then none else some p).map _
    by_cases h : okS st
    · rw [if_pos h, if_pos h]; rfl
    · rw [if_neg h, if_neg h]; rfl
  | c :: C, st, p, q => by
    show (if dl st c = 0 then some (p + q) else dr (dl st c) C (p + q + 1)) = (if dl st c = 0 then some p else dr (dl st c) C (p + 1)).map _
    by_cases h : dl st c = 0
    · rw [if_pos h, if_pos h]; rfl
    · rw [if_neg h, if_neg h, ← dr_add C _ (p + 1) q, show p + q + 1 = p + 1 + q by omega]
def chkE (w : List Nat) (st : Nat) : Bool := if okS st then decide (0 ≤ (rsF w).1 ∧ (rsF w).1 < 16 ∧ frm (rsF w).1.toNat = w) else decide (rsF w = (-1, w.length))
def chkD (w : List Nat) (c : Nat) : Bool := decide (rsF (w ++ [c]) = (-1, w.length)) && decide (∀ i : Fin 16, fitN (frm i.val) (w ++ [c]) < (w ++ [c]).length)
def chkT : Nat → List Nat → Nat → Bool
  | 0, _, _ => false
  | n + 1, w, st => chkE w st && decide (∀ c : Fin 5, (if dl st c.val = 0 then chkD w c.val else chkT n (w ++ [c.val]) (dl st c.val)) = true)
theorem chkT_all : chkT 8 [] 1 = true := by decide +kernel
theorem chkT_use : ∀ (n : Nat) (w : List Nat) (st : Nat), chkT n w st = true → ∀ C : List Nat, (∀ c ∈ C, c < 5) → (dr st C w.length = none → 0 ≤ (rsF (w ++ C)).1 ∧ (rsF (w ++ C)).1 < 16 ∧ frm (rsF (w ++ C)).1.toNat = w ++ C) ∧ (∀ i : Int, dr st C w.length = some i → (rsF (w ++ C)).1 = -1 ∧ ((rsF (w ++ C)).2 : Int) = i)
  | 0, w, st, h, C, hC => absurd h (by simp [chkT])
  | n + 1, w, st, h, [], hC => by
    have h1 : chkE w st = true := by
      unfold chkT at h
      rw [Bool.and_eq_true] at h
      exact h.1
    unfold chkE at h1
    rw [List.append_nil]
    show ((if okS st then none else some (w.length : Int)) = none → _) ∧ ∀ i, (if okS st then none else some (w.length : Int)) = some i → _
    by_cases ho : okS st
    · rw [if_pos ho] at h1 ⊢
      exact ⟨fun _ => of_decide_eq_true h1, fun i e => absurd e (by simp)⟩
    · rw [if_neg ho] at h1 ⊢
      have e := of_decide_eq_true h1
      refine ⟨fun k => absurd k (by simp), fun i k => ?_⟩
      rw [e]
      exact ⟨rfl, Option.some.inj k⟩
  | n + 1, w, st, h, c :: C, hC => by
    have h1 : ∀ c : Fin 5, (if dl st c.val = 0 then chkD w c.val else chkT n (w ++ [c.val]) (dl st c.val)) = true := by
      unfold chkT at h
      rw [Bool.and_eq_true] at h
      exact of_decide_eq_true h.2
    have h2 := h1 ⟨c, hC c (List.mem_cons_self)⟩
    dsimp only at h2
    show ((if dl st c = 0 then some (w.length : Int) else dr (dl st c) C ((w.length : Int) + 1)) = none → _) ∧ ∀ i, (if dl st c = 0 then some (w.length : Int) else dr (dl st c) C ((w.length : Int) + 1)) = some i → _
    by_cases hd : dl st c = 0
    · rw [if_pos hd] at h2 ⊢
      unfold chkD at h2
      rw [Bool.and_eq_true] at h2
      have e1 := of_decide_eq_true h2.1
      have e2 := of_decide_eq_true h2.2
      have e3 : rsF (w ++ c :: C) = rsF (w ++ [c]) := by
        have := gF_ext (v := w ++ [c]) (C := C) 16 0 (-1) 0 (fun i _ hi => e2 ⟨i, by omega⟩)
        rw [List.append_assoc] at this
        exact this
      refine ⟨fun k => absurd k (by simp), fun i k => ?_⟩
      rw [e3, e1]
      exact ⟨rfl, Option.some.inj k⟩
    · rw [if_neg hd] at h2 ⊢
      have ih := chkT_use n (w ++ [c]) (dl st c) h2 C (fun x hx => hC x (List.mem_cons_of_mem _ hx))
      rw [List.append_assoc, List.length_append] at ih
      simp only [List.length_cons, List.length_nil, Int.natCast_add] at ih
      exact ih
theorem form_ok {C : List Nat} (hC : ∀ c ∈ C, c < 5) (h : dr 1 C 0 = none) : 0 ≤ (rsF C).1 ∧ (rsF C).1 < 16 ∧ frm (rsF C).1.toNat = C := by
  have e := (chkT_use 8 [] 1 chkT_all C hC).1
  rw [List.nil_append] at e
  exact e h
theorem form_bad {C : List Nat} (hC : ∀ c ∈ C, c < 5) {i : Int} (h : dr 1 C 0 = some i) : (rsF C).1 = -1 ∧ ((rsF C).2 : Int) = i := by
  have e := (chkT_use 8 [] 1 chkT_all C hC).2 i
  rw [List.nil_append] at e
  exact e h
/-! the reference's strings -/
def cd (c : Nat) : Int := if c = 0 then 102 else if c = 1 then 114 else if c = 2 then 120 else 115
theorem cat_z : ∀ k : Fin 16, ∀ j : Fin 6, j.val < (frm k.val).length → fJ0_charAt_5068e k.val (j.val : Int) z0 = some (cd ((frm k.val).getD j.val 9)) := by decide +kernel
theorem cat_h {i : Nat} {p : Int} {h : HS} : fJ0_charAt_5068e i p h = fJ0_charAt_5068e i p z0 := rfl
theorem len_z : ∀ k : Fin 16, fJ0_length_8abf5 k.val z0 = some ((frm k.val).length : Int) := by decide +kernel
theorem len_h {i : Nat} {h : HS} : fJ0_length_8abf5 i h = fJ0_length_8abf5 i z0 := rfl
theorem l18_h {h : HS} : ∀ (nf i : Nat) (x y : Int), fJ1_lastIndexOf_7d655_L18 nf i x y h = fJ1_lastIndexOf_7d655_L18 nf i x y z0
  | 0, i, x, y => rfl
  | nf + 1, i, x, y => by
    rw [fJ1_lastIndexOf_7d655_L18, fJ1_lastIndexOf_7d655_L18, l18_h nf]
theorem l7_h {h : HS} : ∀ (nf i : Nat) (x y z : Int), fJ1_indexOfChar_4cfef_L7 nf i x y z h = fJ1_indexOfChar_4cfef_L7 nf i x y z z0
  | 0, i, x, y, z => rfl
  | nf + 1, i, x, y, z => by
    rw [fJ1_indexOfChar_4cfef_L7, fJ1_indexOfChar_4cfef_L7, l7_h nf]
theorem lix_h {i : Nat} {c : Int} {h : HS} : fJ0_lastIndexOf_0f7a4 i c h = fJ0_lastIndexOf_0f7a4 i c z0 := by
  unfold fJ0_lastIndexOf_0f7a4 fJ0_lastIndexOf_7cf53 fJ1_lastIndexOf_7d655
  simp only [l18_h (h := h)]
  rfl
theorem fix_h {i : Nat} {c : Int} {h : HS} : fJ0_indexOf_0f7a4 i c h = fJ0_indexOf_0f7a4 i c z0 := by
  unfold fJ0_indexOf_0f7a4 fJ0_indexOf_7cf53 fJ1_indexOf_4cfef fJ1_indexOfChar_4cfef
  simp only [l7_h (h := h)]
  rfl
def tFf : List Int := [0, 0, 1, 0, 1, 0, 2, 0, 0, 0, 1, 0, 1, 0, 2, 0]
def tLf : List Int := [0, 1, 1, 2, 1, 2, 2, 3, 0, 1, 1, 2, 1, 2, 2, 3]
def tFr : List Int := [1, 2, 0, 1, 2, 3, 0, 1, 1, 2, 0, 1, 2, 3, 0, 1]
def tLr : List Int := [1, 2, 2, 3, 2, 3, 3, 4, 1, 2, 2, 3, 2, 3, 3, 4]
def tLx : List Int := [-1, -1, -1, -1, 0, 1, 1, 2, -1, -1, -1, -1, 0, 1, 1, 2]
def tLs : List Int := [-1, -1, -1, -1, -1, -1, -1, -1, 2, 3, 3, 4, 3, 4, 4, 5]
theorem ix_z : ∀ k : Fin 16, fJ0_indexOf_0f7a4 k.val 102 z0 = some (tFf.getD k.val 0) ∧ fJ0_lastIndexOf_0f7a4 k.val 102 z0 = some (tLf.getD k.val 0) ∧ fJ0_indexOf_0f7a4 k.val 114 z0 = some (tFr.getD k.val 0) ∧ fJ0_lastIndexOf_0f7a4 k.val 114 z0 = some (tLr.getD k.val 0) ∧ fJ0_lastIndexOf_0f7a4 k.val 120 z0 = some (tLx.getD k.val 0) ∧ fJ0_lastIndexOf_0f7a4 k.val 115 z0 = some (tLs.getD k.val 0) := by decide +kernel
end ZFORM
