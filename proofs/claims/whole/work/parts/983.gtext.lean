section ZGTEXT
/-! the text of a game -/
def spc (D : List Int) : List Int := if D.length = 0 then D else if D[D.length - 1]? = some 40 then D else D ++ [32]
def mvt (h : HS) (n : Int) (j : Nat) (D : List Int) : List Int := spc D ++ mvB (kOf h) (h 2) (bd h n) (h 11 (kid h n j)) (h 12 (kid h n j))
def gV (h : HS) (r : Int → List Int → List Int) (n : Int) : Nat → Nat → List Int → List Int
  | 0, _, D => D
  | m + 1, j, D => gV h r n m (j + 1) (r (kid h n j) (mvt h n j (spc D ++ [40])) ++ [41])
def gT (h : HS) : Nat → Int → List Int → List Int
  | 0, _, D => D
  | f + 1, n, D => if h 15 n ≤ 0 then D else gT h f (kid h n 0) (gV h (gT h f) n ((h 15 n).toNat - 1) 1 (mvt h n 0 D))
def gCn (h : HS) (r : Int → Nat) (n : Int) : Nat → Nat → Nat
  | 0, _ => 0
  | m + 1, j => 1 + r (kid h n j) + gCn h r n m (j + 1)
def gN (h : HS) : Nat → Int → Nat
  | 0, _ => 0
  | f + 1, n => gCn h (gN h f) n (h 15 n).toNat 0
theorem spc_len {D : List Int} : (spc D).length ≤ D.length + 1 := by
  unfold spc
  split
  · omega
  · split
    · omega
    · rw [List.length_append]; exact Nat.le_refl _
theorem spc_by {D : List Int} (b : byL D) : byL (spc D) := by
  unfold spc
  split
  · exact b
  · split
    · exact b
    · intro v hv
      rcases List.mem_append.mp hv with k | k
      · exact b v k
      · rw [List.mem_singleton] at k; omega
theorem by_app {D u : List Int} (b : byL D) (c : byL u) : byL (D ++ u) := fun v hv => by
  rcases List.mem_append.mp hv with k | k
  · exact b v k
  · exact c v k
theorem by_1 {v : Int} (hv : 0 ≤ v ∧ v ≤ 255) : byL [v] := fun u hu => by
  rw [List.mem_singleton] at hu
  rw [hu]
  exact hv
theorem spc_40 {D : List Int} : spc (D ++ [40]) = D ++ [40] := by
  unfold spc
  rw [List.length_append]
  rw [if_neg (by simp), if_pos]
  simp
theorem mvt_len {h : HS} {n : Int} {j : Nat} {D : List Int} : (mvt h n j D).length ≤ D.length + 8 := by
  have h1 := spc_len (D := D)
  have h2 := mvB_len (K := kOf h) (L := h 2) (b := bd h n) (f := h 11 (kid h n j)) (t := h 12 (kid h n j))
  unfold mvt
  rw [List.length_append]
  omega
theorem mvt_len40 {h : HS} {n : Int} {j : Nat} {D : List Int} : (mvt h n j (spc D ++ [40])).length ≤ D.length + 9 := by
  have h1 := spc_len (D := D)
  have h2 := mvB_len (K := kOf h) (L := h 2) (b := bd h n) (f := h 11 (kid h n j)) (t := h 12 (kid h n j))
  unfold mvt
  rw [spc_40, List.length_append, List.length_append]
  simp only [List.length_cons, List.length_nil]
  omega
theorem gV_len {h : HS} {r : Int → List Int → List Int} {rc : Int → Nat} (hr : ∀ c D, (r c D).length ≤ D.length + 10 * rc c) {n : Int} : ∀ (m j : Nat) (D : List Int), (gV h r n m j D).length ≤ D.length + 10 * gCn h rc n m j
  | 0, j, D => Nat.le_refl _
  | m + 1, j, D => by
    have h1 := gV_len (h := h) hr (n := n) m (j + 1) (r (kid h n j) (mvt h n j (spc D ++ [40])) ++ [41])
    have h2 := hr (kid h n j) (mvt h n j (spc D ++ [40]))
    have h3 := mvt_len40 (h := h) (n := n) (j := j) (D := D)
    rw [List.length_append] at h1
    simp only [List.length_cons, List.length_nil] at h1
    show (gV h r n m (j + 1) (r (kid h n j) (mvt h n j (spc D ++ [40])) ++ [41])).length ≤ D.length + 10 * (1 + rc (kid h n j) + gCn h rc n m (j + 1))
    omega
theorem gN_s {h : HS} {f : Nat} {n : Int} (k : 0 < h 15 n) : gN h (f + 1) n = 1 + gN h f (kid h n 0) + gCn h (gN h f) n ((h 15 n).toNat - 1) 1 := by
  show gCn h (gN h f) n (h 15 n).toNat 0 = _
  obtain ⟨m, hm⟩ : ∃ m, (h 15 n).toNat = m + 1 := ⟨(h 15 n).toNat - 1, by omega⟩
  rw [hm]
  rfl
theorem gN_z {h : HS} {f : Nat} {n : Int} (k : h 15 n ≤ 0) : gN h (f + 1) n = 0 := by
  show gCn h (gN h f) n (h 15 n).toNat 0 = _
  rw [show (h 15 n).toNat = 0 by omega]
  rfl
theorem gT_len {h : HS} : ∀ (f : Nat) (n : Int) (D : List Int), (gT h f n D).length ≤ D.length + 10 * gN h f n
  | 0, n, D => Nat.le_refl _
  | f + 1, n, D => by
    unfold gT
    by_cases k : h 15 n ≤ 0
    · rw [if_pos k]
      omega
    · rw [if_neg k, gN_s (by omega)]
      have h1 := gT_len (h := h) f (kid h n 0) (gV h (gT h f) n ((h 15 n).toNat - 1) 1 (mvt h n 0 D))
      have h2 := gV_len (h := h) (r := gT h f) (rc := gN h f) (gT_len f) (n := n) ((h 15 n).toNat - 1) 1 (mvt h n 0 D)
      have h3 := mvt_len (h := h) (n := n) (j := 0) (D := D)
      omega
/-! the number of nodes below -/
theorem gCn_sg {h : HS} {r : Int → Nat} {n : Int} : ∀ (m j : Nat), gCn h r n m j + sg (fun i => 1 + r (kid h n i)) j = sg (fun i => 1 + r (kid h n i)) (j + m)
  | 0, j => by
    show 0 + _ = _
    rw [Nat.zero_add]
    rfl
  | m + 1, j => by
    have ih := gCn_sg (h := h) (r := r) (n := n) m (j + 1)
    have e : sg (fun i => 1 + r (kid h n i)) (j + 1) = sg (fun i => 1 + r (kid h n i)) j + (1 + r (kid h n j)) := rfl
    rw [e, show j + 1 + m = j + (m + 1) by omega] at ih
    rw [← ih]
    show 1 + r (kid h n j) + gCn h r n m (j + 1) + _ = _
    omega
theorem sg_mul {p : Nat → Nat} {c : Nat} : ∀ n : Nat, sg (fun i => c * p i) n = c * sg p n
  | 0 => rfl
  | n + 1 => by
    show sg _ n + c * p n = c * (sg p n + p n)
    rw [sg_mul n, Nat.mul_add]
theorem sgGe {p : Nat → Nat} {n a : Nat} (ha : a < n) : p a ≤ sg p n := by
  induction n with
  | zero => omega
  | succ n ih =>
    show p a ≤ sg p n + p n
    by_cases e : a = n
    · rw [e]; omega
    · have := ih (by omega)
      omega
theorem sg_pick {F : Nat → Nat} {n a : Nat} (ha : a < n) : sg (fun i => if i = a then F i else 0) n = F a := by
  induction n with
  | zero => omega
  | succ n ih =>
    show sg _ n + (if n = a then F n else 0) = F a
    by_cases e : n = a
    · rw [if_pos e, e, sg_0 (fun i hi => if_neg (by omega)), Nat.zero_add]
    · rw [if_neg e, ih (by omega)]
      rfl
theorem gCn_all {h : HS} (w : Hd (Psi h)) {r : Int → Nat} {n : Nat} (hn : (n : Int) < h 9 8) : gCn h r (n : Int) (chC h n) 0 = sg (fun p => (1 + r (p : Int)) * (if 1 ≤ p ∧ h 10 (p : Int) = (n : Int) then 1 else 0)) (h 9 8).toNat := by
  have e := gCn_sg (h := h) (r := r) (n := (n : Int)) (chC h n) 0
  rw [Nat.zero_add] at e
  have e0 : sg (fun i => 1 + r (kid h (n : Int) i)) 0 = 0 := rfl
  rw [e0, Nat.add_zero] at e
  rw [e, sg_cg (q := fun j => sg (fun p => (1 + r (p : Int)) * (if kid h (n : Int) j = (p : Int) then 1 else 0)) (h 9 8).toNat) (fun j hj => ?_), sg_swap]
  · refine sg_cg (fun p hp => ?_)
    rw [sg_mul, kid_uq w.o hn (by omega)]
  · unfold chC at hj
    obtain ⟨b1, b2, b3⟩ := w.o.C.c (n : Int) (by omega) hn j (by omega)
    rw [sg_cg (q := fun p => if p = (kid h (n : Int) j).toNat then 1 + r (p : Int) else 0) (fun p hp => ?_), sg_pick (by omega), Int.toNat_of_nonneg (by omega)]
    by_cases e : kid h (n : Int) j = (p : Int)
    · rw [if_pos e, if_pos (by omega), Nat.mul_one]
    · rw [if_neg e, if_neg (by omega), Nat.mul_zero]
def gJ (h : HS) (i f : Nat) : Nat := sg (fun p => if 1 ≤ p ∧ h 14 (p : Int) ≤ (i : Int) then 1 else 0) (h 9 8).toNat + sg (fun p => (if h 14 (p : Int) = (i : Int) then 1 else 0) * gN h f (p : Int)) (h 9 8).toNat
theorem gJ_s {h : HS} (w : Hd (Psi h)) (i f : Nat) : gJ h i (f + 1) = gJ h (i + 1) f := by
  have z := w.o.P.z.2.2.2
  unfold gJ
  have key : sg (fun p => (if h 14 (p : Int) = (i : Int) then 1 else 0) * gN h (f + 1) (p : Int)) (h 9 8).toNat = sg (fun p => (1 + gN h f (p : Int)) * (if 1 ≤ p ∧ h 14 (p : Int) = ((i + 1 : Nat) : Int) then 1 else 0)) (h 9 8).toNat := by
    rw [sg_cg (q := fun n : Nat => sg (fun p : Nat => (if h 14 (n : Int) = (i : Int) then 1 else 0) * ((1 + gN h f (p : Int)) * (if 1 ≤ p ∧ h 10 (p : Int) = (n : Int) then 1 else 0))) (h 9 8).toNat) (fun n hn => ?_), sg_swap]
    · refine sg_cg (fun p hp => ?_)
      by_cases p1 : 1 ≤ p
      · obtain ⟨a1, a2, -⟩ := w.o.P.t (p : Int) (by omega) (by omega)
        rw [sg_cg (q := fun n : Nat => if n = (h 10 (p : Int)).toNat then (if h 14 (n : Int) = (i : Int) then 1 else 0) * (1 + gN h f (p : Int)) else 0) (fun n hn => ?_), sg_pick (by omega), Int.toNat_of_nonneg a1.1]
        · by_cases q : h 14 (h 10 (p : Int)) = (i : Int)
          · rw [if_pos q, if_pos ⟨p1, by omega⟩, Nat.one_mul, Nat.mul_one]
          · rw [if_neg q, if_neg (by omega), Nat.zero_mul, Nat.mul_zero]
        · by_cases e : n = (h 10 (p : Int)).toNat
          · rw [if_pos (show 1 ≤ p ∧ h 10 (p : Int) = (n : Int) by omega), if_pos e, Nat.mul_one]
          · rw [if_neg (show ¬ (1 ≤ p ∧ h 10 (p : Int) = (n : Int)) by omega), if_neg e, Nat.mul_zero, Nat.mul_zero]
      · rw [if_neg (show ¬ (1 ≤ p ∧ h 14 (p : Int) = ((i + 1 : Nat) : Int)) from fun k => p1 k.1), Nat.mul_zero]
        refine sg_0 (fun n hn => ?_)
        rw [if_neg (show ¬ (1 ≤ p ∧ h 10 (p : Int) = (n : Int)) from fun k => p1 k.1), Nat.mul_zero, Nat.mul_zero]
    · have e := gCn_all w (r := gN h f) (n := n) (by omega)
      show _ * gCn h (gN h f) (n : Int) (chC h n) 0 = _
      rw [e, sg_mul]
  rw [key, ← sg_add, ← sg_add]
  refine sg_cg (fun p hp => ?_)
  by_cases p1 : 1 ≤ p
  · by_cases q : h 14 (p : Int) = ((i + 1 : Nat) : Int)
    · rw [if_neg (show ¬ (1 ≤ p ∧ h 14 (p : Int) ≤ (i : Int)) by omega), if_pos (show 1 ≤ p ∧ h 14 (p : Int) = ((i + 1 : Nat) : Int) from ⟨p1, q⟩), if_pos (show 1 ≤ p ∧ h 14 (p : Int) ≤ ((i + 1 : Nat) : Int) by omega), if_pos q]
      omega
    · rw [if_neg (show ¬ (1 ≤ p ∧ h 14 (p : Int) = ((i + 1 : Nat) : Int)) from fun k => q k.2), if_neg q]
      by_cases q2 : h 14 (p : Int) ≤ (i : Int)
      · rw [if_pos (show 1 ≤ p ∧ h 14 (p : Int) ≤ (i : Int) from ⟨p1, q2⟩), if_pos (show 1 ≤ p ∧ h 14 (p : Int) ≤ ((i + 1 : Nat) : Int) by omega)]
        omega
      · rw [if_neg (show ¬ (1 ≤ p ∧ h 14 (p : Int) ≤ (i : Int)) from fun k => q2 k.2), if_neg (show ¬ (1 ≤ p ∧ h 14 (p : Int) ≤ ((i + 1 : Nat) : Int)) by omega)]
        omega
  · obtain rfl : p = 0 := by omega
    rw [if_neg (fun k => p1 k.1), if_neg (fun k => p1 k.1), if_neg (fun k => p1 k.1), if_neg (show ¬ h 14 ((0 : Nat) : Int) = ((i + 1 : Nat) : Int) from fun k => by
      have z' : h 14 ((0 : Nat) : Int) = 0 := z
      omega)]
    omega
theorem gJ_d {h : HS} (w : Hd (Psi h)) : ∀ (f i : Nat), gJ h i f = gJ h (i + f) 0
  | 0, i => rfl
  | f + 1, i => by
    rw [gJ_s w, gJ_d w f (i + 1), show i + 1 + f = i + (f + 1) by omega]
theorem gN_le {h : HS} (w : Hd (Psi h)) (f : Nat) : gN h f 0 ≤ 199 := by
  have n := w.o.R.n
  have z := w.o.P.z.2.2.2
  have e := gJ_d w f 0
  have h1 : gN h f 0 ≤ gJ h 0 f := by
    have := sgGe (p := fun p : Nat => (if h 14 (p : Int) = ((0 : Nat) : Int) then 1 else 0) * gN h f (p : Int)) (n := (h 9 8).toNat) (a := 0) (by omega)
    have e0 : (if h 14 ((0 : Nat) : Int) = ((0 : Nat) : Int) then 1 else 0) * gN h f ((0 : Nat) : Int) = gN h f 0 := by
      rw [if_pos (show h 14 ((0 : Nat) : Int) = ((0 : Nat) : Int) from z), Nat.one_mul]
      rfl
    unfold gJ
    simp only [e0] at this
    omega
  have h2 : gJ h (0 + f) 0 ≤ 199 := by
    unfold gJ
    rw [sg_0 (p := fun p : Nat => (if h 14 (p : Int) = ((0 + f : Nat) : Int) then 1 else 0) * gN h 0 (p : Int)) (fun p hp => Nat.mul_zero _), Nat.add_zero]
    obtain ⟨m, hm⟩ : ∃ m, (h 9 8).toNat = m + 1 := ⟨(h 9 8).toNat - 1, by omega⟩
    rw [hm]
    have key : ∀ m : Nat, sg (fun p : Nat => if 1 ≤ p ∧ h 14 (p : Int) ≤ ((0 + f : Nat) : Int) then 1 else 0) (m + 1) ≤ m := fun m => by
      induction m with
      | zero =>
        show 0 + (if 1 ≤ 0 ∧ _ then 1 else 0) ≤ 0
        rw [if_neg (fun k => absurd k.1 (by decide))]
        exact Nat.le_refl _
      | succ m ih =>
        show sg _ (m + 1) + (if _ then 1 else 0) ≤ m + 1
        split <;> omega
    have := key m
    omega
  omega
end ZGTEXT
