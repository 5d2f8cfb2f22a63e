section ZGROW
/-! a new node below the present one, on both sides -/
theorem sg_ge {p : Nat → Nat} {n i : Nat} (hi : i < n) : p i ≤ sg p n := by
  induction n with
  | zero => omega
  | succ n ih =>
    show p i ≤ sg p n + p n
    rcases (show i = n ∨ i < n by omega) with e | e
    · rw [e]; omega
    · have := ih e; omega
theorem dp_le {h : HS} (w : Psi h) : ∀ (m : Nat) (p : Int), p ≤ m → 0 ≤ p → p < h 9 8 → h 14 p ≤ p
  | 0, p, e, p0, p1 => by
    obtain rfl : p = 0 := by omega
    rw [w.P.z.2.2.2]
    omega
  | m + 1, p, e, p0, p1 => by
    rcases (show p = 0 ∨ 1 ≤ p by omega) with k | k
    · subst k
      rw [w.P.z.2.2.2]
      omega
    · obtain ⟨a1, a2, -⟩ := w.P.t p k p1
      have ih := dp_le w m (h 10 p) (by omega) a1.1 (by omega)
      omega
def grA (f t : Int) (h : HS) : HS := fun a =>
  if a = 9 then (fun k => if k = 8 then h 9 8 + 1 else h 9 k)
  else if a = 10 then (fun i => if i = h 9 8 then h 0 8 else h 10 i)
  else if a = 11 then (fun i => if i = h 9 8 then f else h 11 i)
  else if a = 12 then (fun i => if i = h 9 8 then t else h 12 i)
  else if a = 13 then (fun i => if i = h 9 8 then h 8 t else h 13 i)
  else if a = 14 then (fun i => if i = h 9 8 then h 14 (h 0 8) + 1 else h 14 i)
  else if a = 15 then (fun i => if i = h 9 8 then 0 else if i = h 0 8 then h 15 (h 0 8) + 1 else h 15 i)
  else if a = 16 then (fun i => if i = h 9 8 then -1 else if i = h 0 8 ∧ h 15 (h 0 8) = 0 then h 9 8 else h 16 i)
  else if a = 17 then (fun i => if i = h 9 8 then -1 else if h 15 (h 0 8) ≠ 0 ∧ i = kid h (h 0 8) ((h 15 (h 0 8)).toNat - 1) then h 9 8 else h 17 i)
  else if a = 30 then (fun k => if k = 8 then h 9 8 + 1 else h 30 k)
  else if a = 37 then (fun x => if x = 5 * h 9 8 then h 0 8 else if x = 5 * h 9 8 + 1 then f else if x = 5 * h 9 8 + 2 then t else if x = 5 * h 9 8 + 3 then h 14 (h 0 8) + 1 else if x = 5 * h 9 8 + 4 then 0 else if x = 5 * h 0 8 + 4 then h 15 (h 0 8) + 1 else h 37 x)
  else if a = 38 then (fun x => if x = 200 * h 0 8 + h 15 (h 0 8) then h 9 8 else h 38 x)
  else h a
theorem grA_ne {f t : Int} {h : HS} {a : Nat} (hn : ¬ (a = 9 ∨ a = 10 ∨ a = 11 ∨ a = 12 ∨ a = 13 ∨ a = 14 ∨ a = 15 ∨ a = 16 ∨ a = 17 ∨ a = 30 ∨ a = 37 ∨ a = 38)) : grA f t h a = h a := by
  unfold grA
  rw [if_neg (by omega), if_neg (by omega), if_neg (by omega), if_neg (by omega), if_neg (by omega), if_neg (by omega), if_neg (by omega), if_neg (by omega), if_neg (by omega), if_neg (by omega), if_neg (by omega), if_neg (by omega)]
theorem grA_9 {f t : Int} {h : HS} : grA f t h 9 8 = h 9 8 + 1 := rfl
theorem grA_10 {f t : Int} {h : HS} (i : Int) : grA f t h 10 i = if i = h 9 8 then h 0 8 else h 10 i := rfl
theorem grA_11 {f t : Int} {h : HS} (i : Int) : grA f t h 11 i = if i = h 9 8 then f else h 11 i := rfl
theorem grA_12 {f t : Int} {h : HS} (i : Int) : grA f t h 12 i = if i = h 9 8 then t else h 12 i := rfl
theorem grA_13 {f t : Int} {h : HS} (i : Int) : grA f t h 13 i = if i = h 9 8 then h 8 t else h 13 i := rfl
theorem grA_14 {f t : Int} {h : HS} (i : Int) : grA f t h 14 i = if i = h 9 8 then h 14 (h 0 8) + 1 else h 14 i := rfl
theorem grA_15 {f t : Int} {h : HS} (i : Int) : grA f t h 15 i = if i = h 9 8 then 0 else if i = h 0 8 then h 15 (h 0 8) + 1 else h 15 i := rfl
theorem grA_16 {f t : Int} {h : HS} (i : Int) : grA f t h 16 i = if i = h 9 8 then -1 else if i = h 0 8 ∧ h 15 (h 0 8) = 0 then h 9 8 else h 16 i := rfl
theorem grA_17 {f t : Int} {h : HS} (i : Int) : grA f t h 17 i = if i = h 9 8 then -1 else if h 15 (h 0 8) ≠ 0 ∧ i = kid h (h 0 8) ((h 15 (h 0 8)).toNat - 1) then h 9 8 else h 17 i := rfl
theorem grA_30 {f t : Int} {h : HS} (k : Int) : grA f t h 30 k = if k = 8 then h 9 8 + 1 else h 30 k := rfl
theorem grA_37 {f t : Int} {h : HS} (x : Int) : grA f t h 37 x = if x = 5 * h 9 8 then h 0 8 else if x = 5 * h 9 8 + 1 then f else if x = 5 * h 9 8 + 2 then t else if x = 5 * h 9 8 + 3 then h 14 (h 0 8) + 1 else if x = 5 * h 9 8 + 4 then 0 else if x = 5 * h 0 8 + 4 then h 15 (h 0 8) + 1 else h 37 x := rfl
theorem grA_38 {f t : Int} {h : HS} (x : Int) : grA f t h 38 x = if x = 200 * h 0 8 + h 15 (h 0 8) then h 9 8 else h 38 x := rfl
theorem kid_grO {f t : Int} {h : HS} (w : Psi h) {i : Int} (hi : i ≠ h 0 8) (hi0 : 0 ≤ i ∧ i < h 9 8) : ∀ k : Nat, (k : Int) < h 15 i → kid (grA f t h) i k = kid h i k
  | 0, hk => by
    show grA f t h 16 i = h 16 i
    rw [grA_16, if_neg (by omega), if_neg (fun e => hi e.1)]
  | k + 1, hk => by
    have n := w.P.n.1
    have c0 := (w.R.g (h 0 8) n.1 n.2).2.2.2.2
    obtain ⟨b1, b2, b3⟩ := w.C.c i hi0.1 hi0.2 k (by omega)
    show grA f t h 17 (kid (grA f t h) i k) = h 17 (kid h i k)
    rw [kid_grO w hi hi0 k (by omega), grA_17, if_neg (by omega), if_neg]
    rintro ⟨e1, e2⟩
    obtain ⟨d1, d2, d3⟩ := w.C.c (h 0 8) n.1 n.2 ((h 15 (h 0 8)).toNat - 1) (by omega)
    rw [← e2, b3] at d3
    exact hi d3
theorem kid_grP {f t : Int} {h : HS} (w : Psi h) : ∀ k : Nat, (k : Int) ≤ h 15 (h 0 8) → kid (grA f t h) (h 0 8) k = if (k : Int) = h 15 (h 0 8) then h 9 8 else kid h (h 0 8) k
  | 0, hk => by
    have n := w.P.n.1
    show grA f t h 16 (h 0 8) = _
    rw [grA_16, if_neg (by omega)]
    by_cases e : h 15 (h 0 8) = 0
    · rw [if_pos ⟨rfl, e⟩, if_pos (by omega)]
    · rw [if_neg (fun k => e k.2), if_neg (by omega)]
      rfl
  | k + 1, hk => by
    have n := w.P.n.1
    obtain ⟨b1, b2, b3⟩ := w.C.c (h 0 8) n.1 n.2 k (by omega)
    show grA f t h 17 (kid (grA f t h) (h 0 8) k) = _
    rw [kid_grP w k (by omega), if_neg (by omega), grA_17, if_neg (by omega)]
    by_cases e : ((k + 1 : Nat) : Int) = h 15 (h 0 8)
    · rw [if_pos ⟨by omega, by rw [show (h 15 (h 0 8)).toNat - 1 = k by omega]⟩, if_pos e]
    · rw [if_neg, if_neg e]
      · rfl
      · rintro ⟨e1, e2⟩
        have := w.C.d (h 0 8) n.1 n.2 k ((h 15 (h 0 8)).toNat - 1) (by omega) (by omega) e2
        omega
theorem bd_gr {f t : Int} {h : HS} (w : PsiC h) {p : Int} (p0 : 0 ≤ p) (p1 : p < h 9 8) : bd (grA f t h) p = bd h p := by
  have dp := w.P.dp w.R p p0 p1
  unfold bd
  rw [grA_14, if_neg (by omega), grA_ne (a := 34) (by decide)]
  refine bdn_cg (dp := h 14) (N := h 9 8) (fun q q0 q1 => ?_) (fun q q0 q1 => ?_) w.P.z.2.2.2 _ p p0 p1 (by omega)
  · rw [grA_10, grA_11, grA_12, if_neg (by omega), if_neg (by omega), if_neg (by omega)]
    exact ⟨rfl, rfl, rfl⟩
  · obtain ⟨a1, a2, -⟩ := w.P.t q q0 q1
    exact ⟨a2, a1⟩
theorem bd_grN {f t : Int} {h : HS} (w : PsiC h) : bd (grA f t h) (h 9 8) = mv (bd h (h 0 8)) f t := by
  have n := w.P.n
  have dp := w.P.dp w.R (h 0 8) n.1 n.2
  have e10 : grA f t h 10 (h 9 8) = h 0 8 := by rw [grA_10, if_pos rfl]
  rw [bd_s (by rw [e10, grA_14, if_pos rfl, grA_14, if_neg (by omega)]) (by rw [e10, grA_14, if_neg (by omega)]; exact dp.1), e10, bd_gr w n.1 n.2, grA_11, grA_12, if_pos rfl, if_pos rfl]
theorem grA_psi {f t : Int} {h : HS} (w : Psi h) (hN : h 9 8 < 200) (hf : 0 ≤ f ∧ f < 64) (ht : 0 ≤ t ∧ t < 64) (hb : 0 ≤ h 8 f) : Psi (grA f t h) := by
  have n := w.P.n.1
  have n1 := w.R.n
  have dp := w.P.dp w.R (h 0 8) n.1 n.2
  have dl := dp_le w (h 0 8).toNat (h 0 8) (by omega) n.1 n.2
  have c0 := (w.R.g (h 0 8) n.1 n.2).2.2.2.2
  have cl : h 15 (h 0 8) ≤ h 9 8 - 1 := by
    have e := sg_ge (p := chC h) (n := (h 9 8).toNat) (i := (h 0 8).toNat) (by omega)
    rw [all_kids w] at e
    unfold chC at e
    rw [Int.toNat_of_nonneg n.1] at e
    omega
  have kO : ∀ i : Int, 0 ≤ i → i < h 9 8 → ∀ k : Nat, (k : Int) < grA f t h 15 i → ((0 < kid (grA f t h) i k ∧ kid (grA f t h) i k < h 9 8 + 1) ∧ grA f t h 38 (200 * i + k) = kid (grA f t h) i k ∧ grA f t h 10 (kid (grA f t h) i k) = i) ∧ ((i = h 0 8 ∧ (k : Int) = h 15 (h 0 8) ∧ kid (grA f t h) i k = h 9 8) ∨ ((k : Int) < h 15 i ∧ kid (grA f t h) i k = kid h i k ∧ kid h i k < h 9 8)) := by
    intro i i0 i1 k hk
    have ci := (w.R.g i i0 i1).2.2.2.2
    rw [grA_15, if_neg (by omega)] at hk
    by_cases hi : i = h 0 8
    · rw [if_pos hi] at hk
      subst hi
      rw [kid_grP w k (by omega), grA_38]
      by_cases e : (k : Int) = h 15 (h 0 8)
      · rw [if_pos e, if_pos (by omega), grA_10, if_pos rfl]
        exact ⟨⟨by omega, rfl, rfl⟩, Or.inl ⟨rfl, e, rfl⟩⟩
      · obtain ⟨b1, b2, b3⟩ := w.C.c (h 0 8) n.1 n.2 k (by omega)
        rw [if_neg e, if_neg (by omega), grA_10, if_neg (by omega)]
        exact ⟨⟨by omega, b2, b3⟩, Or.inr ⟨by omega, rfl, b1.2⟩⟩
    · rw [if_neg hi] at hk
      obtain ⟨b1, b2, b3⟩ := w.C.c i i0 i1 k hk
      rw [kid_grO w hi ⟨i0, i1⟩ k hk, grA_38, if_neg (by omega), grA_10, if_neg (by omega)]
      exact ⟨⟨by omega, b2, b3⟩, Or.inr ⟨hk, rfl, b1.2⟩⟩
  refine ⟨w.T.cg (by rw [grA_ne (by decide)]) (by rw [grA_30, if_neg (by decide)]) (fun i => by rw [grA_ne (by decide)]) (fun i => by rw [grA_ne (by decide)]),
   w.E.cg (fun b b0 b1 => by rw [grA_ne (by decide)]) (fun b b0 b1 => by rw [grA_30, if_neg (by omega)]),
   w.B.cg (by rw [grA_ne (by decide)]) (by rw [grA_30, if_neg (by decide)]) (fun i => by rw [grA_ne (by decide)]) (fun i => by rw [grA_ne (by decide)]),
   w.K.cg (by rw [grA_ne (by decide)]) (by rw [grA_30, if_neg (by decide)]) (fun i => by rw [grA_ne (by decide)]) (fun i => by rw [grA_ne (by decide)]),
   w.S.cg (fun i => by rw [grA_ne (by decide)]) (fun i => by rw [grA_ne (by decide)]) (fun i => by rw [grA_ne (by decide)]) (fun i => by rw [grA_ne (by decide)]) (fun i => by rw [grA_ne (by decide)]) (fun i => by rw [grA_ne (by decide)]),
   ⟨by rw [grA_9]; omega, by rw [grA_9, grA_30, if_pos rfl], fun i i0 i1 => ?_, fun i i0 i1 => ?_⟩,
   ⟨fun i i0 i1 k hk => ?_, fun i i0 i1 k k2 h1 h2 he => ?_⟩, fun q q0 q1 => ?_,
   ⟨by rw [grA_9, grA_ne (a := 0) (by decide), grA_30, if_neg (by decide), w.P.n.2]; omega, by rw [grA_10, grA_11, grA_12, grA_14, if_neg (by omega), if_neg (by omega), if_neg (by omega), if_neg (by omega)]; exact w.P.z, fun q q0 q1 => ?_, fun s s0 s1 => by rw [grA_ne (a := 0) (by decide), bd_gr w.cc n.1 n.2, grA_ne (a := 8) (by decide), grA_ne (a := 35) (by decide)]; exact w.P.b s s0 s1, fun s s0 s1 => by rw [grA_ne (a := 34) (by decide), grA_ne (a := 1) (by decide)]; exact w.P.f s s0 s1⟩⟩
  · rw [grA_9] at i1
    rw [grA_10, grA_11, grA_12, grA_14, grA_15]
    by_cases e : i = h 9 8
    · subst e
      rw [if_pos rfl, if_pos rfl, if_pos rfl, if_pos rfl, if_pos rfl, grA_37, grA_37, grA_37, grA_37, grA_37]
      refine ⟨if_pos rfl, ?_, ?_, ?_, ?_⟩
      · rw [if_neg (by omega), if_pos rfl]
      · rw [if_neg (by omega), if_neg (by omega), if_pos rfl]
      · rw [if_neg (by omega), if_neg (by omega), if_neg (by omega), if_pos rfl]
      · rw [if_neg (by omega), if_neg (by omega), if_neg (by omega), if_neg (by omega), if_pos rfl]
    · obtain ⟨f0, f1, f2, f3, f4⟩ := w.R.f i i0 (by omega)
      rw [if_neg e, if_neg e, if_neg e, if_neg e, if_neg e]
      have a : ∀ x : Int, x < 5 * h 9 8 → x ≠ 5 * h 0 8 + 4 → grA f t h 37 x = h 37 x := fun x x1 x2 => by
        rw [grA_37, if_neg (by omega), if_neg (by omega), if_neg (by omega), if_neg (by omega), if_neg (by omega), if_neg x2]
      rw [a _ (by omega) (by omega), a _ (by omega) (by omega), a _ (by omega) (by omega), a _ (by omega) (by omega)]
      refine ⟨f0, f1, f2, f3, ?_⟩
      by_cases e2 : i = h 0 8
      · rw [if_pos e2, e2, grA_37, if_neg (by omega), if_neg (by omega), if_neg (by omega), if_neg (by omega), if_neg (by omega), if_pos rfl]
      · rw [if_neg e2, a _ (by omega) (by omega)]
        exact f4
  · rw [grA_9] at i1
    rw [grA_10, grA_11, grA_12, grA_14, grA_15]
    by_cases e : i = h 9 8
    · rw [if_pos e, if_pos e, if_pos e, if_pos e, if_pos e]
      omega
    · have g := w.R.g i i0 (by omega)
      rw [if_neg e, if_neg e, if_neg e, if_neg e, if_neg e]
      refine ⟨g.1, g.2.1, g.2.2.1, g.2.2.2.1, ?_⟩
      by_cases e2 : i = h 0 8
      · rw [if_pos e2]; omega
      · rw [if_neg e2]; exact g.2.2.2.2
  · rw [grA_9] at i1 ⊢
    by_cases e : i = h 9 8
    · rw [grA_15, if_pos e] at hk; omega
    · exact (kO i i0 (by omega) k hk).1
  · rw [grA_9] at i1
    by_cases e : i = h 9 8
    · rw [grA_15, if_pos e] at h1; omega
    · have a := (kO i i0 (by omega) k h1).2
      have b := (kO i i0 (by omega) k2 h2).2
      rcases a with ⟨a1, a2, a3⟩ | ⟨a1, a2, a3⟩
      · rcases b with ⟨b1, b2, b3⟩ | ⟨b1, b2, b3⟩
        · omega
        · rw [a3, b2] at he; omega
      · rcases b with ⟨b1, b2, b3⟩ | ⟨b1, b2, b3⟩
        · rw [a2, b3] at he; omega
        · rw [a2, b2] at he
          exact w.C.d i i0 (by omega) k k2 a1 b1 he
  · rw [grA_9] at q1
    rw [grA_10]
    by_cases e : q = h 9 8
    · rw [if_pos e]
      refine ⟨by omega, (h 15 (h 0 8)).toNat, ?_, ?_⟩
      · rw [grA_15, if_neg (by omega), if_pos rfl]; omega
      · rw [kid_grP w _ (by omega), if_pos (by omega), e]
    · obtain ⟨a1, j, a2, a3⟩ := w.A q q0 (by omega)
      rw [if_neg e]
      refine ⟨a1, j, ?_, ?_⟩
      · rw [grA_15, if_neg (by omega)]
        by_cases e2 : h 10 q = h 0 8
        · rw [if_pos e2]; rw [e2] at a2; omega
        · rw [if_neg e2]; exact a2
      · by_cases e2 : h 10 q = h 0 8
        · rw [e2] at a2 a3 ⊢
          rw [kid_grP w j (by omega), if_neg (by omega)]
          exact a3
        · rw [kid_grO w e2 ⟨a1.1, by omega⟩ j a2]
          exact a3
  · rw [grA_9] at q1
    by_cases e : q = h 9 8
    · have e10 : grA f t h 10 q = h 0 8 := by rw [grA_10, if_pos e]
      rw [e10, bd_gr w.cc n.1 n.2, grA_14, if_pos e, grA_14, if_neg (by omega), grA_11, if_pos e, grA_12, if_pos e, grA_13, if_pos e]
      have b1 := (w.P.b f hf.1 hf.2).1
      have b2 := (w.P.b t ht.1 ht.2).1
      exact ⟨by omega, rfl, hf, ht, by rw [← b1]; exact hb, b2⟩
    · obtain ⟨a1, a2, a3, a4, a5, a6⟩ := w.P.t q q0 (by omega)
      have e10 : grA f t h 10 q = h 10 q := by rw [grA_10, if_neg e]
      rw [e10, bd_gr w.cc a1.1 (by omega), grA_14, if_neg e, grA_14, if_neg (by omega), grA_11, if_neg e, grA_12, if_neg e, grA_13, if_neg e]
      exact ⟨a1, a2, a3, a4, a5, a6⟩
end ZGROW
