section ZCASE9
def wdL (a : Int → Int) (s : Int) (n : Nat) : List Int := (List.range n).map (fun i : Nat => a (s + (i : Int)))
theorem wdL_len {a : Int → Int} {s : Int} {n : Nat} : (wdL a s n).length = n := by
  unfold wdL
  rw [List.length_map, List.length_range]
theorem wdL_tp {a : Int → Int} {s : Int} {n : Nat} : tpL a s (wdL a s n) := fun i hi => by
  rw [wdL_len] at hi
  unfold wdL
  rw [List.getElem?_map, List.getElem?_range hi]
  rfl
theorem wdL_by {h : HS} (w : PcT h) {s : Int} {n : Nat} (h0 : 0 ≤ s) (h1 : s + n ≤ h 19 1) : byL (wdL (h 20) s n) := fun v hv => by
  unfold wdL at hv
  obtain ⟨i, hi, e⟩ := List.mem_map.mp hv
  rw [List.mem_range] at hi
  rw [← e]
  exact w.2 (s + (i : Int)) (by omega) (by omega)
theorem dr_rg : ∀ {C : List Nat} {st : Nat} {p q : Int}, dr st C p = some q → p ≤ q ∧ q ≤ p + C.length
  | [], st, p, q, h => by
    have h2 : (if okS st then none else some p) = some q := h
    split at h2
    · exact absurd h2 (by simp)
    · have := Option.some.inj h2
      simp only [List.length_nil]
      omega
  | c :: C, st, p, q, h => by
    have h2 : (if dl st c = 0 then some p else dr (dl st c) C (p + 1)) = some q := h
    rw [List.length_cons]
    split at h2
    · have := Option.some.inj h2
      omega
    · have := dr_rg h2
      omega
theorem mis_rg {u : List Int} : 0 ≤ mis u ∧ mis u ≤ u.length := by
  cases u with
  | nil => exact ⟨Int.le_refl _, by show (0 : Int) ≤ _; omega⟩
  | cons c r =>
    rw [mis_cons, List.length_cons]
    split
    · cases hd : dr 1 (r.map cls) 1 with
      | none => show 0 ≤ (0 : Int) ∧ (0 : Int) ≤ _; omega
      | some x =>
        have := dr_rg hd
        rw [List.length_map] at this
        show 0 ≤ x ∧ x ≤ _
        omega
    · omega
theorem Psi.errs {h o : HS} (w : Psi h) (E : PsE o) (e : ∀ (a : Nat) (b : Int), ¬ scr a b → ¬ (a = 0 ∧ 13 ≤ b ∧ b ≤ 15) → ¬ (a = 30 ∧ 14 ≤ b ∧ b ≤ 16) → o a b = h a b) : Psi o := by
  have ne : ∀ a : Nat, ¬ (a = 50 ∨ a = 18 ∨ a = 21 ∨ a = 22 ∨ a = 23 ∨ a = 24 ∨ a = 36 ∨ a = 40 ∨ a = 41 ∨ a = 42 ∨ a = 90 ∨ a = 91 ∨ a = 0 ∨ a = 30) → o a = h a := fun a hn => by
    funext b
    exact e a b (fun k => hn (by rcases k with k | k | k <;> omega)) (by omega) (by omega)
  have n0 : o 0 8 = h 0 8 := e 0 8 (by rintro (k | k | k) <;> omega) (by omega) (by omega)
  have n30 : ∀ b : Int, 1 ≤ b → b ≤ 13 → o 30 b = h 30 b := fun b h1 h2 => e 30 b (fun k => by rcases k with k | k | k <;> omega) (by omega) (by omega)
  exact ⟨w.T.cg (by rw [ne 19 (by decide)]) (n30 _ (by decide) (by decide)) (fun i => by rw [ne 39 (by decide)]) (fun i => by rw [ne 20 (by decide)]),
   E,
   w.B.cg (by rw [ne 1 (by decide)]) (n30 _ (by decide) (by decide)) (fun i => by rw [ne 35 (by decide)]) (fun i => by rw [ne 8 (by decide)]),
   w.K.cg (by rw [ne 1 (by decide)]) (n30 _ (by decide) (by decide)) (fun i => by rw [ne 31 (by decide)]) (fun i => by rw [ne 2 (by decide)]),
   w.S.cg (fun i => by rw [ne 32 (by decide)]) (fun i => by rw [ne 3 (by decide)]) (fun i => by rw [ne 33 (by decide)]) (fun i => by rw [ne 4 (by decide)]) (fun i => by rw [ne 5 (by decide)]) (fun i => by rw [ne 6 (by decide)]),
   w.R.cg (by rw [ne 9 (by decide)]) (n30 _ (by decide) (by decide)) (fun i => by rw [ne 37 (by decide)]) (fun i => by rw [ne 10 (by decide), ne 11 (by decide), ne 12 (by decide), ne 14 (by decide), ne 15 (by decide)]; exact ⟨rfl, rfl, rfl, rfl, rfl⟩),
   w.C.cg (by rw [ne 9 (by decide)]) (fun i => by rw [ne 16 (by decide)]) (fun i => by rw [ne 17 (by decide)]) (fun i => by rw [ne 38 (by decide)]) (fun i => by rw [ne 10 (by decide)]) (fun i => by rw [ne 15 (by decide)]),
   w.A.cg (ne 9 (by decide)) (ne 10 (by decide)) (ne 15 (by decide)) (ne 16 (by decide)) (ne 17 (by decide)),
   w.P.cg n0 (n30 _ (by decide) (by decide)) (ne 9 (by decide)) (ne 10 (by decide)) (ne 11 (by decide)) (ne 12 (by decide)) (ne 13 (by decide)) (ne 14 (by decide)) (ne 34 (by decide)) (ne 8 (by decide)) (ne 35 (by decide)) (by rw [ne 1 (by decide)]; omega)⟩
theorem qc_9 {h : HS} (w : Psi h) : ∃ o, fL_c9 h = some o ∧ Psi o := by
  have n := w.T.n
  obtain ⟨u, eu⟩ : ∃ u, u = wdL (h 20) 0 (h 19 1).toNat := ⟨_, rfl⟩
  have ul : (u.length : Int) = h 19 1 := by rw [eu, wdL_len]; omega
  have ub : byL u := by rw [eu]; exact wdL_by w.cc.T (by omega) (by omega)
  have ut : tpL (h 20) 0 u := by rw [eu]; exact wdL_tp
  obtain ⟨X, x1, x2, x3, x4⟩ := judgeC w.cc ub (b0 := 0) (by omega) (by omega) ut
  obtain ⟨J, eJ⟩ : ∃ J, J = jdg (h 1 5) (h 2) (kOf h) (h 8) (trn h) u := ⟨_, rfl⟩
  have jr := @jdg_rg (h 1 5) (h 2) (kOf h) (h 8) (trn h) u
  have j0 := @jdg_0 (h 1 5) (h 2) (kOf h) (h 8) (trn h) u trn_01
  have mr := @mis_rg u
  rw [← eJ] at x1 x2 x4 jr j0
  rw [Int.zero_add, ul] at x1
  rw [Int.zero_add] at x4
  -- what the class leaves
  have c1 : ∃ C, fX5_read h = some (J.1, C) ∧ (∀ (a : Nat) (b : Int), a ≠ 18 → ¬ (a = 0 ∧ (11 ≤ b ∧ b ≤ 15)) → C a b = h a b) ∧ C 0 13 = (if J.1 = 0 then -1 else if J.1 = 1 then mis u else 0) ∧ C 0 14 = (if J.1 = 0 then J.2.1 else h 0 14) ∧ C 0 15 = (if J.1 = 0 then J.2.2 else h 0 15) := by
    unfold fX5_read fX3_size
    rw [Option.bind_some, x1, Option.bind_some]
    dsimp only
    rw [wr_of (z := J.1) (by omega) (by omega)]
    by_cases q0 : J.1 = 0
    · obtain ⟨y1, y2⟩ := x2 q0
      rw [if_pos q0, if_pos q0, if_pos q0, if_pos q0]
      refine ⟨_, rfl, fun a b h18 h0 => ?_, by simp [hs_at], by simp [hs_at, y1], by simp [hs_at, y2]⟩
      by_cases a0 : a = 0
      · subst a0
        have b13 : b ≠ 13 := fun k => h0 ⟨rfl, by omega⟩
        have b14 : b ≠ 14 := fun k => h0 ⟨rfl, by omega⟩
        have b15 : b ≠ 15 := fun k => h0 ⟨rfl, by omega⟩
        simp only [hs_at]
        simp only [b13, b14, b15, if_false, if_true]
        exact x3 0 b (by decide) (fun k => h0 ⟨rfl, by omega⟩)
      · rw [hs_ne _ _ _ a0, hs_ne _ _ _ a0, hs_ne _ _ _ a0]
        exact x3 a b h18 (fun k => a0 k.1)
    · have e14 : X 0 14 = h 0 14 := x3 0 14 (by decide) (by omega)
      have e15 : X 0 15 = h 0 15 := x3 0 15 (by decide) (by omega)
      have key : ∀ v : Int, ∃ C, fX5_read_b58 J.1 v X = some (J.1, C) ∧ (∀ (a : Nat) (b : Int), a ≠ 18 → ¬ (a = 0 ∧ (11 ≤ b ∧ b ≤ 15)) → C a b = h a b) ∧ C 0 13 = v ∧ C 0 14 = h 0 14 ∧ C 0 15 = h 0 15 := fun v => by
        unfold fX5_read_b58
        refine ⟨_, rfl, fun a b h18 h0 => ?_, by simp [hs_at], by simp [hs_at, e14], by simp [hs_at, e15]⟩
        rw [hs_at]
        by_cases a0 : a = 0
        · subst a0
          rw [if_pos rfl, if_neg (fun k => h0 ⟨rfl, by omega⟩)]
          exact x3 0 b (by decide) (fun k => h0 ⟨rfl, by omega⟩)
        · rw [if_neg a0]
          exact x3 a b h18 (fun k => a0 k.1)
      rw [if_neg q0, if_neg q0, if_neg q0, if_neg q0]
      by_cases q1 : J.1 = 1
      · rw [if_pos q1, if_pos q1]
        unfold fX2_misfit
        rw [Option.bind_some, x4 q1]
        exact key _
      · rw [if_neg q1, if_neg q1]
        exact key 0
  obtain ⟨C, c1, c2, c3, c4, c5⟩ := c1
  have qC : zqm C h := fun a b ha hn => c2 a b (by omega) (by omega)
  have qC0 : zqm (hs C 30 0 0) h := qC.h30 0
  obtain ⟨Y, y1, y2, y3, y4, y5⟩ := judgeR w qC0 ub (b0 := 0) (by omega) (by omega) ut
  rw [← eJ] at y1 y2 y5
  rw [Int.zero_add, ul] at y1
  rw [Int.zero_add] at y5
  have e13 : hs C 30 0 0 30 13 = h 19 1 := by rw [qC0.c30 (by decide), w.T.n2]
  have r1 : ∃ o, fX6_read C = some (J.1, o) ∧ (∀ a : Nat, a ≠ 36 → a ≠ 30 → o a = C a) ∧ (∀ b : Int, b ≠ 0 → ¬ (14 ≤ b ∧ b ≤ 16) → ¬ (18 ≤ b ∧ b ≤ 21) → o 30 b = C 30 b) ∧ o 30 14 = (if J.1 = 0 then -1 else if J.1 = 1 then mis u else 0) ∧ o 30 15 = (if J.1 = 0 then J.2.1 else h 30 15) ∧ o 30 16 = (if J.1 = 0 then J.2.2 else h 30 16) := by
    unfold fX6_read fX6_read_b28
    rw [e13, y1, Option.bind_some]
    dsimp only
    rw [wr_of (z := J.1) (by omega) (by omega)]
    have Yo : ∀ a : Nat, a ≠ 36 → a ≠ 30 → Y a = C a := fun a h1 h2 => by rw [y3 a h1 h2, hs_ne _ _ _ h2]
    have Yb : ∀ b : Int, b ≠ 0 → ¬ (18 ≤ b ∧ b ≤ 21) → Y 30 b = C 30 b := fun b h1 h2 => by rw [y4 b h2, hs_at, if_pos rfl, if_neg h1]
    by_cases q0 : J.1 = 0
    · obtain ⟨z1, z2⟩ := y2 q0
      rw [if_pos q0, if_pos q0, if_pos q0, if_pos q0, if_pos q0]
      refine ⟨_, rfl, fun a h1 h2 => by rw [hs_ne _ _ _ h2, hs_ne _ _ _ h2, hs_ne _ _ _ h2, Yo a h1 h2], fun b b0 h1 h2 => ?_, by simp [hs_at], by simp [hs_at, z1], by simp [hs_at, z2]⟩
      have b14 : b ≠ 14 := by omega
      have b15 : b ≠ 15 := by omega
      have b16 : b ≠ 16 := by omega
      simp only [hs_at]
      simp only [b14, b15, b16, if_false, if_true]
      exact Yb b b0 h2
    · have e15 : Y 30 15 = h 30 15 := by rw [Yb 15 (by decide) (by decide), qC.c30 (by decide)]
      have e16 : Y 30 16 = h 30 16 := by rw [Yb 16 (by decide) (by decide), qC.c30 (by decide)]
      rw [if_neg q0, if_neg q0, if_neg q0, if_neg q0, if_neg q0, y5]
      refine ⟨_, rfl, fun a h1 h2 => by rw [hs_ne _ _ _ h2, Yo a h1 h2], fun b b0 h1 h2 => by rw [hs_at, if_pos rfl, if_neg (by omega), Yb b b0 h2], by simp [hs_at], by simp [hs_at, e15], by simp [hs_at, e16]⟩
  obtain ⟨o, o1, o2, o3, o4, o5, o6⟩ := r1
  unfold fL_c9
  rw [c1, Option.bind_some, o1, Option.bind_some]
  refine ⟨o, if_pos rfl, w.errs ?_ (fun a b hn h0 h30 => ?_)⟩
  · have oc : o 0 = C 0 := o2 0 (by decide) (by decide)
    obtain ⟨p1, p2, p3⟩ := id w.E
    by_cases q0 : J.1 = 0
    · obtain ⟨k1, k2, k3⟩ := j0 q0
      rw [if_pos q0] at o4 o5 o6 c3 c4 c5
      unfold PsE
      rw [oc, o4, o5, o6, c3, c4, c5]
      exact ⟨⟨rfl, by omega, by omega⟩, ⟨rfl, by omega, by omega⟩, ⟨rfl, by omega, by omega⟩⟩
    · rw [if_neg q0] at o4 o5 o6 c3 c4 c5
      by_cases q1 : J.1 = 1
      · rw [if_pos q1] at o4 c3
        unfold PsE
        rw [oc, o4, o5, o6, c3, c4, c5]
        exact ⟨⟨rfl, by omega, by omega⟩, p2, p3⟩
      · rw [if_neg q1] at o4 c3
        unfold PsE
        rw [oc, o4, o5, o6, c3, c4, c5]
        exact ⟨⟨rfl, by omega, by omega⟩, p2, p3⟩
  · by_cases a30 : a = 30
    · subst a30
      rw [o3 b (fun k => hn (Or.inr (Or.inr ⟨rfl, Or.inl k⟩))) (fun k => h30 ⟨rfl, k⟩) (fun k => hn (Or.inr (Or.inr ⟨rfl, by omega⟩)))]
      exact qC 30 b (by decide) hn
    · rw [o2 a (fun k => hn (Or.inl (by omega))) a30]
      refine c2 a b (fun k => hn (Or.inl (by omega))) (fun k => ?_)
      by_cases hb : b ≤ 12
      · exact hn (Or.inr (Or.inl ⟨k.1, by omega⟩))
      · exact h0 ⟨k.1, by omega⟩
end ZCASE9
