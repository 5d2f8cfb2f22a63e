section ZREAD
/-! a word as a move: one account for both sides -/
def fz : Int → Int := fun j => if j = 7 then 0 else -1
theorem kpL_cg : ∀ {r : List Int} {F G : Int → Int}, (∀ j, 1 ≤ j → j ≤ 7 → F j = G j) → ∀ j, 1 ≤ j → j ≤ 7 → kpL F r j = kpL G r j
  | [], F, G, h, j, j1, j7 => h j j1 j7
  | b :: r, F, G, h, j, j1, j7 => by
    refine kpL_cg (r := r) (F := kp F b) (G := kp G b) (fun i i1 i7 => ?_) j j1 j7
    have e4 := h 4 (by decide) (by decide)
    have e5 := h 5 (by decide) (by decide)
    have ei := h i i1 i7
    unfold kp up
    repeat' split
    all_goals simp_all
theorem jdE_cg {K : KT} {b : Int → Int} {F G : Int → Int} (h : ∀ j, 1 ≤ j → j ≤ 7 → F j = G j) (pc : Int) : jCn K b pc F = jCn K b pc G ∧ jLg K b F = jLg K b G ∧ (∀ x, jdE K b F x = jdE K b G x) ∧ F 5 * 8 + F 4 = G 5 * 8 + G 4 := by
  have e2 := h 2 (by decide) (by decide)
  have e3 := h 3 (by decide) (by decide)
  have e4 := h 4 (by decide) (by decide)
  have e5 := h 5 (by decide) (by decide)
  have e6 := h 6 (by decide) (by decide)
  have e7 := h 7 (by decide) (by decide)
  refine ⟨?_, ?_, fun x => ?_, by rw [e4, e5]⟩
  · funext s
    unfold jCn alw
    rw [e2, e3, e4, e5]
  · funext s
    unfold jLg
    rw [e4, e5]
  · unfold jdE
    rw [e4, e5, e6, e7]
def jdg (n : Int) (L : Int → Int) (K : KT) (b : Int → Int) (tr : Int) : List Int → Int × Int × Int
  | [] => (1, -1, -1)
  | c :: r => if (65 ≤ c ∧ c ≤ 90) ∧ dr 1 (r.map cls) 0 = none then (if kiF L c n.toNat 0 = -1 then (2, -1, -1) else (jdE K b (kpL (up fz 1 c) r) (jdX K b (2 * kiF L c n.toNat 0 + tr) (kpL (up fz 1 c) r)), (jdX K b (2 * kiF L c n.toNat 0 + tr) (kpL (up fz 1 c) r)).2.2, kpL (up fz 1 c) r 5 * 8 + kpL (up fz 1 c) r 4)) else (1, -1, -1)
theorem jdg_nil {n : Int} {L : Int → Int} {K : KT} {b : Int → Int} {tr : Int} : jdg n L K b tr [] = (1, -1, -1) := rfl
theorem jdg_cons {n : Int} {L : Int → Int} {K : KT} {b : Int → Int} {tr c : Int} {r : List Int} : jdg n L K b tr (c :: r) = if (65 ≤ c ∧ c ≤ 90) ∧ dr 1 (r.map cls) 0 = none then (if kiF L c n.toNat 0 = -1 then (2, -1, -1) else (jdE K b (kpL (up fz 1 c) r) (jdX K b (2 * kiF L c n.toNat 0 + tr) (kpL (up fz 1 c) r)), (jdX K b (2 * kiF L c n.toNat 0 + tr) (kpL (up fz 1 c) r)).2.2, kpL (up fz 1 c) r 5 * 8 + kpL (up fz 1 c) r 4)) else (1, -1, -1) := rfl
def mis : List Int → Int
  | [] => 0
  | c :: r => if 65 ≤ c ∧ c ≤ 90 then (dr 1 (r.map cls) 1).getD 0 else 0
theorem mis_cons {c : Int} {r : List Int} : mis (c :: r) = if 65 ≤ c ∧ c ≤ 90 then (dr 1 (r.map cls) 1).getD 0 else 0 := rfl
theorem dr_none {C : List Nat} {st : Nat} {p : Int} : dr st C p = none ↔ dr st C 0 = none := by
  have e := dr_add C st 0 p
  rw [Int.zero_add] at e
  rw [e]
  cases dr st C 0 <;> simp
theorem form_get {r : List Int} (h : dr 1 (r.map cls) 0 = none) : ∃ k : Nat, k < 16 ∧ (rsF (r.map cls)).1 = (k : Int) ∧ r.map cls = frm k := by
  obtain ⟨a, b, c⟩ := form_ok (C := r.map cls) (fun x hx => by
    obtain ⟨v, -, e⟩ := List.mem_map.mp hx
    rw [← e]
    exact cls_lt v) h
  exact ⟨(rsF (r.map cls)).1.toNat, by omega, by omega, c.symm⟩
theorem fRg_of {F : Int → Int} {r : List Int} {k : Nat} (fo : fldOk F r k) : fRg F := by
  obtain ⟨-, -, -, f7, -, f4, f5, f2, f3, f6⟩ := fo
  refine ⟨f4, f5, f2, f3, f6, ?_⟩
  split at f7
  · exact Or.inl f7
  · exact Or.inr f7
theorem fz_fld {c : Int} : fld0 (up fz 1 c) := by
  unfold fld0
  simp [fz, up]
theorem jdX_from {K : KT} {b : Int → Int} {pc : Int} {F : Int → Int} : ∀ (n j : Nat) (a cc fr : Int), 0 ≤ cc → (0 < cc → (0 ≤ fr ∧ fr < 64) ∧ b fr = pc) → n + j = 64 → 0 < (jdF (jCn K b pc F) (jLg K b F) n j (a, cc, fr)).2.1 → (0 ≤ (jdF (jCn K b pc F) (jLg K b F) n j (a, cc, fr)).2.2 ∧ (jdF (jCn K b pc F) (jLg K b F) n j (a, cc, fr)).2.2 < 64) ∧ b (jdF (jCn K b pc F) (jLg K b F) n j (a, cc, fr)).2.2 = pc
  | 0, j, a, cc, fr, h0, h1, h2, h3 => h1 h3
  | n + 1, j, a, cc, fr, h0, h1, h2, h3 => by
    unfold jdF at h3 ⊢
    by_cases q1 : jCn K b pc F j = true
    · have q1p := q1
      unfold jCn at q1p
      rw [Bool.and_eq_true] at q1p
      have qb := of_decide_eq_true q1p.1
      by_cases q2 : jLg K b F j = true
      · simp only [if_pos q1, if_pos q2] at h3 ⊢
        exact jdX_from n (j + 1) (a + 1) (cc + 1) (j : Int) (by omega) (fun _ => ⟨by omega, qb⟩) (by omega) h3
      · simp only [if_pos q1, if_neg q2] at h3 ⊢
        exact jdX_from n (j + 1) (a + 1) cc fr h0 h1 (by omega) h3
    · simp only [if_neg q1] at h3 ⊢
      exact jdX_from n (j + 1) a cc fr h0 h1 (by omega) h3
theorem jdg_rg {n : Int} {L : Int → Int} {K : KT} {b : Int → Int} {tr : Int} {u : List Int} : 0 ≤ (jdg n L K b tr u).1 ∧ (jdg n L K b tr u).1 ≤ 7 := by
  cases u with
  | nil => rw [jdg_nil]; exact ⟨by decide, by decide⟩
  | cons c r =>
    rw [jdg_cons]
    split
    · split
      · exact ⟨by decide, by decide⟩
      · have := @jdE_rg K b (kpL (up fz 1 c) r) (jdX K b (2 * kiF L c n.toNat 0 + tr) (kpL (up fz 1 c) r))
        dsimp only
        omega
    · exact ⟨by decide, by decide⟩
theorem jdg_0 {n : Int} {L : Int → Int} {K : KT} {b : Int → Int} {tr : Int} {u : List Int} (htr : tr = 0 ∨ tr = 1) (h : (jdg n L K b tr u).1 = 0) : (0 ≤ (jdg n L K b tr u).2.1 ∧ (jdg n L K b tr u).2.1 < 64) ∧ (0 ≤ (jdg n L K b tr u).2.2 ∧ (jdg n L K b tr u).2.2 < 64) ∧ 0 ≤ b (jdg n L K b tr u).2.1 := by
  cases u with
  | nil => exact absurd h (by rw [jdg_nil]; decide)
  | cons c r =>
    rw [jdg_cons] at h ⊢
    by_cases q : (65 ≤ c ∧ c ≤ 90) ∧ dr 1 (r.map cls) 0 = none
    · simp only [if_pos q] at h ⊢
      by_cases q2 : kiF L c n.toNat 0 = -1
      · rw [if_pos q2] at h
        exact absurd h (by decide)
      · simp only [if_neg q2] at h ⊢
        have kr := @kiF_rg L c n.toNat 0
        obtain ⟨k, hk, -, hm⟩ := form_get q.2
        obtain ⟨r4, r5, -⟩ := fRg_of (fld_all fz_fld hk hm (F := up fz 1 c))
        have hx : (jdX K b (2 * kiF L c n.toNat 0 + tr) (kpL (up fz 1 c) r)).2.1 = 1 := by
          unfold jdE at h
          by_cases e : (jdX K b (2 * kiF L c n.toNat 0 + tr) (kpL (up fz 1 c) r)).2.1 = 1
          · exact e
          · rw [if_neg e] at h
            split at h
            · omega
            · split at h <;> omega
        have hf := jdX_from (K := K) (b := b) (pc := 2 * kiF L c n.toNat 0 + tr) (F := kpL (up fz 1 c) r) 64 0 0 0 (-1) (by omega) (fun k => by omega) (by omega) (by
          have : (jdX K b (2 * kiF L c n.toNat 0 + tr) (kpL (up fz 1 c) r)).2.1 = (jdF (jCn K b (2 * kiF L c n.toNat 0 + tr) (kpL (up fz 1 c) r)) (jLg K b (kpL (up fz 1 c) r)) 64 0 (0, 0, -1)).2.1 := rfl
          omega)
        refine ⟨hf.1, by omega, ?_⟩
        have e2 : b (jdX K b (2 * kiF L c n.toNat 0 + tr) (kpL (up fz 1 c) r)).2.2 = 2 * kiF L c n.toNat 0 + tr := hf.2
        rw [e2]
        omega
    · rw [if_neg q] at h
      exact absurd h (by decide)
theorem judgeC {h : HS} (w : PsiC h) {u : List Int} (hu : byL u) {b0 : Int} (hb : 0 ≤ b0) (hl : b0 + u.length ≤ h 19 1) (t : tpL (h 20) b0 u) : ∃ X, fX5_judge b0 (b0 + (u.length : Int)) h = some ((jdg (h 1 5) (h 2) (kOf h) (h 8) (trn h) u).1, X) ∧ ((jdg (h 1 5) (h 2) (kOf h) (h 8) (trn h) u).1 = 0 → X 0 11 = (jdg (h 1 5) (h 2) (kOf h) (h 8) (trn h) u).2.1 ∧ X 0 12 = (jdg (h 1 5) (h 2) (kOf h) (h 8) (trn h) u).2.2) ∧ (∀ (a : Nat) (b : Int), a ≠ 18 → ¬ (a = 0 ∧ (b = 11 ∨ b = 12)) → X a b = h a b) ∧ ((jdg (h 1 5) (h 2) (kOf h) (h 8) (trn h) u).1 = 1 → X 18 0 = b0 + mis u) := by
  have hn := w.T.1
  have t0 := trn_01 (h := h)
  have nk := w.K.1
  unfold fX5_judge
  cases u with
  | nil =>
    obtain ⟨F2, e1, e2⟩ := fits_nil (h := h) (b0 := b0) (by simp only [List.length_nil] at hl; omega)
    rw [show b0 + (([] : List Int).length : Int) = b0 by simp, e1, Option.bind_some, if_pos wr_0]
    refine ⟨hF h F2, rfl, fun k => absurd k (by rw [jdg_nil]; decide), fun a b ha _ => by rw [hF_ne ha], fun _ => ?_⟩
    rw [hF_18, e2]
    show b0 = b0 + 0
    omega
  | cons c r =>
    rw [List.length_cons] at hl
    have hc := hu c List.mem_cons_self
    obtain ⟨F2, e1, e2, e3, e4⟩ := fits_cons (h := h) hn.2 (b0 := b0) (c := c) (r := r) hu hb (by omega) t
    rw [show b0 + ((c :: r).length : Int) = b0 + 1 + (r.length : Int) by rw [List.length_cons]; omega, e1, Option.bind_some]
    rw [jdg_cons]
    by_cases q : (65 ≤ c ∧ c ≤ 90) ∧ dr 1 (r.map cls) 0 = none
    · have q2 : (65 ≤ c ∧ c ≤ 90) ∧ dr 1 (r.map cls) (b0 + 1) = none := ⟨q.1, dr_none.mpr q.2⟩
      have eF := e2 q2
      obtain ⟨k, hk, -, hm⟩ := form_get q.2
      have fo := fld_all (F := up (zF0 h) 1 c) zF0_fld hk hm
      rw [← eF] at fo
      have fr := fRg_of fo
      have e71 : F2 1 = c := by
        rw [eF, kpL_1 (fun b hb2 => by
          have l3 := (frm_len ⟨k, hk⟩).2.2
          dsimp only at l3
          exact l3 _ (by rw [← hm]; exact List.mem_map_of_mem hb2))]
        unfold up
        rw [if_pos rfl]
      have cg : ∀ j, 1 ≤ j → j ≤ 7 → F2 j = kpL (up fz 1 c) r j := fun j j1 j7 => by
        rw [eF]
        refine kpL_cg (fun i i1 i7 => ?_) j j1 j7
        rcases (show i = 1 ∨ i = 2 ∨ i = 3 ∨ i = 4 ∨ i = 5 ∨ i = 6 ∨ i = 7 by omega) with k | k | k | k | k | k | k <;> subst k <;> simp [up, zF0, fz]
      have ek := kiC w.K (x := c) hc zF 0 (by omega) (by unfold zF; omega)
      have ek2 : fX1_withLetter c (hF h F2) = some (kiF (h 2) c (h 1 5).toNat 0) := by
        have := kiC (h := hF h F2) (x := c) (by unfold PcK; rw [hF_ne (by decide), hF_ne (by decide)]; exact w.K) hc zF 0 (by rw [hF_ne (by decide)]; omega) (by rw [hF_ne (by decide)]; unfold zF; omega)
        rw [hF_ne (by decide), hF_ne (by decide)] at this
        exact this
      have kr := @kiF_rg (h 2) c (h 1 5).toNat 0
      unfold fX2_letter fX2_to
      rw [if_pos q2, if_neg (show ¬ wr 1 = 0 by decide), Option.bind_some]
      dsimp only
      rw [hF_18, e71, ek2, Option.bind_some, wr_of (z := kiF (h 2) c (h 1 5).toNat 0) (by omega) (by omega), if_pos q]
      by_cases q3 : kiF (h 2) c (h 1 5).toNat 0 = -1
      · rw [if_pos q3, if_pos q3]
        exact ⟨hF h F2, rfl, fun k => absurd k (by decide), fun a b ha _ => by rw [hF_ne ha], fun k => absurd k (by decide)⟩
      · have w2 : PsiC (hF h F2) := w.sq hF_qc.qc
        have et : trn (hF h F2) = trn h := by unfold trn; rw [hF_ne (by decide), hF_ne (by decide)]
        rw [if_neg q3, if_neg q3, pX5_turn w2, et, Option.bind_some, Option.bind_some]
        have c2 : cSt (kOf h) (h 1 5) (h 8) (hF h F2) := by
          have := Psi.cs (h := h)
          refine ⟨by rw [hF_ne (by decide)], fun s _ _ => by rw [hF_ne (by decide)], fun i i0 i1 => by rw [hF_ne (by decide)]; exact this.2.2.1 i i0 i1, fun i j i0 i1 j0 j1 => by rw [hF_ne (by decide), hF_ne (by decide), hF_ne (by decide)]; exact this.2.2.2 i j i0 i1 j0 j1⟩
        have ej := jL71 w.gg c2 (pc := 2 * kiF (h 2) c (h 1 5).toNat 0 + trn h) (by omega) (by rw [hF_18]; exact fr) zF 0 0 0 (-1) (by omega) (by omega) (Or.inl rfl) (by omega) (by unfold zF; omega)
        rw [hF_18] at ej
        obtain ⟨g1, g2, g3, g4⟩ := jdE_cg (K := kOf h) (b := h 8) (F := F2) (G := kpL (up fz 1 c) r) cg (2 * kiF (h 2) c (h 1 5).toNat 0 + trn h)
        rw [g1, g2, g3, g4] at ej
        rw [g4]
        have ej2 : fX5_judge_L71 zF (2 * kiF (h 2) c (h 1 5).toNat 0 + trn h) (kpL (up fz 1 c) r 5 * 8 + kpL (up fz 1 c) r 4) 0 0 (-1) 0 (hF h F2) = some (jdE (kOf h) (h 8) (kpL (up fz 1 c) r) (jdX (kOf h) (h 8) (2 * kiF (h 2) c (h 1 5).toNat 0 + trn h) (kpL (up fz 1 c) r)), if jdE (kOf h) (h 8) (kpL (up fz 1 c) r) (jdX (kOf h) (h 8) (2 * kiF (h 2) c (h 1 5).toNat 0 + trn h) (kpL (up fz 1 c) r)) = 0 then hs (hs (hF h F2) 0 11 (jdX (kOf h) (h 8) (2 * kiF (h 2) c (h 1 5).toNat 0 + trn h) (kpL (up fz 1 c) r)).2.2) 0 12 (kpL (up fz 1 c) r 5 * 8 + kpL (up fz 1 c) r 4) else hF h F2) := ej
        rw [ej2]
        refine ⟨_, rfl, fun k => ?_, fun a b ha hab => ?_, fun k => ?_⟩
        · dsimp only at k ⊢
          rw [if_pos k]
          exact ⟨by simp [hs_at], by simp [hs_at]⟩
        · split
          · rw [hs_at]
            by_cases a0 : a = 0
            · subst a0
              rw [if_pos rfl, if_neg (fun k => hab ⟨rfl, Or.inr k⟩), hs_at, if_pos rfl, if_neg (fun k => hab ⟨rfl, Or.inl k⟩), hF_ne (by decide)]
            · rw [if_neg a0, hs_ne _ _ _ a0, hF_ne ha]
          · rw [hF_ne ha]
        · have := @jdE_rg (kOf h) (h 8) (kpL (up fz 1 c) r) (jdX (kOf h) (h 8) (2 * kiF (h 2) c (h 1 5).toNat 0 + trn h) (kpL (up fz 1 c) r))
          dsimp only at k
          omega
    · have q2 : ¬ ((65 ≤ c ∧ c ≤ 90) ∧ dr 1 (r.map cls) (b0 + 1) = none) := fun k => q ⟨k.1, dr_none.mp k.2⟩
      rw [if_neg q2, if_pos wr_0, if_neg q]
      refine ⟨hF h F2, rfl, fun k => absurd k (by decide), fun a b ha _ => by rw [hF_ne ha], fun _ => ?_⟩
      rw [hF_18]
      rw [mis_cons]
      by_cases q4 : 65 ≤ c ∧ c ≤ 90
      · have ed := dr_add (r.map cls) 1 1 b0
        cases hd : dr 1 (r.map cls) 1 with
        | none => exact absurd ⟨q4, dr_none.mp hd⟩ q
        | some x =>
          rw [hd, show (1 : Int) + b0 = b0 + 1 by omega] at ed
          rw [if_pos q4, e3 q4 _ ed]
          show x + b0 = b0 + x
          omega
      · rw [if_neg q4, e4 q4]
        omega
theorem judgeR {V g : HS} (w : Psi V) (e : zqm g V) {u : List Int} (hu : byL u) {b0 : Int} (hb : 0 ≤ b0) (hl : b0 + u.length ≤ V 19 1) (t : tpL (V 20) b0 u) : ∃ Y, fX6_readMove b0 (b0 + (u.length : Int)) g = some ((jdg (V 1 5) (V 2) (kOf V) (V 8) (trn V) u).1, Y) ∧ ((jdg (V 1 5) (V 2) (kOf V) (V 8) (trn V) u).1 = 0 → Y 30 19 = (jdg (V 1 5) (V 2) (kOf V) (V 8) (trn V) u).2.1 ∧ Y 30 20 = (jdg (V 1 5) (V 2) (kOf V) (V 8) (trn V) u).2.2) ∧ (∀ a : Nat, a ≠ 36 → a ≠ 30 → Y a = g a) ∧ (∀ b : Int, ¬ (18 ≤ b ∧ b ≤ 21) → Y 30 b = g 30 b) ∧ Y 30 21 = b0 + (if (jdg (V 1 5) (V 2) (kOf V) (V 8) (trn V) u).1 = 1 then mis u else 0) := by
  have hn := w.T.n
  have t0 := trn_01 (h := V)
  have nk := w.K.n
  have e39 := e.c (a := 39) (by decide)
  have t39 : tpL (g 39) b0 u := fun i hi => by
    rw [e39, (w.T.by_ (b0 + i) (by omega) (by omega)).1]
    exact t i hi
  unfold fX6_readMove
  cases u with
  | nil =>
    rw [show b0 + (([] : List Int).length : Int) = b0 by simp]
    have e1 : fX6_findForm b0 b0 g = some (0, Zf (-1) b0 g) := by
      unfold fX6_findForm
      rw [if_pos rfl, Zf_0]
    rw [e1, Option.bind_some, if_pos wr_0]
    refine ⟨Zf (-1) b0 g, rfl, fun k => absurd k (by rw [jdg_nil]; decide), fun a _ h30 => Zf_ne h30, fun b hb2 => by rw [Zf_30, if_neg (by omega), if_neg (by omega)], ?_⟩
    rw [Zf_30, if_neg (by decide), if_pos rfl]
    show b0 = b0 + (if (1 : Int) = 1 then 0 else 0)
    rw [if_pos rfl]
    omega
  | cons c r =>
    rw [List.length_cons] at hl
    have hc := hu c List.mem_cons_self
    have hr : byL r := fun v hv => hu v (List.mem_cons_of_mem _ hv)
    have e1 := mX6_find hu hb (show b0 + 1 + r.length ≤ 2000 by omega) t39
    rw [show b0 + ((c :: r).length : Int) = b0 + 1 + (r.length : Int) by rw [List.length_cons]; omega, e1]
    rw [jdg_cons]
    by_cases q1 : 65 ≤ c ∧ c ≤ 90
    · rw [if_pos q1, Option.bind_some]
      by_cases q2 : dr 1 (r.map cls) 0 = none
      · obtain ⟨k, hk, ek, hm⟩ := form_get q2
        have fo := fld_all (F := up fz 1 c) fz_fld hk hm
        have fr := fRg_of fo
        obtain ⟨F, eF⟩ : ∃ F, F = kpL (up fz 1 c) r := ⟨_, rfl⟩
        rw [← eF] at fo fr ⊢
        have hl2 : r.length = (frm k).length := by rw [← hm, List.length_map]
        obtain ⟨r4, r5, r2, r3, r6, r7⟩ := fr
        have ec : g 39 b0 = c := by
          have e := tpL_at t39 (i := 0) (v := c) rfl
          rw [Int.natCast_zero, Int.add_zero] at e
          exact e
        have t2 : tpL (V 39) (b0 + 1) r := fun i hi => by
          have e5 := t39 (i + 1) (by rw [List.length_cons]; omega)
          rw [List.getElem?_cons_succ] at e5
          rw [e5, e39, show b0 + ((i + 1 : Nat) : Int) = b0 + 1 + (i : Int) by omega]
        rw [if_neg (show ¬ (rsF (r.map cls)).1 = -1 by omega)]
        dsimp only
        rw [if_neg (show ¬ wr 1 = 0 by decide), if_pos (by omega), Zf_u21, Zf_ne (by decide), ec, if_pos (show (65 ≤ c ∧ c ≤ 90) ∧ dr 1 (r.map cls) 0 = none from ⟨q1, q2⟩), ek]
        obtain ⟨S, eS⟩ : ∃ S, S = Zf (k : Int) b0 g := ⟨_, rfl⟩
        rw [← eS]
        have Sne : ∀ a : Nat, a ≠ 30 → S a = g a := fun a ha => by rw [eS, Zf_ne ha]
        have S30 : ∀ b : Int, b ≠ 18 → b ≠ 21 → S 30 b = g 30 b := fun b h1 h2 => by rw [eS, Zf_30, if_neg h1, if_neg h2]
        have S18 : S 30 18 = k := by rw [eS, Zf_30, if_pos rfl]
        have S21 : S 30 21 = b0 := by rw [eS, Zf_30, if_neg (by decide), if_pos rfl]
        have qS : zqm S g := fun a b ha hn => by
          by_cases a30 : a = 30
          · subst a30
            exact S30 b (fun k => hn (Or.inr (Or.inr ⟨rfl, by omega⟩))) (fun k => hn (Or.inr (Or.inr ⟨rfl, by omega⟩)))
          · rw [Sne a a30]
        have ekd : fX6_kindOf c S = some (kiF (V 2) c (V 1 5).toNat 0) := kiR w.K (by rw [(qS.tr e).c30 (by decide), w.K.n2]) (by rw [Sne 31 (by decide), e.c (a := 31) (by decide)]) hc zF 0 (by omega) (by unfold zF; omega)
        have kr := @kiF_rg (V 2) c (V 1 5).toNat 0
        rw [ekd, Option.bind_some, wr_of (z := kiF (V 2) c (V 1 5).toNat 0) (by omega) (by omega)]
        by_cases q3 : kiF (V 2) c (V 1 5).toNat 0 = -1
        · rw [if_pos q3, if_pos q3]
          refine ⟨S, rfl, fun k => absurd k (by decide), fun a _ h30 => Sne a h30, fun b hb2 => S30 b (by omega) (by omega), ?_⟩
          rw [S21, if_neg (by decide)]
          omega
        · rw [if_neg q3, if_neg q3]
          obtain ⟨tr1, tr2, tr3, tr4, tr5, tr6⟩ := tab_rg ⟨k, hk⟩
          obtain ⟨z1, z2, z3, z4, z5, z6⟩ := ix_z ⟨k, hk⟩
          dsimp only at tr1 tr2 tr3 tr4 z1 z2 z3 z4
          obtain ⟨⟨fa, fb⟩, fc, fd, -⟩ := id fo
          have tS : tpL (S 39) (b0 + 1) r := by rw [Sne 39 (by decide), e39]; exact t2
          have hl3 : b0 + 1 + (r.length : Int) ≤ 2000 := by omega
          rw [umX6_late hk hb hl3 tS S18 z2 ⟨by omega, tr2.2⟩ (Or.inr ⟨tr2.1, fa⟩), Option.bind_some, umX6_late hk hb hl3 tS S18 z4 ⟨by omega, tr4.2⟩ (Or.inr ⟨tr4.1, fb⟩), Option.bind_some]
          obtain ⟨R, eR⟩ : ∃ R, R = hs S 30 20 ((F 4 + 97 - 97) + 8 * (F 5 + 49 - 49)) := ⟨_, rfl⟩
          rw [← eR]
          have Rne : ∀ a : Nat, a ≠ 30 → R a = S a := fun a ha => by rw [eR, hs_ne _ _ _ ha]
          have R30 : ∀ b : Int, b ≠ 20 → R 30 b = S 30 b := fun b hb2 => by rw [eR, hs_at, if_pos rfl, if_neg hb2]
          have R20 : R 30 20 = F 5 * 8 + F 4 := by rw [eR, hs_self]; omega
          have R18 : R 30 18 = k := by rw [R30 18 (by decide), S18]
          have tR : tpL (R 39) (b0 + 1) r := by rw [Rne 39 (by decide)]; exact tS
          have qR : zqm R V := (show zqm R S from fun a b ha hn => by
            by_cases a30 : a = 30
            · subst a30
              exact R30 b (fun k => hn (Or.inr (Or.inr ⟨rfl, by omega⟩)))
            · rw [Rne a a30]).tr (qS.tr e)
          have e2 : fX6_early b0 102 R = some (if F 2 = -1 then -1 else F 2 + 97) := umX6_early hk hb hl3 tR R18 z1 z2 tr1 tr2 (by
            by_cases q5 : tFf.getD k 0 = tLf.getD k 0
            · rw [if_pos q5] at fc ⊢
              rw [if_pos fc]
            · rw [if_neg q5] at fc ⊢
              rw [if_neg fc.1]
              exact fc.2)
          have e3 : fX6_early b0 114 R = some (if F 3 = -1 then -1 else F 3 + 49) := umX6_early hk hb hl3 tR R18 z3 z4 tr3 tr4 (by
            by_cases q5 : tFr.getD k 0 = tLr.getD k 0
            · rw [if_pos q5] at fd ⊢
              rw [if_pos fd]
            · rw [if_neg q5] at fd ⊢
              rw [if_neg fd.1]
              exact fd.2)
          rw [e2, Option.bind_some, e3, Option.bind_some]
          obtain ⟨g1, a1, a2, a3⟩ := jL89 w hk fo ⟨r4, r5, r2, r3, r6, r7⟩ hr hl2 hb hl3 t2 (kd := kiF (V 2) c (V 1 5).toNat 0) (by omega) zF 0 0 0 R qR R18 R20 (by omega) (by omega) (Or.inl rfl) (by omega) (by unfold zF; omega)
          obtain ⟨pc, epc⟩ : ∃ pc, pc = 2 * kiF (V 2) c (V 1 5).toNat 0 + trn V := ⟨_, rfl⟩
          rw [← epc] at a1 a3 ⊢
          obtain ⟨b1, b2, b3, b4⟩ := jdF_fr (cnd := jCn (kOf V) (V 8) pc F) (lg := jLg (kOf V) (V 8) F) 64 0 0 0 (R 30 19) (-1)
          have eE : jdE (kOf V) (V 8) F (jdF (jCn (kOf V) (V 8) pc F) (jLg (kOf V) (V 8) F) (64 - 0) 0 (0, 0, R 30 19)) = jdE (kOf V) (V 8) F (jdX (kOf V) (V 8) pc F) := by
            unfold jdE jdX
            rw [show 64 - 0 = 64 from rfl, b1, b2]
            by_cases q6 : (jdF (jCn (kOf V) (V 8) pc F) (jLg (kOf V) (V 8) F) 64 0 (0, 0, -1)).2.1 = 1
            · rcases b4 with b4 | b4
              · rw [b4]
              · omega
            · rw [if_neg q6, if_neg q6]
          rw [eE] at a1 a3
          have a1b : fX6_readMove_L89 zF b0 (kiF (V 2) c (V 1 5).toNat 0) (if F 2 = -1 then -1 else F 2 + 97) (if F 3 = -1 then -1 else F 3 + 49) 0 0 0 R = some (jdE (kOf V) (V 8) F (jdX (kOf V) (V 8) pc F), g1) := a1
          rw [a1b]
          have jr := @jdE_rg (kOf V) (V 8) F (jdX (kOf V) (V 8) pc F)
          refine ⟨g1, rfl, fun k => ?_, fun a h36 h30 => by rw [a2.1 a h36 h30, Rne a h30, Sne a h30], fun b hb2 => by rw [a2.2 b (by omega), R30 b (by omega), S30 b (by omega) (by omega)], ?_⟩
          · dsimp only at k ⊢
            refine ⟨?_, by rw [a2.2 20 (by decide), R20]⟩
            rw [a3 k]
            rcases b4 with b4 | b4
            · exact b4
            · have k2 := k
              unfold jdE jdX at k2
              rw [← b2, b4, if_neg (by decide)] at k2
              split at k2
              · omega
              · rw [if_pos rfl] at k2; omega
          · dsimp only
            rw [a2.2 21 (by decide), R30 21 (by decide), S21, if_neg (by omega)]
            omega
      · have hd : ∃ x, dr 1 (r.map cls) 0 = some x := by
          cases hx : dr 1 (r.map cls) 0 with
          | none => exact absurd hx q2
          | some x => exact ⟨x, rfl⟩
        obtain ⟨x, hx⟩ := hd
        obtain ⟨f1, f2⟩ := form_bad (C := r.map cls) (fun y hy => by
          obtain ⟨v, -, ev⟩ := List.mem_map.mp hy
          rw [← ev]
          exact cls_lt v) hx
        rw [f1, if_pos rfl]
        dsimp only
        rw [if_pos wr_0, if_neg (fun k => q2 k.2)]
        refine ⟨_, rfl, fun k => absurd k (by decide), fun a _ h30 => Zf_ne h30, fun b hb2 => by rw [Zf_30, if_neg (by omega), if_neg (by omega)], ?_⟩
        rw [Zf_30, if_neg (by decide), if_pos rfl, if_pos rfl, f2]
        rw [mis_cons]
        have ed := dr_add (r.map cls) 1 0 1
        rw [hx, Int.zero_add] at ed
        rw [if_pos q1, ed]
        show b0 + 1 + x = b0 + (x + 1)
        omega
    · rw [if_neg q1, Option.bind_some]
      dsimp only
      rw [if_pos wr_0, if_neg (fun k => q1 k.1)]
      refine ⟨_, rfl, fun k => absurd k (by decide), fun a _ h30 => Zf_ne h30, fun b hb2 => by rw [Zf_30, if_neg (by omega), if_neg (by omega)], ?_⟩
      rw [Zf_30, if_neg (by decide), if_pos rfl, if_pos rfl]
      rw [mis_cons]
      rw [if_neg q1]
      omega
end ZREAD
