section ZDIG
/-! the checksum -/
def dgF (f : Nat → Int) : Nat → Nat → Int64 → Int64
  | 0, _, d => d
  | n + 1, j, d => dgF f n (j + 1) (d * (31 : Int64) + (iI (f j)).toInt64)
theorem dgF_cg {f g : Nat → Int} : ∀ {n j : Nat} {d : Int64}, (∀ i, j ≤ i → i < j + n → f i = g i) → dgF f n j d = dgF g n j d
  | 0, _, _, _ => rfl
  | n + 1, j, d, e => by
    show dgF f n (j + 1) _ = dgF g n (j + 1) _
    rw [e j (by omega) (by omega), dgF_cg (fun i h1 h2 => e i (by omega) (by omega))]
theorem dgF_st {f : Nat → Int} {N j : Nat} {d : Int64} (h : j < N) : dgF f (N - j) j d = dgF f (N - (j + 1)) (j + 1) (d * (31 : Int64) + (iI (f j)).toInt64) := by
  rw [show N - j = (N - (j + 1)) + 1 by omega]
  rfl
theorem dgF_en {f : Nat → Int} {N j : Nat} {d : Int64} (h : N ≤ j) : dgF f (N - j) j d = d := by
  rw [show N - j = 0 by omega]
  rfl
def dgN (h : HS) (i : Nat) (d : Int64) : Int64 := dgF (fun k => kid h (i : Int) k) (chC h i) 0 (dgF (fun x => ndV (i : Int) (x : Int) h) 5 0 d)
def dgM (h : HS) : Nat → Nat → Int64 → Int64
  | 0, _, d => d
  | n + 1, i, d => dgM h n (i + 1) (dgN h i d)
def dgAll (h : HS) : Int64 := dgF (fun k => h 20 (k : Int)) (h 19 1).toNat 0 (dgM h (h 9 8).toNat 0 (dgF (fun s => h 8 (s : Int)) 64 0 (dgF (fun p => stV h (p : Int)) 7 0 353)))
/-! the class -/
theorem dgC_tape {h : HS} (w : Psi h) : ∀ (nf j : Nat) (d : Int64), (j : Int) ≤ h 19 1 → (h 19 1).toNat - j < nf → fX5_digest_L89 nf d (j : Int) h = some (dgF (fun k => h 20 (k : Int)) ((h 19 1).toNat - j) j d, h)
  | 0, j, d, h1, h2 => by omega
  | nf + 1, j, d, h1, h2 => by
    have n := w.T.n
    rw [fX5_digest_L89]
    unfold fX3_size fX3_get
    rw [Option.bind_some, wr_of (z := h 19 1) (by omega) (by omega), wr_of (z := (j : Int)) (by omega) (by omega)]
    by_cases hj : h 19 1 ≤ (j : Int)
    · rw [if_pos hj, dgF_en (by omega)]
    · rw [if_neg hj, if_neg (show ¬ (j : Int) < 0 by omega), if_neg hj, if_pos (by omega), Option.bind_some, show (j : Int) + 1 = ((j + 1 : Nat) : Int) by omega, dgC_tape w nf (j + 1) _ (by omega) (by omega), dgF_st (j := j) (by omega)]
theorem dgC_kids {h : HS} (w : Psi h) {i : Nat} (hi : (i : Int) < h 9 8) : ∀ (nf j : Nat) (d : Int64), j ≤ chC h i → chC h i - j < nf → fX5_digestNode_L41 nf (i : Int) d (j : Int) h = some (dgF (fun k => kid h (i : Int) k) (chC h i - j) j d)
  | 0, j, d, h1, h2 => by omega
  | nf + 1, j, d, h1, h2 => by
    have c0 := (w.R.g (i : Int) (by omega) hi).2.2.2.2
    have ec : ((chC h i : Nat) : Int) = h 15 (i : Int) := by unfold chC; omega
    rw [fX5_digestNode_L41]
    rw [pX4_count w.R ⟨by omega, hi⟩, Option.bind_some, wr_of (z := h 15 (i : Int)) (by omega) (by omega), wr_of (z := (j : Int)) (by omega) (by omega)]
    by_cases hj : h 15 (i : Int) ≤ (j : Int)
    · rw [if_pos hj, dgF_en (by omega)]
    · rw [if_neg hj, pX4_child w.R w.C ⟨by omega, hi⟩ ⟨by omega, by omega⟩, Option.bind_some, show (j : Int) + 1 = ((j + 1 : Nat) : Int) by omega, dgC_kids w hi nf (j + 1) _ (by omega) (by omega), dgF_st (j := j) (by omega), Int.toNat_natCast]
theorem pX4_fact {h : HS} (w : Psi h) {i : Int} (hi : 0 ≤ i ∧ i < h 9 8) {x : Int} (hx : 0 ≤ x ∧ x ≤ 4) : fX4_fact i x h = some (ndV i x h) := by
  have n := w.R.n
  unfold fX4_fact fX4_above fX4_from fX4_to fX4_depth fX4_childCount ndV
  rw [pX4_row (by unfold zr; omega) n hi, pX4_row (by unfold zr; omega) n hi, pX4_row (by unfold zr; omega) n hi, pX4_row (by unfold zr; omega) n hi, pX4_row (by unfold zr; omega) n hi, wr_of (z := x) (by omega) (by omega)]
  by_cases k0 : x = 0
  · rw [if_pos k0, if_pos k0]; rfl
  · rw [if_neg k0, if_neg k0]
    by_cases k1 : x = 1
    · rw [if_pos k1, if_pos k1]; rfl
    · rw [if_neg k1, if_neg k1]
      by_cases k2 : x = 2
      · rw [if_pos k2, if_pos k2]; rfl
      · rw [if_neg k2, if_neg k2]
        by_cases k3 : x = 3
        · rw [if_pos k3, if_pos k3]; rfl
        · rw [if_neg k3, if_neg k3]; rfl
theorem dgC_fact {h : HS} (w : Psi h) {i : Nat} (hi : (i : Int) < h 9 8) : ∀ (nf j : Nat) (d : Int64), j ≤ 5 → 5 - j < nf → fX5_digestNode_L6 nf (i : Int) d (j : Int) h = some (dgF (fun k => kid h (i : Int) k) (chC h i) 0 (dgF (fun x => ndV (i : Int) (x : Int) h) (5 - j) j d))
  | 0, j, d, h1, h2 => by omega
  | nf + 1, j, d, h1, h2 => by
    have c0 := (w.R.g (i : Int) (by omega) hi).2.2.2.2
    rw [fX5_digestNode_L6]
    rw [wr_of (z := (j : Int)) (by omega) (by omega)]
    by_cases hj : (5 : Int) ≤ (j : Int)
    · rw [if_pos hj, dgF_en (by omega)]
      exact dgC_kids w hi zF 0 d (Nat.zero_le _) (by unfold zF chC; omega)
    · rw [if_neg hj, pX4_fact w ⟨by omega, hi⟩ (by omega), Option.bind_some, show (j : Int) + 1 = ((j + 1 : Nat) : Int) by omega, dgC_fact w hi nf (j + 1) _ (by omega) (by omega), dgF_st (j := j) (by omega)]
theorem dgC_nodes {h : HS} (w : Psi h) : ∀ (nf j : Nat) (d : Int64), (j : Int) ≤ h 9 8 → (h 9 8).toNat - j < nf → fX5_digest_L63 nf d (j : Int) h = some (dgF (fun k => h 20 (k : Int)) (h 19 1).toNat 0 (dgM h ((h 9 8).toNat - j) j d), h)
  | 0, j, d, h1, h2 => by omega
  | nf + 1, j, d, h1, h2 => by
    have n := w.R.n
    have n2 := w.T.n
    rw [fX5_digest_L63]
    unfold fX4_size fX5_digestNode
    rw [Option.bind_some, wr_of (z := h 9 8) (by omega) (by omega), wr_of (z := (j : Int)) (by omega) (by omega)]
    by_cases hj : h 9 8 ≤ (j : Int)
    · rw [if_pos hj, show (h 9 8).toNat - j = 0 by omega]
      exact dgC_tape w zF 0 d (by omega) (by unfold zF; omega)
    · have e := dgC_fact w (i := j) (by omega) zF 0 d (by omega) (by unfold zF; omega)
      have e2 : fX5_digestNode_L6 zF (j : Int) d 0 h = some (dgN h j d) := e
      rw [if_neg hj, e2, Option.bind_some, show (j : Int) + 1 = ((j + 1 : Nat) : Int) by omega, dgC_nodes w nf (j + 1) _ (by omega) (by omega), show (h 9 8).toNat - j = ((h 9 8).toNat - (j + 1)) + 1 by omega]
      rfl
theorem dgC_sq {h : HS} (w : Psi h) : ∀ (nf j : Nat) (d : Int64), j ≤ 64 → 64 - j < nf → fX5_digest_L33 nf d (j : Int) h = some (dgF (fun k => h 20 (k : Int)) (h 19 1).toNat 0 (dgM h (h 9 8).toNat 0 (dgF (fun s => h 8 (s : Int)) (64 - j) j d)), h)
  | 0, j, d, h1, h2 => by omega
  | nf + 1, j, d, h1, h2 => by
    have n := w.R.n
    rw [fX5_digest_L33]
    rw [wr_of (z := (j : Int)) (by omega) (by omega)]
    by_cases hj : (64 : Int) ≤ (j : Int)
    · rw [if_pos hj, dgF_en (by omega)]
      exact dgC_nodes w zF 0 d (by omega) (by unfold zF; omega)
    · rw [if_neg hj, cX0_piece ⟨by omega, by omega⟩, Option.bind_some, show (j : Int) + 1 = ((j + 1 : Nat) : Int) by omega, dgC_sq w nf (j + 1) _ (by omega) (by omega), dgF_st (j := j) (by omega)]
theorem dgC_st {h : HS} (w : Psi h) : ∀ (nf j : Nat) (d : Int64), j ≤ 7 → 7 - j < nf → fX5_digest_L6 nf d (j : Int) h = some (dgF (fun k => h 20 (k : Int)) (h 19 1).toNat 0 (dgM h (h 9 8).toNat 0 (dgF (fun s => h 8 (s : Int)) 64 0 (dgF (fun p => stV h (p : Int)) (7 - j) j d))), h)
  | 0, j, d, h1, h2 => by omega
  | nf + 1, j, d, h1, h2 => by
    rw [fX5_digest_L6]
    rw [wr_of (z := (j : Int)) (by omega) (by omega)]
    by_cases hj : (7 : Int) ≤ (j : Int)
    · rw [if_pos hj, dgF_en (by omega)]
      exact dgC_sq w zF 0 d (by omega) (by unfold zF; omega)
    · rw [if_neg hj, pX5_state_x w (by omega), Option.bind_some, show (j : Int) + 1 = ((j + 1 : Nat) : Int) by omega, dgC_st w nf (j + 1) _ (by omega) (by omega), dgF_st (j := j) (by omega)]
/-! the reference -/
theorem dgR_tape {h : HS} (w : Psi h) : ∀ (nf j : Nat) (d : Int64) (g : HS), zsq g h → (j : Int) ≤ h 19 1 → (h 19 1).toNat - j < nf → fX6_digest_L147 nf d (j : Int) g = some (dgF (fun k => h 20 (k : Int)) ((h 19 1).toNat - j) j d, g)
  | 0, j, d, g, e, h1, h2 => by omega
  | nf + 1, j, d, g, e, h1, h2 => by
    have n := w.T.n
    rw [fX6_digest_L147]
    rw [e.c30 (by decide), w.T.n2, wr_of (z := h 19 1) (by omega) (by omega), wr_of (z := (j : Int)) (by omega) (by omega)]
    by_cases hj : h 19 1 ≤ (j : Int)
    · rw [if_pos hj, dgF_en (by omega)]
    · rw [if_neg hj, if_pos (by omega), e.c (a := 39) (by decide), (w.T.by_ (j : Int) (by omega) (by omega)).1, show (j : Int) + 1 = ((j + 1 : Nat) : Int) by omega, dgR_tape w nf (j + 1) _ g e (by omega) (by omega), dgF_st (j := j) (by omega)]
theorem pX6_cont0 {h g : HS} (w : Psi h) (e : g 38 = h 38) {i : Int} (hi : 0 ≤ i ∧ i < h 9 8) {j : Nat} (hj : (j : Int) < h 15 i) : fX6_continuation0 i (j : Int) g = some (kid h i j) := by
  have n := w.R.n
  have c0 := (w.R.g i hi.1 hi.2).2.2.2.2
  unfold fX6_continuation0
  rw [if_pos (by omega), e, (w.C.c i hi.1 hi.2 j hj).2.1]
theorem dgR_kids {h : HS} (w : Psi h) (k66 : Int64 → Int → HS → Option (Int64 × HS)) {i : Nat} (hi : (i : Int) < h 9 8) : ∀ (nf j : Nat) (d : Int64) (g : HS), zsq g h → j ≤ chC h i → chC h i - j < nf → fX6_digest_L107 k66 nf d (i : Int) (j : Int) g = k66 (dgF (fun k => kid h (i : Int) k) (chC h i - j) j d) ((i : Int) + 1) g
  | 0, j, d, g, e, h1, h2 => by omega
  | nf + 1, j, d, g, e, h1, h2 => by
    have c0 := (w.R.g (i : Int) (by omega) hi).2.2.2.2
    have ec : ((chC h i : Nat) : Int) = h 15 (i : Int) := by unfold chC; omega
    rw [fX6_digest_L107]
    rw [(pX6_get w (e.c (a := 37) (by decide)) (q := (i : Int)) ⟨by omega, hi⟩).2.2.2.2, Option.bind_some, wr_of (z := h 15 (i : Int)) (by omega) (by omega), wr_of (z := (j : Int)) (by omega) (by omega)]
    by_cases hj : h 15 (i : Int) ≤ (j : Int)
    · rw [if_pos hj, dgF_en (by omega)]
    · rw [if_neg hj, pX6_cont0 w (e.c (a := 38) (by decide)) ⟨by omega, hi⟩ (by omega), Option.bind_some, show (j : Int) + 1 = ((j + 1 : Nat) : Int) by omega, dgR_kids w k66 hi nf (j + 1) _ g e (by omega) (by omega), dgF_st (j := j) (by omega)]
theorem dgR_fact {h : HS} (w : Psi h) (k66 : Int64 → Int → HS → Option (Int64 × HS)) {i : Nat} (hi : (i : Int) < h 9 8) : ∀ (nf j : Nat) (d : Int64) (g : HS), zsq g h → j ≤ 5 → 5 - j < nf → fX6_digest_L77 k66 nf d (i : Int) (j : Int) g = k66 (dgF (fun k => kid h (i : Int) k) (chC h i) 0 (dgF (fun x => ndV (i : Int) (x : Int) h) (5 - j) j d)) ((i : Int) + 1) g
  | 0, j, d, g, e, h1, h2 => by omega
  | nf + 1, j, d, g, e, h1, h2 => by
    have n := w.R.n
    have c0 := (w.R.g (i : Int) (by omega) hi).2.2.2.2
    rw [fX6_digest_L77]
    rw [wr_of (z := (j : Int)) (by omega) (by omega)]
    by_cases hj : (5 : Int) ≤ (j : Int)
    · rw [if_pos hj, dgF_en (by omega)]
      exact dgR_kids w k66 hi zF 0 d g e (Nat.zero_le _) (by unfold zF chC; omega)
    · have eg : fX6_get (i : Int) (j : Int) g = some (ndV (i : Int) (j : Int) h) := by
        unfold fX6_get
        rw [if_pos (by omega), e.c (a := 37) (by decide), (ndV_eq w.R ⟨by omega, hi⟩ (by omega)).1]
      rw [if_neg hj, eg, Option.bind_some, show (j : Int) + 1 = ((j + 1 : Nat) : Int) by omega, dgR_fact w k66 hi nf (j + 1) _ g e (by omega) (by omega), dgF_st (j := j) (by omega)]
theorem dgR_nodes {h : HS} (w : Psi h) : ∀ (nf j : Nat) (d : Int64) (g : HS), zsq g h → (j : Int) ≤ h 9 8 → (h 9 8).toNat - j < nf → fX6_digest_L66 nf d (j : Int) g = some (dgF (fun k => h 20 (k : Int)) (h 19 1).toNat 0 (dgM h ((h 9 8).toNat - j) j d), g)
  | 0, j, d, g, e, h1, h2 => by omega
  | nf + 1, j, d, g, e, h1, h2 => by
    have n := w.R.n
    have n2 := w.T.n
    rw [fX6_digest_L66]
    rw [e.c30 (by decide), w.R.n2, wr_of (z := h 9 8) (by omega) (by omega), wr_of (z := (j : Int)) (by omega) (by omega)]
    by_cases hj : h 9 8 ≤ (j : Int)
    · rw [if_pos hj, show (h 9 8).toNat - j = 0 by omega]
      exact dgR_tape w zF 0 d g e (by omega) (by unfold zF; omega)
    · have e1 := dgR_fact w (fun a0 a1 hh => fX6_digest_L66 nf a0 a1 hh) (i := j) (by omega) zF 0 d g e (by omega) (by unfold zF; omega)
      have e2 : fX6_digest_L77 (fun a0 a1 hh => fX6_digest_L66 nf a0 a1 hh) zF d (j : Int) 0 g = fX6_digest_L66 nf (dgN h j d) ((j : Int) + 1) g := e1
      rw [if_neg hj, e2, show (j : Int) + 1 = ((j + 1 : Nat) : Int) by omega, dgR_nodes w nf (j + 1) _ g e (by omega) (by omega), show (h 9 8).toNat - j = ((h 9 8).toNat - (j + 1)) + 1 by omega]
      rfl
theorem dgR_sq {h : HS} (w : Psi h) : ∀ (nf j : Nat) (d : Int64) (g : HS), zsq g h → j ≤ 64 → 64 - j < nf → fX6_digest_L38 nf d (j : Int) g = some (dgF (fun k => h 20 (k : Int)) (h 19 1).toNat 0 (dgM h (h 9 8).toNat 0 (dgF (fun s => h 8 (s : Int)) (64 - j) j d)), g)
  | 0, j, d, g, e, h1, h2 => by omega
  | nf + 1, j, d, g, e, h1, h2 => by
    have n := w.R.n
    rw [fX6_digest_L38]
    rw [wr_of (z := (j : Int)) (by omega) (by omega)]
    by_cases hj : (64 : Int) ≤ (j : Int)
    · rw [if_pos hj, dgF_en (by omega)]
      exact dgR_nodes w zF 0 d g e (by omega) (by unfold zF; omega)
    · rw [if_neg hj, if_pos (by omega), e.c (a := 35) (by decide), (w.B.sq (j : Int) (by omega) (by omega)).1, show (j : Int) + 1 = ((j + 1 : Nat) : Int) by omega, dgR_sq w nf (j + 1) _ g e (by omega) (by omega), dgF_st (j := j) (by omega)]
theorem dgR_st {h : HS} (w : Psi h) : ∀ (nf j : Nat) (d : Int64) (g : HS), zsq g h → j ≤ 7 → 7 - j < nf → ∃ g2, fX6_digest_L11 nf d (j : Int) g = some (dgF (fun k => h 20 (k : Int)) (h 19 1).toNat 0 (dgM h (h 9 8).toNat 0 (dgF (fun s => h 8 (s : Int)) 64 0 (dgF (fun p => stV h (p : Int)) (7 - j) j d))), g2) ∧ zsq g2 h
  | 0, j, d, g, e, h1, h2 => by omega
  | nf + 1, j, d, g, e, h1, h2 => by
    rw [fX6_digest_L11]
    rw [wr_of (z := (j : Int)) (by omega) (by omega)]
    by_cases hj : (7 : Int) ≤ (j : Int)
    · rw [if_pos hj, dgF_en (by omega)]
      exact ⟨g, dgR_sq w zF 0 d g e (by omega) (by unfold zF; omega), e⟩
    · obtain ⟨g2, e2, f2⟩ := pX6_told w e (p := (j : Int)) (by omega)
      rw [if_neg hj, e2, Option.bind_some, show (j : Int) + 1 = ((j + 1 : Nat) : Int) by omega, dgF_st (j := j) (by omega)]
      exact dgR_st w nf (j + 1) _ g2 (f2.sq.tr e) (by omega) (by omega)
theorem qc_21 {h : HS} (w : Psi h) : ∃ o, fL_c21 h = some o ∧ Psi o := by
  have e1 := dgC_st w zF 0 353 (by omega) (by unfold zF; omega)
  obtain ⟨g2, e2, f2⟩ := dgR_st w zF 0 353 (hs h 30 0 0) (zsq.rf.h30 0) (by omega) (by unfold zF; omega)
  have f3 : fX5_digest h = _ := e1
  have f4 : fX6_digest h = _ := e2
  unfold fL_c21
  rw [f3, Option.bind_some, f4, Option.bind_some]
  exact ⟨g2, if_pos (zcmp_0.mpr rfl), w.sq f2⟩
end ZDIG
