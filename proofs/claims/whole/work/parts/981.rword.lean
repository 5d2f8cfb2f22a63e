section ZRWORD
theorem rgR_tr {x y : Option (Int × HS)} {X Y C G : HS} (r : rgR x y X Y) (h : ∀ a : Nat, a < 30 → Y a = G a) (h2 : ∀ a : Nat, 30 ≤ a → X a = C a) : rgR x y C G := by
  obtain ⟨e, C1, G1, a1, a2, a3, a4, a5, a6⟩ := r
  exact ⟨e, C1, G1, a1, a2, a3, a4, fun a ha => by rw [a5 a ha, h a ha], fun a ha => by rw [a6 a ha, h2 a ha]⟩
theorem weN_cg {o h : HS} (e1 : o 19 1 = h 19 1) (e2 : o 20 = h 20) : ∀ (m : Nat) (p : Int), weN o m p = weN h m p
  | 0, p => rfl
  | m + 1, p => by
    unfold weN
    rw [wdB_cg e1 e2, weN_cg e1 e2 m (p + 1)]
theorem midW {H : HS} (w : PcT H) (h13 : H 0 13 = -1) : ∀ (k nf : Nat) (q : Int), 0 ≤ q → (∀ i : Int, q ≤ i → i < q + k → wdB H i = true ∧ wdB H (i - 1) = true) → fX5_readGame_L23 (nf + k) 0 q H = fX5_readGame_L23 nf 0 (q + k) H
  | 0, nf, q, q0, h => by rw [show q + ((0 : Nat) : Int) = q by omega]; rfl
  | k + 1, nf, q, q0, h => by
    have n := w.1
    obtain ⟨a1, a2⟩ := h q (Int.le_refl _) (by omega)
    obtain ⟨b1, b2, b3, b4⟩ := wdB_t.mp a1
    have bb := w.2 q b1.1 b1.2
    have ih := midW w h13 k nf (q + 1) (by omega) (fun i i0 i1 => h i (by omega) (by omega))
    rw [show nf + (k + 1) = (nf + k) + 1 by omega, fX5_readGame_L23]
    unfold fX3_size
    rw [Option.bind_some, wr_of (z := H 19 1) (by omega) (by omega), wr_of (z := q) (by omega) (by omega), if_neg (by omega), if_pos wr_0, ucX3_get n.2 b1, Option.bind_some, Option.bind_some, wr_of (z := H 20 q) (by omega) (by omega), if_neg b3, if_neg b4, cX3_start w (by omega), if_neg (show ¬ (wdB H q = true ∧ wdB H (q - 1) = false) from fun k => by rw [a2] at k; exact absurd k.2 (by decide)), Option.bind_some, if_pos wr_0]
    unfold fX5_readGame_b132 fX5_readGame_b142
    rw [if_pos wr_0, hs_id h13, show q + ((k + 1 : Nat) : Int) = q + 1 + (k : Int) by omega]
    exact ih
theorem L170_at {V g : HS} (w : Psi V) (e : zqm g V) (k20 : Int → Int → Int → HS → Option (Int × HS)) {op b : Int} : ∀ (nf m : Nat) (x : Int), 0 ≤ x → x + m = V 19 1 → m < nf → fX6_readGame_L170 k20 nf op x b g = (fX6_readMove b (weN V m x) g).bind fun r4 => if wr r4.1 = 0 then if wr (r4.2 30 8) = (200 : Int) then (fX6_known (r4.2 30 19) (r4.2 30 20) r4.2).bind fun r5 => if wr r5 = ((-1) : Int) then (fX6_stop 9 b r4.2).bind fun r6 => some (r6.1, r6.2) else if (zk g) ≤ zk r4.2 then fX6_readGame_b242 k20 op (weN V m x) r4.2 else none else if (zk g) ≤ zk r4.2 then fX6_readGame_b242 k20 op (weN V m x) r4.2 else none else (fX6_stop r4.1 b r4.2).bind fun r7 => some (r7.1, r7.2)
  | 0, m, x, x0, hx, hnf => by omega
  | nf + 1, m, x, x0, hx, hnf => by
    have n := w.T.n
    obtain ⟨z1, z2⟩ := zk_of w (g := g) (by rw [e.c30 (b := 8) (by decide), w.R.n2])
    rw [fX6_readGame_L170]
    rw [if_pos z2, mX6_word w e (by omega), Option.bind_some]
    cases m with
    | zero =>
      rw [if_neg (show ¬ wdB V x = true from fun k => by have := (wdB_t.mp k).1; omega), if_pos wr_0]
      rfl
    | succ m =>
      have eu : weN V (m + 1) x = if wdB V x = true then weN V m (x + 1) else x := rfl
      rw [eu]
      by_cases q : wdB V x = true
      · rw [if_pos q, if_neg (show ¬ wr 1 = 0 by decide), if_pos (Nat.le_refl _), if_pos q]
        exact L170_at w e k20 nf m (x + 1) (by omega) (by omega) (by omega)
      · rw [if_neg q, if_pos wr_0, if_neg q]
theorem folT_34 {f t : Int} {h : HS} : folT f t h 34 = h 34 ∧ (∀ b : Int, b ≠ 8 → folT f t h 30 b = h 30 b) ∧ folT f t h 19 = h 19 ∧ folT f t h 20 = h 20 ∧ folT f t h 0 = h 0 := by
  unfold folT
  split
  · exact ⟨grA_ne (by decide), fun b hb => by rw [grA_30, if_neg hb], grA_ne (by decide), grA_ne (by decide), grA_ne (by decide)⟩
  · exact ⟨rfl, fun _ _ => rfl, rfl, rfl, rfl⟩
theorem folT_sz {f t : Int} {h : HS} : folT f t h 9 8 = if knV h f t = -1 then h 9 8 + 1 else h 9 8 := by
  unfold folT
  split
  · exact grA_9
  · rfl
/-- a fact put out of sight of the arithmetic -/
def Hd (P : Prop) : Prop := P
theorem Hd.o {P : Prop} (h : Hd P) : P := h
theorem Hd.i {P : Prop} (h : P) : Hd P := h
/-- a legal move is followed on both sides -/
theorem rg_succ {X Y : HS} (wH : Hd (Psi (mg X Y))) (e34 : X 34 = Y 34) {f t op : Int} {e : Nat} (hf : 0 ≤ f ∧ f < 64) (ht : 0 ≤ t ∧ t < 64) (hb : 0 ≤ X 8 f) (full : ¬ (knV (mg X Y) f t = -1 ∧ 200 ≤ mg X Y 9 8)) (x13 : X 0 13 = -1) (y19 : Y 30 19 = f) (y20 : Y 30 20 = t) : ∃ X2 Y2, fX5_follow f t X = some (1, X2) ∧ (∀ k20 : Int → Int → Int → HS → Option (Int × HS), fX6_readGame_b242 k20 op (e : Int) Y = k20 op 0 (e : Int) Y2) ∧ Hd (Psi (mg (hs (hs X2 0 10 0) 0 13 (-1)) Y2)) ∧ hs (hs X2 0 10 0) 0 13 (-1) 34 = Y2 34 ∧ X2 0 9 = X 0 9 ∧ Y2 30 14 = Y 30 14 ∧ (X2 19 = X 19 ∧ X2 20 = X 20 ∧ X2 24 = X 24 ∧ Y2 42 = Y 42) ∧ X 9 8 ≤ X2 9 8 ∧ (∀ a : Nat, a < 30 → Y2 a = Y a) ∧ (∀ a : Nat, 30 ≤ a → X2 a = X a) := by
  have qY : zqm Y (mg X Y) := mg_qm
  have nY := wH.o.R.n
  have e8 : Y 30 8 = mg X Y 9 8 := by rw [qY.c30 (b := 8) (by decide), wH.o.R.n2]
  obtain ⟨zY1, zY2⟩ := zk_of wH.o (g := Y) e8
  have ekn : knV X f t = knV (mg X Y) f t := knV_qc (mg_qc e34)
  have e98 : mg X Y 9 8 = X 9 8 := by rw [mg_l (by decide)]
  have wX : Hd (PsiC X) := Hd.i (wH.o.cc.sq (mg_qc e34))
  obtain ⟨X2, eX2, m1, m2, m3⟩ := followC wX.o hf ht (by rw [ekn, ← e98]; exact full)
  obtain ⟨qT, qP⟩ := folT_qc (mg_qc e34) (f := f) (t := t)
  have m1b := mC_qc m1 qT
  rw [qP] at m1b
  have wTH : Hd (Psi (folT f t (mg X Y)) ∧ 0 ≤ folP f t (mg X Y) ∧ folP f t (mg X Y) < folT f t (mg X Y) 9 8) := Hd.i (folT_psi wH.o hf ht (by rw [mg_l (by decide)]; exact hb) full)
  obtain ⟨T34, T30, T19, T20, T0⟩ := @folT_34 f t (mg X Y)
  have Tsz := @folT_sz f t (mg X Y)
  have Tn2 := wTH.o.1.R.n2
  have pl : ∃ Y2, mM Y2 (folT f t (mg X Y)) (folP f t (mg X Y)) Y ∧ (∀ k20 : Int → Int → Int → HS → Option (Int × HS), fX6_readGame_b242 k20 op (e : Int) Y = k20 op 0 (e : Int) Y2) := by
    by_cases kn : knV (mg X Y) f t = -1
    · obtain ⟨Y2, eY2, my⟩ := playOnR wH.o qY hf ht full
      refine ⟨Y2, my, fun k20 => ?_⟩
      have e28 : Y2 30 8 = mg X Y 9 8 + 1 := by
        rw [my.1 30 8 (by decide) (by decide) (by decide), Tn2, Tsz, if_pos kn]
      have zk2 : zk Y2 = zk Y + 1 := by
        unfold zk
        rw [e28, e8]
        clear my full Tsz Tn2 T30
        omega
      unfold fX6_readGame_b242
      rw [if_pos zY2, y19, y20, knR wH.o qY hf ht, Option.bind_some, kn, if_pos (show wr (-1) = -1 by decide), if_pos (by clear my Tsz Tn2 T30; omega), eY2, Option.bind_some, if_pos (by rw [zk2]; exact Nat.le_refl _)]
    · have my := playOnK wH.o qY (f := f) (t := t) kn
      refine ⟨_, my, fun k20 => ?_⟩
      obtain ⟨⟨kr1, kr2⟩, -⟩ := knV_rg wH.o.cc kn
      have e28 : mvM f t (hs Y 30 9 (knV (mg X Y) f t)) 30 8 = mg X Y 9 8 := by
        rw [mvM_at (by decide), hs_at, if_pos rfl, if_neg (by decide), e8]
      have zk2 : zk (mvM f t (hs Y 30 9 (knV (mg X Y) f t))) = zk Y := by
        unfold zk
        rw [e28, e8]
      have wk : wr (knV (mg X Y) f t) = knV (mg X Y) f t := wr_of (by clear my Tsz Tn2 T30; omega) (by clear my Tsz Tn2 T30; omega)
      unfold fX6_readGame_b242 fX6_playOn_k
      rw [if_pos zY2, y19, y20, knR wH.o qY hf ht, Option.bind_some, wk, if_neg kn, Option.bind_some, wk, if_neg kn, umX6_play hf ht, Option.bind_some, Option.bind_some, if_pos (by rw [zk2]; exact Nat.le_refl _)]
  obtain ⟨Y2, my, pl2⟩ := pl
  have nS : ∀ a : Nat, ¬ (a = 50 ∨ a = 18 ∨ a = 21 ∨ a = 22 ∨ a = 23 ∨ a = 24 ∨ a = 36 ∨ a = 40 ∨ a = 41 ∨ a = 42 ∨ a = 90 ∨ a = 91 ∨ a = 0 ∨ a = 30) → ∀ b : Int, ¬ scr a b := fun a ha b k => ha (by rcases k with k | k | k <;> omega)
  have f19 : X2 19 = X 19 := by
    funext b
    rw [m1b.1 19 b (by decide) (nS 19 (by decide) b) (by omega), T19, mg_l (by decide)]
  have f20 : X2 20 = X 20 := by
    funext b
    rw [m1b.1 20 b (by decide) (nS 20 (by decide) b) (by omega), T20, mg_l (by decide)]
  have Y234 : Y2 34 = Y 34 := by
    funext b
    rw [my.1 34 b (by decide) (nS 34 (by decide) b) (by omega), T34, mg_r (by decide)]
  have Y214 : Y2 30 14 = Y 30 14 := by
    rw [my.1 30 14 (by decide) (by decide) (by decide), T30 14 (by decide), mg_r (by decide)]
  have X298 : X 9 8 ≤ X2 9 8 := by
    rw [m1b.1 9 8 (by decide) (by decide) (by decide), Tsz, e98]
    split
    · exact Int.le_add_one (Int.le_refl _)
    · exact Int.le_refl _
  refine ⟨X2, Y2, eX2, pl2, Hd.i ?_, ?_, m3 9 (by decide), Y214, ⟨f19, f20, m2, my.2.2.2.2.2.2⟩, X298, my.2.2.2.1, m1b.2.2.2⟩
  · refine fol_psi wTH.o.1 wTH.o.2 m1b my (fun a b ha hn => ?_) (fun a b ha hn => by rw [mg_r ha])
    rw [mg_l ha]
    by_cases a0 : a = 0
    · subst a0
      by_cases h13 : b = 13
      · rw [h13, hs_self, m3 13 (by decide), x13]
      · rw [hs_at, if_pos rfl, if_neg h13, hs_at, if_pos rfl, if_neg (fun k => hn (Or.inr (Or.inl ⟨rfl, Or.inr (Or.inl k)⟩)))]
    · rw [hs_ne _ _ _ a0, hs_ne _ _ _ a0]
  · rw [hs_ne _ _ _ (by decide), hs_ne _ _ _ (by decide), m1b.2.2.2 34 (by decide), Y234, e34]
theorem rg_word {C G : HS} {op mv : Int} {p nfC nfR : Nat} (I : rgI C G op mv p) (hp : (p : Int) < C 19 1) (hw : wdB C p = true) (hb : wdB C ((p : Int) - 1) = false) (hC : (C 19 1).toNat - p < nfC + 1) (hR : (C 19 1).toNat - p < nfR + 1) (next : ∀ (e : Nat) (C2 G2 : HS) (op2 mv2 : Int) (nfC2 nfR2 : Nat), p < e → rgI C2 G2 op2 mv2 e → C2 19 = C 19 → C2 20 = C 20 → (e : Int) ≤ C 19 1 → (C 19 1).toNat - e < nfC2 → (C 19 1).toNat - e < nfR2 → (wdB C2 e = true → wdB C2 ((e : Int) - 1) = false) → rgR (fX5_readGame_L23 nfC2 0 (e : Int) C2) (fX6_readGame_L20 nfR2 op2 mv2 (e : Int) G2) C2 G2) : rgR (fX5_readGame_L23 (nfC + 1) 0 (p : Int) C) (fX6_readGame_L20 (nfR + 1) op mv (p : Int) G) C G := by
  obtain ⟨w0, e34, ⟨i1, i2, i3, i4⟩, i5, i6, i7⟩ := I
  have w : Hd (Psi (mg C G)) := Hd.i w0
  have wc : Hd (PsiC C) := Hd.i (w0.cc.sq (mg_qc e34))
  clear w0
  have qm : zqm G (mg C G) := mg_qm
  have n := wc.o.T.1
  obtain ⟨b1, b2, b3, b4⟩ := wdB_t.mp hw
  have bv := wc.o.T.2 (p : Int) b1.1 b1.2
  have e13 : G 30 13 = C 19 1 := by rw [qm.c30 (b := 13) (by decide), w.o.T.n2, mg_l (by decide)]
  have e39 : G 39 p = C 20 p := by rw [qm.c (a := 39) (by decide), (w.o.T.by_ (p : Int) (by omega) (by rw [mg_l (by decide)]; omega)).1, mg_l (by decide)]
  obtain ⟨z1, z2⟩ := zk_of w.o (g := G) (by rw [qm.c30 (b := 8) (by decide), w.o.R.n2])
  have hp2 : 0 ≤ (p : Int) ∧ (p : Int) < 2000 := by omega
  -- the end of the word
  obtain ⟨m, hm⟩ : ∃ m : Nat, (p : Int) + 1 + m = C 19 1 := ⟨(C 19 1 - p - 1).toNat, by omega⟩
  obtain ⟨w1, w2, w3⟩ := @weN_rg C m ((p : Int) + 1)
  have w4 := @weN_end C m ((p : Int) + 1) (by omega)
  obtain ⟨e, ee⟩ : ∃ e : Nat, (e : Int) = weN C m ((p : Int) + 1) := ⟨(weN C m ((p : Int) + 1)).toNat, by omega⟩
  have ewe : fX3_wordEnd (p : Int) C = some (e : Int) := by
    have := cX3_end wc.o.T zF (m + 1) (p : Int) (by omega) (by omega) (by unfold zF; omega)
    have eu : weN C (m + 1) (p : Int) = if wdB C (p : Int) = true then weN C m ((p : Int) + 1) else (p : Int) := rfl
    rw [eu, if_pos hw, ← ee] at this
    exact this
  rw [← ee] at w1 w2 w3 w4
  obtain ⟨k, hk⟩ : ∃ k : Nat, e = p + 1 + k := ⟨e - p - 1, by omega⟩
  obtain ⟨u, eu⟩ : ∃ u, u = wdL (C 20) (p : Int) (k + 1) := ⟨_, rfl⟩
  have ul : (p : Int) + (u.length : Int) = e := by rw [eu, wdL_len]; omega
  have ub : byL u := by rw [eu]; exact wdL_by wc.o.T (by omega) (by omega)
  have ut : tpL (C 20) (p : Int) u := by rw [eu]; exact wdL_tp
  obtain ⟨X, x1, x2, x3, -⟩ := judgeC wc.o ub (b0 := (p : Int)) (by omega) (by omega) ut
  obtain ⟨Y, y1, y2, y3, y4, -⟩ := judgeR w.o qm ub (b0 := (p : Int)) (by omega) (by rw [mg_l (by decide)]; omega) (by rw [mg_l (by decide)]; exact ut)
  obtain ⟨J, eJ⟩ : ∃ J, J = jdg (C 1 5) (C 2) (kOf C) (C 8) (trn C) u := ⟨_, rfl⟩
  have eJ2 : J = jdg (mg C G 1 5) (mg C G 2) (kOf (mg C G)) (mg C G 8) (trn (mg C G)) u := eJ
  have jr := @jdg_rg (C 1 5) (C 2) (kOf C) (C 8) (trn C) u
  have j0 := @jdg_0 (C 1 5) (C 2) (kOf C) (C 8) (trn C) u trn_01
  rw [← eJ, ul] at x1
  rw [← eJ] at x2 jr j0
  rw [← eJ2, ul] at y1
  rw [← eJ2] at y2
  have Xf : ∀ a : Nat, a ≠ 18 → a ≠ 0 → X a = C a := fun a h1 h2 => by
    funext b
    exact x3 a b h1 (fun k => h2 k.1)
  have X0 : ∀ b : Int, b ≠ 11 → b ≠ 12 → X 0 b = C 0 b := fun b h1 h2 => x3 0 b (by decide) (by omega)
  have Yc : ∀ a : Nat, a < 30 → Y a = G a := fun a ha => y3 a (by omega) (by omega)
  have sqV : zsq (mg X Y) (mg C G) := fun a b hn => by
    by_cases ha : a < 30
    · rw [mg_l ha, mg_l ha]
      exact x3 a b (fun k => hn (Or.inl (by omega))) (fun k => hn (Or.inr (Or.inl ⟨k.1, by omega⟩)))
    · rw [mg_r (by omega), mg_r (by omega)]
      by_cases a30 : a = 30
      · subst a30
        exact y4 b (fun k => hn (Or.inr (Or.inr ⟨rfl, by omega⟩)))
      · rw [y3 a (fun k => hn (Or.inl (by omega))) a30]
  have wV : Hd (Psi (mg X Y)) := Hd.i (w.o.sq sqV)
  have e34X : X 34 = Y 34 := by rw [Xf 34 (by decide) (by decide), y3 34 (by decide) (by decide), e34]
  have wX : Hd (PsiC X) := Hd.i (wV.o.cc.sq (mg_qc e34X))
  have qY : zqm Y (mg X Y) := mg_qm
  -- the class's state with no move due
  have wX10 : Hd (Psi (mg (hs X 0 10 0) Y)) := Hd.i (wV.o.sq (fun a b hn => by
    by_cases ha : a < 30
    · rw [mg_l ha, mg_l ha]
      by_cases a0 : a = 0
      · subst a0
        rw [hs_at, if_pos rfl, if_neg (fun k => hn (Or.inr (Or.inl ⟨rfl, by omega⟩)))]
      · rw [hs_ne _ _ _ a0]
    · rw [mg_r (by omega), mg_r (by omega)]))
  have stop : ∀ err : Int, 1 ≤ err ∧ err ≤ 9 → rgR (fX5_readGame_b127 (fun a0 a1 hh => fX5_readGame_L23 nfC a0 a1 hh) err (p : Int) X) ((fX6_stop err (p : Int) Y).bind fun r => some (r.1, r.2)) C G := fun err herr => by
    obtain ⟨nf2, rfl⟩ : ∃ nf2, nfC = nf2 + 1 := ⟨nfC - 1, by omega⟩
    unfold fX5_readGame_b127
    rw [if_pos (Or.inl rfl)]
    exact rgR_tr (rg_stop wX10.o (by rw [hs_ne _ _ _ (by decide), e34X]) herr (by omega)) Yc (fun a ha => by rw [hs_ne _ _ _ (by omega), Xf a (by omega) (by omega)])
  rw [fX5_readGame_L23, fX6_readGame_L20]
  unfold fX3_size
  rw [Option.bind_some, if_pos z2, e13, wr_of (z := C 19 1) (by omega) (by omega), wr_of (z := (p : Int)) (by omega) (by omega), if_neg (by omega), if_pos wr_0, if_neg (by omega), ucX3_get n.2 b1, Option.bind_some, Option.bind_some, wr_of (z := C 20 (p : Int)) (by omega) (by omega), if_neg b3, if_neg b4, cX3_start wc.o.T (by omega), if_pos (show wdB C p = true ∧ wdB C ((p : Int) - 1) = false from ⟨hw, hb⟩), Option.bind_some, if_neg (show ¬ wr 1 = 0 by decide), ewe, Option.bind_some, x1, Option.bind_some, if_pos hp2, e39, wr_of (z := C 20 (p : Int)) (by omega) (by omega), if_neg b3, if_pos hp2, if_neg b4, if_pos hp2, if_neg b2, if_pos (Nat.le_refl _), L170_at w.o qm _ zF m ((p : Int) + 1) (by omega) (by rw [mg_l (by decide)]; omega) (by unfold zF; omega), weN_cg (o := mg C G) (h := C) (by rw [mg_l (by decide)]) (mg_l (by decide)), ← ee, y1, Option.bind_some]
  dsimp only
  rw [wr_of (z := J.1) (by omega) (by omega)]
  by_cases q0 : J.1 = 0
  · obtain ⟨j1, j2, j3⟩ := j0 q0
    obtain ⟨xa, xb⟩ := x2 q0
    obtain ⟨ya, yb⟩ := y2 q0
    obtain ⟨f, ef⟩ : ∃ f, f = J.2.1 := ⟨_, rfl⟩
    obtain ⟨t, et⟩ : ∃ t, t = J.2.2 := ⟨_, rfl⟩
    rw [← ef] at j1 j3 xa ya
    rw [← et] at j2 xb yb
    have nY := wV.o.R.n
    have e8 : Y 30 8 = mg X Y 9 8 := by rw [qY.c30 (b := 8) (by decide), wV.o.R.n2]
    obtain ⟨zY1, zY2⟩ := zk_of wV.o (g := Y) e8
    have ekn : knV X f t = knV (mg X Y) f t := knV_qc (mg_qc e34X)
    have e98 : mg X Y 9 8 = X 9 8 := by rw [mg_l (by decide)]
    have zkY : zk G = zk Y := by
      unfold zk
      rw [y4 8 (by decide)]
    have ew : wr (Y 30 8) = mg X Y 9 8 := by rw [e8, wr_of (z := mg X Y 9 8) (by omega) (by omega)]
    rw [if_pos q0, if_pos q0, xa, xb, ya, yb, q0, knR wV.o qY j1 j2, Option.bind_some, if_pos (show zk G ≤ zk Y by rw [zkY]; exact Nat.le_refl _)]
    by_cases full : knV (mg X Y) f t = -1 ∧ 200 ≤ mg X Y 9 8
    · rw [followN wX.o j1 j2 ⟨by rw [ekn]; exact full.1, by rw [← e98]; exact full.2⟩, Option.bind_some, if_pos wr_0, if_pos (show wr (Y 30 8) = 200 by omega), full.1, if_pos (show wr (-1) = -1 by decide)]
      exact stop 9 (by omega)
    · obtain ⟨X2, Y2, eX2, pl2, wN, g34, g9, g14, ⟨f19, f20, f24, f42⟩, gsz, gcl, gcr⟩ := rg_succ (op := op) (e := e) wV e34X j1 j2 (by rw [Xf 8 (by decide) (by decide)]; exact j3) full (by rw [X0 13 (by decide) (by decide), i3]) ya yb
      have er : ∀ k20 : Int → Int → Int → HS → Option (Int × HS), (if wr (Y 30 8) = 200 then (if wr (knV (mg X Y) f t) = -1 then (fX6_stop 9 (p : Int) Y).bind fun r6 => some (r6.1, r6.2) else fX6_readGame_b242 k20 op (e : Int) Y) else fX6_readGame_b242 k20 op (e : Int) Y) = k20 op 0 (e : Int) Y2 := fun k20 => by
        rw [pl2 k20]
        by_cases h200 : wr (Y 30 8) = 200
        · have kn : ¬ knV (mg X Y) f t = -1 := fun k => full ⟨k, by omega⟩
          obtain ⟨⟨kr1, kr2⟩, -⟩ := knV_rg wV.o.cc kn
          rw [if_pos h200, wr_of (z := knV (mg X Y) f t) (by omega) (by omega), if_neg kn]
        · rw [if_neg h200]
      rw [er, eX2, Option.bind_some]
      dsimp only
      rw [if_neg (show ¬ wr 1 = 0 by decide)]
      unfold fX5_readGame_b127 fX5_readGame_b132 fX5_readGame_b142
      rw [if_pos (Or.inl rfl), if_pos wr_0]
      obtain ⟨C2, eC⟩ : ∃ C2, C2 = hs (hs X2 0 10 0) 0 13 (-1) := ⟨_, rfl⟩
      have C2ne : ∀ a : Nat, a ≠ 0 → C2 a = X2 a := fun a h1 => by rw [eC, hs_ne _ _ _ h1, hs_ne _ _ _ h1]
      have C20 : ∀ b : Int, b ≠ 10 → b ≠ 13 → C2 0 b = X2 0 b := fun b h1 h2 => by rw [eC, hs_at, if_pos rfl, if_neg h2, hs_at, if_pos rfl, if_neg h1]
      have C210 : C2 0 10 = 0 := by rw [eC, hs_at, if_pos rfl, if_neg (by decide), hs_self]
      have C213 : C2 0 13 = -1 := by rw [eC, hs_self]
      rw [← eC] at wN g34
      have c19 : C2 19 = C 19 := by rw [C2ne 19 (by decide), f19, Xf 19 (by decide) (by decide)]
      have c20 : C2 20 = C 20 := by rw [C2ne 20 (by decide), f20, Xf 20 (by decide) (by decide)]
      have I2 : Hd (rgI C2 Y2 op 0 e) := Hd.i ⟨wN.o, g34, ⟨by rw [C20 9 (by decide) (by decide), g9, X0 9 (by decide) (by decide), i1], C210, C213, by rw [g14, y4 14 (by decide), i4]⟩, Or.inl rfl, by omega, fun i i0 i1 => by
        obtain ⟨s1, s2, s3⟩ := i7 i i0 i1
        have ey : Y2 42 = G 42 := by rw [f42, y3 42 (by decide) (by decide)]
        rw [C2ne 24 (by decide), f24, Xf 24 (by decide) (by decide), ey, C2ne 9 (by decide)]
        rw [← Xf 9 (by decide) (by decide)] at s3
        exact ⟨s1, s2, Int.lt_of_lt_of_le s3 gsz⟩⟩
      have wd2 : ∀ q : Int, wdB C2 q = wdB C q := wdB_cg (by rw [c19]) c20
      have wcT2 : Hd (PcT C2) := Hd.i ⟨by rw [c19]; exact n, by rw [c19, c20]; exact wc.o.T.2⟩
      obtain ⟨nf2, hnf2⟩ : ∃ nf2, nfC = nf2 + k := ⟨nfC - k, by omega⟩
      have em := midW wcT2.o C213 k nf2 ((p : Int) + 1) (by omega) (fun i i0 i1 => by
        rw [wd2, wd2]
        refine ⟨w3 i i0 (by omega), ?_⟩
        rcases (show i = (p : Int) + 1 ∨ (p : Int) + 1 ≤ i - 1 by omega) with k1 | k1
        · rw [k1, show (p : Int) + 1 - 1 = (p : Int) by omega]
          exact hw
        · exact w3 (i - 1) k1 (by omega))
      rw [← hnf2, show (p : Int) + 1 + (k : Int) = (e : Int) by omega] at em
      have res := next e C2 Y2 op 0 nf2 nfR (by omega) I2.o c19 c20 (by omega) (by omega) (by omega) (fun k1 => by rw [wd2, w4] at k1; exact absurd k1 (by decide))
      rw [← em] at res
      rw [eC] at res
      exact rgR_tr res (fun a ha => by rw [gcl a ha, Yc a ha]) (fun a ha => by rw [hs_ne _ _ _ (by omega), hs_ne _ _ _ (by omega), gcr a ha, Xf a (by omega) (by omega)])
  · rw [if_neg q0, if_neg q0]
    exact stop J.1 (by omega)
end ZRWORD
