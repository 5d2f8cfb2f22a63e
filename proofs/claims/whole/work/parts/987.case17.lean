section ZCASE17
theorem cI.v {h X : HS} {q : Int} {D : List Int} {v : Int → Int} (c : cI h q D X) : cI h q D (h23 X v) := ⟨fun a b ha hn => by
  rw [h23_ne (fun k => hn (Or.inl (by omega)))]
  exact c.1 a b ha hn, fun a ha => by rw [h23_ne (by omega), c.2.1 a ha], by rw [h23_ne (by decide)]; exact c.2.2.1, by rw [h23_ne (by decide), h23_ne (by decide)]; exact c.2.2.2.1, c.2.2.2.2⟩
/-- the class's text of a game -/
theorem gameC {h : HS} (w : Hd (Psi h)) : ∃ Z, fX5_writeGame h = some (0, ((gT h 200 0 []).length : Int), hsw Z) ∧ cI h (h 0 8) (gT h 200 0 []) Z := by
  have n := w.o.R.n
  have p := w.o.P.n
  have gn := gN_le w 200
  obtain ⟨v, ev⟩ := visit_at w.o.cc (p := 0) (by omega) (by omega) p.1.1 p.1.2
  rw [atN_self w.o.cc] at ev
  obtain ⟨W, eW⟩ : ∃ W, W = hs (hs (atN (h23 h v) 0) 21 1 0) 21 2 0 := ⟨_, rfl⟩
  have Wne : ∀ a : Nat, a ≠ 21 → W a = atN (h23 h v) 0 a := fun a ha => by rw [eW, hs_ne _ _ _ ha, hs_ne _ _ _ ha]
  have c0 : cI h 0 [] W := by
    have q := atN_qc (p := 0) (X := h23 h v) (h := h) (q := h 0 8) (by rw [atN_self w.o.cc]; exact h23_sq.qc)
    refine ⟨fun a b ha hn => ?_, fun a ha => ?_, by rw [eW, hs_self], ?_, fun x hx => absurd hx List.not_mem_nil⟩
    · rw [Wne a (fun k => hn (Or.inl (by omega)))]
      exact q a b ha hn
    · rw [Wne a (by omega), atN_ne (by omega) (by omega), h23_ne (by omega)]
    · have e1 : W 21 1 = 0 := by rw [eW, hs_at, if_pos rfl, if_neg (by decide), hs_self]
      rw [e1]
      exact txt_nil
  obtain ⟨Y, y1, y2⟩ := cwalk (stay := h 0 8) w 200 0 [] W 0 (zF - (2 * gN h 200 0 + 1)) (by omega) (by omega) c0 (by simp only [List.length_nil]; omega) (by omega)
  rw [lv_top w y1, Option.bind_some, show zF - (2 * gN h 200 0 + 1) + (2 * gN h 200 0 + 1) = zF by unfold zF; omega] at y2
  dsimp only at y2
  obtain ⟨m, hm⟩ : ∃ m, zF - (2 * gN h 200 0 + 1) = m + 1 := ⟨zF - (2 * gN h 200 0 + 1) - 1, by unfold zF; omega⟩
  have wY := y1.pc w ⟨by omega, by omega⟩
  have eY9 : Y 9 = h 9 := y1.c (by decide) (by decide)
  obtain ⟨v2, ev2⟩ := visit_at wY.o (p := h 0 8) p.1.1 (by rw [eY9]; exact p.1.2) (q := 0) (by omega) (by rw [eY9]; omega)
  have es := atN_self wY.o
  rw [y1.c08] at es
  rw [es] at ev2
  obtain ⟨Z, eZ⟩ : ∃ Z, Z = atN (h23 Y v2) (h 0 8) := ⟨_, rfl⟩
  have cZ : cI h (h 0 8) (gT h 200 0 []) Z := by
    rw [eZ]
    exact (y1.v).go
  have sz := cZ.2.2.2.1.1
  have e105 : fX5_writeGame_b105 (h 0 8) Y = some (0, ((gT h 200 0 []).length : Int), hsw Z) := by
    unfold fX5_writeGame_b105 fX3_hasSpilled_d fX3_size_d
    rw [ev2, Option.bind_some, ← eZ, cZ.2.2.1, if_pos (Or.inl rfl), Option.bind_some, if_pos wr_0, Option.bind_some, sz]
  have eL : fX5_writeGame_L21 (m + 1) (h 0 8) (-1) ((0 + (2 * gN h 200 0 + 1) : Nat) : Int) Y = some (0, ((gT h 200 0 []).length : Int), hsw Z) := by
    rw [fX5_writeGame_L21]
    rw [if_pos (show wr (-1) = -1 by decide), ite_self]
    exact e105
  rw [hm, eL] at y2
  refine ⟨Z, ?_, cZ⟩
  unfold fX5_writeGame fX3_wipe_d
  rw [ev, Option.bind_some, if_pos (Or.inl rfl), Option.bind_some, ← eW]
  exact y2
theorem hsw_ne {h : HS} {a : Nat} (ha : ¬ (a = 19 ∨ a = 20 ∨ a = 21 ∨ a = 22)) : hsw h a = h a := by
  unfold hsw zsw
  rw [if_neg (by omega), if_neg (by omega), if_neg (by omega), if_neg (by omega)]
theorem qc_17 {h : HS} (w0 : Psi h) : ∃ o, fL_c17 h = some o ∧ Psi o := by
  have w : Hd (Psi h) := Hd.i w0
  clear w0
  have eg : fL_c17 h = gC (fL_writeGame h) fX6_writeGame := rfl
  have n := w.o.R.n
  have p := w.o.P.n
  have gn := gN_le w 200
  obtain ⟨Z, z1, z2⟩ := gameC w
  obtain ⟨u, eu⟩ : ∃ u, u = gT h 200 0 [] := ⟨_, rfl⟩
  have ul := gT_len (h := h) 200 0 []
  rw [← eu] at z1 z2 ul
  simp only [List.length_nil] at ul
  have qZ : zqc Z h := by
    have := z2.1
    rw [atN_self w.o.cc] at this
    exact this
  obtain ⟨X, eX⟩ : ∃ X, X = hsw Z := ⟨_, rfl⟩
  have X19 : X 19 = Z 21 := by rw [eX]; rfl
  have X20 : X 20 = Z 22 := by rw [eX]; rfl
  have Xne : ∀ a : Nat, ¬ (a = 19 ∨ a = 20 ∨ a = 21 ∨ a = 22) → X a = Z a := fun a ha => by rw [eX, hsw_ne ha]
  rw [eg]
  unfold fL_writeGame
  rw [z1, Option.bind_some, if_pos rfl, ← eX]
  obtain ⟨g, eg2⟩ : ∃ g, g = hs X 50 0 (wr (u.length : Int)) := ⟨_, rfl⟩
  have gne : ∀ a : Nat, a ≠ 50 → g a = X a := fun a ha => by rw [eg2, hs_ne _ _ _ ha]
  have g30 : ∀ a : Nat, 30 ≤ a → a ≠ 50 → g a = h a := fun a h1 h2 => by rw [gne a h2, Xne a (by omega), z2.2.1 a h1]
  obtain ⟨P, eP⟩ : ∃ P, P = hs (hs (hs g 30 0 0) 30 23 0) 30 24 0 := ⟨_, rfl⟩
  have Pne : ∀ a : Nat, a ≠ 30 → P a = g a := fun a ha => by rw [eP, hs_ne _ _ _ ha, hs_ne _ _ _ ha, hs_ne _ _ _ ha]
  have Pb : ∀ b : Int, b ≠ 0 → b ≠ 23 → b ≠ 24 → P 30 b = g 30 b := fun b h0 h1 h2 => by rw [eP, hs_at, if_pos rfl, if_neg h2, hs_at, if_pos rfl, if_neg h1, hs_at, if_pos rfl, if_neg h0]
  have P0 : P 30 0 = 0 := by rw [eP, hs_at, if_pos rfl, if_neg (by decide), hs_at, if_pos rfl, if_neg (by decide), hs_self]
  have rP : rI h P [] P := by
    refine ⟨fun a b ha hn h35 => ?_, fun _ _ => rfl, rfl, rfl, ⟨by rw [eP, hs_self], ?_⟩, fun x hx => absurd hx List.not_mem_nil⟩
    · by_cases a30 : a = 30
      · subst a30
        rw [Pb b (fun k => hn (Or.inr (Or.inr ⟨rfl, by omega⟩))) (fun k => hn (Or.inr (Or.inr ⟨rfl, by omega⟩))) (fun k => hn (Or.inr (Or.inr ⟨rfl, by omega⟩))), g30 30 (by decide) (by decide)]
      · rw [Pne a a30, g30 a ha (fun k => hn (Or.inl (by omega)))]
    · have e1 : P 30 23 = 0 := by rw [eP, hs_at, if_pos rfl, if_neg (by decide), hs_self]
      rw [e1]
      exact txt_nil
  obtain ⟨G, e1, r1⟩ := rwalk w 200 0 [] P 200 zF (by omega) (by omega) (by omega) (by unfold zF; omega) rP (by simp only [List.length_nil]; omega)
  rw [← eu] at r1
  have e201 : fX6_putBelow 201 0 P = some G := e1
  have G9 : G 30 9 = h 0 8 := by rw [r1.1 30 9 (by decide) (by omega) (by decide), p.2]
  obtain ⟨S, s1, s2, s3, -⟩ := r1.set w (n := h 0 8) p.1
  obtain ⟨t1, t2, t3⟩ := toTape_at s2.2.2.2.2.1 (by omega)
  obtain ⟨Y, eY⟩ : ∃ Y, Y = hs (hcp S 41 0 39 0 (S 30 23)) 30 13 (S 30 23) := ⟨_, rfl⟩
  rw [← eY] at t1 t2 t3
  have ek : fX6_writeGame g = some ((u.length : Int), Y) := by
    unfold fX6_writeGame
    rw [if_pos (Or.inl rfl), ← eP, e201, Option.bind_some, G9, s1, Option.bind_some, s2.2.2.2.2.1.1, if_pos wr_0, t1, Option.bind_some]
  have Yc : ∀ a : Nat, a < 30 → Y a = X a := fun a ha => by
    funext b
    rw [t3 a b (by omega) (by omega), s2.2.1 a ha, Pne a (by omega), gne a (by omega)]
  have by2 := z2.2.2.2.2
  have tx : txt (Y 19 1) (Y 20) u := by
    rw [Yc 19 (by decide), Yc 20 (by decide), X19, X20]
    exact z2.2.2.2.1
  have hp2 : PsT Y := PsT_of (u := u) tx t2 (by omega) by2
  obtain ⟨H, eH⟩ : ∃ H : HS, H = fun a => if a = 35 then Y 35 else h a := ⟨_, rfl⟩
  have Hne : ∀ a : Nat, a ≠ 35 → H a = h a := fun a ha => by rw [eH]; exact if_neg ha
  have H35 : H 35 = Y 35 := by rw [eH]; exact if_pos rfl
  have wH : Psi H := by
    refine w.o.go (p := h 0 8) p.1 (fun a b hn hm => by rw [Hne a (fun k => hm (Or.inr (Or.inl k)))]) (by rw [Hne 0 (by decide)]) (by rw [Hne 30 (by decide), p.2]) (fun s s0 s1 => by rw [Hne 8 (by decide)]; exact (w.o.P.b s s0 s1).1) (fun s s0 s1 => ?_)
    rw [H35, t3 35 s (by decide) (by omega), s3 s s0 s1]
  refine ⟨Y, gC_ok (h1 := X) (by rw [← eg2]; exact ek) (by show zr (u.length : Int); unfold zr; omega) rfl ?_ ?_, wH.tape2 hp2 (fun a b hn hm => ?_)⟩
  · rw [t3 30 0 (by decide) (by decide), s2.2.2.2.1, P0]
  · rw [t3 50 0 (by decide) (by decide), s2.2.2.1, Pne 50 (by decide), eg2, hs_self]
  · by_cases h35 : a = 35
    · rw [h35, H35]
    · rw [Hne a h35]
      by_cases ha : a < 30
      · rw [Yc a ha, Xne a (fun k => hn (Or.inl (by omega)))]
        exact qZ a b (Or.inl ha) hn
      · rw [t3 a b (by omega) (by omega)]
        exact s2.1 a b (by omega) hn h35
end ZCASE17
