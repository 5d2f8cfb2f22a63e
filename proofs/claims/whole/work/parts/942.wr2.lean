section ZWRITE2
/-! the class writes a move (cells 21, 22) -/
def apD2 (p : Int) (h : HS) : HS := hs (hs h 22 (h 21 1) p) 21 1 (h 21 1 + 1)
def alD2 : List Int → HS → HS
  | [], h => h
  | v :: u, h => alD2 u (apD2 v h)
theorem alD2_app : ∀ (u v : List Int) (h : HS), alD2 (u ++ v) h = alD2 v (alD2 u h)
  | [], v, h => rfl
  | x :: u, v, h => by
    show alD2 (u ++ v) (apD2 x h) = alD2 v (alD2 u (apD2 x h))
    rw [alD2_app u v]
theorem apD2_ne {p : Int} {h : HS} {a : Nat} (ha : a ≠ 21) (hb : a ≠ 22) : apD2 p h a = h a := by
  unfold apD2
  rw [hs_ne _ _ _ ha, hs_ne _ _ _ hb]
theorem alD2_ne {a : Nat} (ha : a ≠ 21) (hb : a ≠ 22) : ∀ (u : List Int) (h : HS), alD2 u h a = h a
  | [], h => rfl
  | v :: u, h => by
    show alD2 u (apD2 v h) a = h a
    rw [alD2_ne ha hb u, apD2_ne ha hb]
theorem apD2_o {p : Int} {h : HS} {b : Int} (hb : b ≠ 1) : apD2 p h 21 b = h 21 b := by
  unfold apD2
  rw [hs_at, if_pos rfl, if_neg hb, hs_ne _ _ _ (by decide)]
theorem alD2_o {b : Int} (hb : b ≠ 1) : ∀ (u : List Int) (h : HS), alD2 u h 21 b = h 21 b
  | [], h => rfl
  | v :: u, h => by
    show alD2 u (apD2 v h) 21 b = h 21 b
    rw [alD2_o hb u, apD2_o hb]
theorem apD2_txt {p : Int} {h : HS} {w : List Int} (t : txt (h 21 1) (h 22) w) : txt (apD2 p h 21 1) (apD2 p h 22) (w ++ [p]) := by
  have e1 : apD2 p h 21 1 = h 21 1 + 1 := by unfold apD2; rw [hs_self]
  have e2 : ∀ i, apD2 p h 22 i = if i = h 21 1 then p else h 22 i := fun i => by unfold apD2; rw [hs_ne _ _ _ (by decide), hs_at, if_pos rfl]
  rw [e1]
  refine txt_app t (fun i i0 i1 => by rw [e2, if_neg (by omega)]) (by rw [e2, if_pos rfl])
theorem alD2_txt : ∀ (u : List Int) {h : HS} {w : List Int}, txt (h 21 1) (h 22) w → txt (alD2 u h 21 1) (alD2 u h 22) (w ++ u)
  | [], h, w, t => by
    rw [List.append_nil]
    exact t
  | v :: u, h, w, t => by
    have e := alD2_txt u (apD2_txt (p := v) t)
    rw [List.append_assoc] at e
    exact e
theorem pX3_appD2 {p : Int} {h : HS} (hn : 0 ≤ h 21 1 ∧ h 21 1 < 2000) : fX3_append_d p h = some (apD2 p h) := by
  unfold fX3_append_d apD2
  have e : hs h 22 (h 21 1) p 21 1 = h 21 1 := by simp [hs_at]
  rw [wr_of (z := h 21 1) (by omega) (by omega), if_neg (by omega), if_pos (by omega), e]
theorem apD2_sz {p : Int} {h : HS} : apD2 p h 21 1 = h 21 1 + 1 := by unfold apD2; rw [hs_self]
theorem alD2_sz : ∀ (u : List Int) (h : HS), alD2 u h 21 1 = h 21 1 + u.length
  | [], h => by show h 21 1 = h 21 1 + ((0 : Nat) : Int); omega
  | v :: u, h => by
    show alD2 u (apD2 v h) 21 1 = h 21 1 + (((v :: u).length : Nat) : Int)
    rw [alD2_sz u, apD2_sz, List.length_cons]
    omega
theorem cSt_alD2 {K : KT} {n : Int} {b : Int → Int} {h : HS} (c : cSt K n b h) (u : List Int) : cSt K n b (alD2 u h) := by
  refine ⟨by rw [alD2_ne (by decide) (by decide)]; exact c.1, fun s s0 s1 => by rw [alD2_ne (by decide) (by decide)]; exact c.2.1 s s0 s1, fun i i0 i1 => by rw [alD2_ne (by decide) (by decide)]; exact c.2.2.1 i i0 i1, fun i j i0 i1 j0 j1 => by rw [alD2_ne (by decide) (by decide), alD2_ne (by decide) (by decide), alD2_ne (by decide) (by decide)]; exact c.2.2.2 i j i0 i1 j0 j1⟩
theorem woD2_end {o sf sr : Bool} {f : Int} {h : HS} (hf : 0 ≤ f ∧ f < 64) (hsf : sf = true → o = true) (hn : 0 ≤ h 21 1 ∧ h 21 1 + 2 ≤ 2000) : (if wr (b2i o) = 0 then fX5_writeOrigin_d_b149 f (b2i sf) h else if wr (b2i sf) = 0 then fX5_writeOrigin_d_b138 f (b2i sf) h else if wr (b2i sr) = 0 then fX5_writeOrigin_d_b149 f (b2i sf) h else fX5_writeOrigin_d_b138 f (b2i sf) h) = some (alD2 (org o sf sr f) h) := by
  have f0 : 0 ≤ f ∧ f < 2147483648 := by omega
  have e149 : ∀ g : HS, 0 ≤ g 21 1 ∧ g 21 1 < 2000 → fX5_writeOrigin_d_b149 f (b2i sf) g = some (alD2 (if sf = true then [49 + f / 8] else []) g) := fun g hg => by
    unfold fX5_writeOrigin_d_b149
    cases sf
    · rw [if_pos (b2i_0.mpr rfl)]
      rfl
    · rw [if_neg (fun k => absurd (b2i_0.mp k) (by decide)), if_pos f0, pX3_appD2 hg, Option.bind_some]
      rfl
  have e138 : fX5_writeOrigin_d_b138 f (b2i sf) h = some (alD2 ([97 + f % 8] ++ (if sf = true then [49 + f / 8] else [])) h) := by
    unfold fX5_writeOrigin_d_b138
    rw [if_pos f0, pX3_appD2 ⟨hn.1, by omega⟩, Option.bind_some, e149 _ (by rw [apD2_sz]; omega)]
    rfl
  rw [e138, e149 h ⟨hn.1, by omega⟩]
  unfold org
  cases o
  · have es : sf = false := by
      cases sf
      · rfl
      · exact absurd (hsf rfl) (by decide)
    subst es
    rw [if_pos (b2i_0.mpr rfl)]
    rfl
  · rw [if_neg (fun k => absurd (b2i_0.mp k) (by decide))]
    cases sf
    · rw [if_pos (b2i_0.mpr rfl)]
      rfl
    · rw [if_neg (fun k => absurd (b2i_0.mp k) (by decide))]
      cases sr
      · rw [if_pos (b2i_0.mpr rfl)]
        rfl
      · rw [if_neg (fun k => absurd (b2i_0.mp k) (by decide))]
        rfl
theorem woD2_L {K : KT} {n : Int} {b : Int → Int} {h : HS} (g : gd K n b) (c : cSt K n b h) {f t : Int} (hf : 0 ≤ f ∧ f < 64) (ht : 0 ≤ t ∧ t < 64) (hb : 0 ≤ b f) (hn : 0 ≤ h 21 1 ∧ h 21 1 + 2 ≤ 2000) : ∀ (nf j : Nat) (o sf sr : Bool), (sf = true → o = true) → j ≤ 64 → 64 - j < nf → fX5_writeOrigin_d_L12 nf (b f) f t (b2i o) (b2i sf) (b2i sr) (j : Int) h = some (alD2 (org (o || exB (otP K b f t) (64 - j) j) (sf || exB (otF K b f t) (64 - j) j) (sr || exB (otR K b f t) (64 - j) j) f) h)
  | 0, j, o, sf, sr, hs1, h1, h2 => by omega
  | nf + 1, j, o, sf, sr, hs1, h1, h2 => by
    have n0 := g.1
    rw [fX5_writeOrigin_d_L12]
    unfold fX5_writeOrigin_d_b86 fX5_writeOrigin_d_b91 fX5_writeOrigin_d_b110 fX5_writeOrigin_d_b115 fX5_writeOrigin_d_b117
    rw [wr_of (z := (j : Int)) (by omega) (by omega), wr_of (z := f) (by omega) (by omega)]
    by_cases hj : (64 : Int) ≤ (j : Int)
    · rw [if_pos hj, exB_end (by omega), exB_end (by omega), exB_end (by omega), Bool.or_false, Bool.or_false, Bool.or_false]
      exact woD2_end hf hs1 hn
    · obtain ⟨v1, v2⟩ := g.2.1 (j : Int) (by omega) (by omega)
      obtain ⟨u1, u2⟩ := g.2.1 f hf.1 hf.2
      have ih := fun o2 sf2 sr2 (k : sf2 = true → o2 = true) => woD2_L g c hf ht hb hn nf (j + 1) o2 sf2 sr2 k (by omega) (by omega)
      have ej : (j : Int) + 1 = ((j + 1 : Nat) : Int) := by omega
      rw [if_neg hj, exB_64 (p := otP K b f t) (j := j) (by omega), exB_64 (p := otF K b f t) (j := j) (by omega), exB_64 (p := otR K b f t) (j := j) (by omega), ej]
      have skip : otP K b f t j = false → fX5_writeOrigin_d_L12 nf (b f) f t (b2i o) (b2i sf) (b2i sr) ((j + 1 : Nat) : Int) h = some (alD2 (org (o || (otP K b f t j || exB (otP K b f t) (64 - (j + 1)) (j + 1))) (sf || (otF K b f t j || exB (otF K b f t) (64 - (j + 1)) (j + 1))) (sr || (otR K b f t j || exB (otR K b f t) (64 - (j + 1)) (j + 1))) f) h) := fun e => by
        have e2 : otF K b f t j = false := by unfold otF; rw [e]; rfl
        have e3 : otR K b f t j = false := by unfold otR; rw [e]; rfl
        rw [e, e2, e3, Bool.false_or, Bool.false_or, Bool.false_or]
        exact ih o sf sr hs1
      by_cases q1 : (j : Int) = f
      · rw [if_pos q1]
        exact skip (by unfold otP; rw [decide_eq_false (fun k => k q1)]; rfl)
      · rw [if_neg q1, cX0_piece (by omega), Option.bind_some, c.2.1 (j : Int) (by omega) (by omega), wr_of (z := b j) (by omega) (by omega), wr_of (z := b f) (by omega) (by omega)]
        by_cases q2 : b j = b f
        · have hbj : 0 ≤ b j := by omega
          rw [if_pos q2, ucX0_reaches g c (by omega) hbj ht, Option.bind_some]
          by_cases q3 : hit K b j t = true
          · rw [if_pos q3, if_neg (show ¬ wr 1 = 0 by decide), cX0_safe g c (by omega) ht hbj, Option.bind_some]
            by_cases q4 : lgl K b j t = true
            · have e : otP K b f t j = true := by unfold otP; rw [decide_eq_true q1, decide_eq_true q2, q3, q4]; rfl
              have e2 : otF K b f t j = decide ((j : Int) % 8 = f % 8) := by unfold otF; rw [e]; rfl
              have e3 : otR K b f t j = decide ((j : Int) / 8 = f / 8) := by unfold otR; rw [e]; rfl
              have ih2 := ih true (sf || otF K b f t j) (sr || otR K b f t j) (fun _ => rfl)
              rw [Bool.or_assoc, Bool.or_assoc] at ih2
              have hj2 : 0 ≤ (j : Int) ∧ (j : Int) < 2147483648 := by omega
              have hf2 : 0 ≤ f ∧ f < 2147483648 := by omega
              have w1 : wr ((j : Int) % 8) = (j : Int) % 8 := wr_of (by omega) (by omega)
              have w2 : wr (f % 8) = f % 8 := wr_of (by omega) (by omega)
              have w3 : wr ((j : Int) / 8) = (j : Int) / 8 := wr_of (by omega) (by omega)
              have w4 : wr (f / 8) = f / 8 := wr_of (by omega) (by omega)
              have z0 : wr (b2i false) = 0 := b2i_0.mpr rfl
              have z1 : ¬ wr (b2i true) = 0 := fun k => absurd (b2i_0.mp k) (by decide)
              rw [Bool.true_or] at ih2
              rw [e, Bool.true_or, Bool.or_true]
              rw [e2, e3] at ih2 ⊢
              simp only [if_pos q4, if_neg (show ¬ wr 1 = 0 by decide), if_pos hj2, if_pos hf2, w1, w2, w3, w4]
              cases sf
              · rw [if_pos z0]
                cases sr
                · simp only [if_pos z0]
                  by_cases q5 : (j : Int) % 8 = f % 8
                  · by_cases q6 : (j : Int) / 8 = f / 8
                    · rw [if_pos q5, if_pos q6]
                      rw [decide_eq_true q5, decide_eq_true q6] at ih2 ⊢
                      exact ih2
                    · rw [if_pos q5, if_neg q6]
                      rw [decide_eq_true q5, decide_eq_false q6] at ih2 ⊢
                      exact ih2
                  · by_cases q6 : (j : Int) / 8 = f / 8
                    · rw [if_neg q5, if_pos q6]
                      rw [decide_eq_false q5, decide_eq_true q6] at ih2 ⊢
                      exact ih2
                    · rw [if_neg q5, if_neg q6]
                      rw [decide_eq_false q5, decide_eq_false q6] at ih2 ⊢
                      exact ih2
                · simp only [if_neg z1]
                  by_cases q5 : (j : Int) % 8 = f % 8
                  · rw [if_pos q5]
                    rw [decide_eq_true q5] at ih2 ⊢
                    exact ih2
                  · rw [if_neg q5]
                    rw [decide_eq_false q5] at ih2 ⊢
                    exact ih2
              · rw [if_neg z1]
                cases sr
                · rw [if_pos z0]
                  by_cases q6 : (j : Int) / 8 = f / 8
                  · rw [if_pos q6]
                    rw [decide_eq_true q6] at ih2 ⊢
                    exact ih2
                  · rw [if_neg q6]
                    rw [decide_eq_false q6] at ih2 ⊢
                    exact ih2
                · rw [if_neg z1]
                  exact ih2
            · simp only [if_neg q4, if_pos wr_0]
              exact skip (by unfold otP; rw [Bool.eq_false_iff.mpr q4, Bool.and_false, Bool.and_false, Bool.and_false])
          · rw [if_neg q3, if_pos wr_0]
            exact skip (by unfold otP; rw [Bool.eq_false_iff.mpr q3, Bool.false_and, Bool.and_false, Bool.and_false])
        · rw [if_neg q2]
          exact skip (by unfold otP; rw [decide_eq_false q2, Bool.false_and, Bool.and_false])
theorem wmD2 {K : KT} {n : Int} {b : Int → Int} {h : HS} (g : gd K n b) (c : cSt K n b h) {f t : Int} (hf : 0 ≤ f ∧ f < 64) (ht : 0 ≤ t ∧ t < 64) (hb : 0 ≤ b f) (hn : 0 ≤ h 21 1 ∧ h 21 1 + 7 ≤ 2000) : fX5_writeMove_d f t h = some (alD2 (mvB K (h 2) b f t) h) := by
  have n0 := g.1
  obtain ⟨u1, u2⟩ := g.2.1 f hf.1 hf.2
  obtain ⟨v1, v2⟩ := g.2.1 t ht.1 ht.2
  have t0 : 0 ≤ t ∧ t < 2147483648 := by omega
  have el : fX1_letter (b f / 2) h = some (h 2 (b f / 2)) := by
    unfold fX1_letter fX1_has
    rw [c.1, wr_of (z := b f / 2) (by omega) (by omega), wr_of (z := n) (by omega) (by omega), if_neg (by omega), if_neg (by omega), Option.bind_some, if_neg (show ¬ wr 1 = 0 by decide), if_pos (by omega)]
  have eo : fX5_writeOrigin_d (b f) f t (apD2 (h 2 (b f / 2)) h) = some (alD2 (org (exB (otP K b f t) 64 0) (exB (otF K b f t) 64 0) (exB (otR K b f t) 64 0) f) (apD2 (h 2 (b f / 2)) h)) := by
    have e := woD2_L g (cSt_alD2 c [h 2 (b f / 2)]) hf ht hb (by rw [alD2_sz]; show 0 ≤ h 21 1 + ((1 : Nat) : Int) ∧ h 21 1 + ((1 : Nat) : Int) + 2 ≤ 2000; omega) zF 0 false false false (fun k => absurd k (by decide)) (by omega) (by unfold zF; omega)
    rw [Bool.false_or, Bool.false_or, Bool.false_or] at e
    exact e
  obtain ⟨u, eu⟩ : ∃ u, u = [h 2 (b f / 2)] ++ org (exB (otP K b f t) 64 0) (exB (otF K b f t) 64 0) (exB (otR K b f t) 64 0) f := ⟨_, rfl⟩
  have ul : u.length ≤ 3 := by
    have := org_len (o := exB (otP K b f t) 64 0) (sf := exB (otF K b f t) 64 0) (sr := exB (otR K b f t) 64 0) (f := f)
    rw [eu, List.length_append]
    simp only [List.length_cons, List.length_nil]
    omega
  have eo2 : fX5_writeOrigin_d (b f) f t (apD2 (h 2 (b f / 2)) h) = some (alD2 u h) := by
    rw [eo, eu, alD2_app]
    rfl
  have e51 : ∀ x : List Int, x.length ≤ 4 → fX5_writeMove_d_b51 f t (alD2 x h) = some (alD2 (tgt K b f t) (alD2 x h)) := fun x hx => by
    have sz := alD2_sz x h
    unfold fX5_writeMove_d_b51
    have s1 : fX3_append_d (97 + t % 8) (alD2 x h) = some (alD2 [97 + t % 8] (alD2 x h)) := pX3_appD2 (by omega)
    have s2 : fX3_append_d (49 + t / 8) (alD2 [97 + t % 8] (alD2 x h)) = some (alD2 [97 + t % 8, 49 + t / 8] (alD2 x h)) := pX3_appD2 (by rw [alD2_sz, sz]; show 0 ≤ h 21 1 + x.length + ((1 : Nat) : Int) ∧ h 21 1 + x.length + ((1 : Nat) : Int) < 2000; omega)
    have hsv := sgn_v (K := K) (b := b) (f := f) (t := t)
    rw [if_pos t0, s1, Option.bind_some, if_pos t0, s2, Option.bind_some, cX0_sign g (cSt_alD2 (cSt_alD2 c x) _) hf ht hb, Option.bind_some]
    unfold tgt
    dsimp only
    rw [wr_of (z := sgn K b f t) (by omega) (by omega)]
    by_cases q : sgn K b f t = -1
    · rw [if_pos q, if_pos q, List.append_nil]
    · rw [if_neg q, if_neg q, alD2_app]
      have s3 : fX3_append_d (sgn K b f t) (alD2 [97 + t % 8, 49 + t / 8] (alD2 x h)) = some (alD2 [sgn K b f t] (alD2 [97 + t % 8, 49 + t / 8] (alD2 x h))) := pX3_appD2 (by rw [alD2_sz, sz]; show 0 ≤ h 21 1 + x.length + ((2 : Nat) : Int) ∧ h 21 1 + x.length + ((2 : Nat) : Int) < 2000; omega)
      rw [s3, Option.bind_some]
  unfold fX5_writeMove_d
  rw [cX0_piece hf, c.2.1 f hf.1 hf.2, Option.bind_some, if_pos (by omega), el, Option.bind_some, pX3_appD2 ⟨hn.1, by omega⟩, Option.bind_some, eo2, Option.bind_some]
  unfold fX0_isTaken
  have c2 := cSt_alD2 c u
  rw [cX0_piece ht, c2.2.1 t ht.1 ht.2, Option.bind_some, wr_of (z := b t) (by omega) (by omega)]
  unfold mvB
  rw [← List.append_assoc, ← eu, alD2_app, alD2_app]
  by_cases q : b t = -1
  · rw [if_pos q, if_pos q, Option.bind_some, if_pos wr_0, e51 u (by omega)]
    rfl
  · have s4 : fX3_append_d 120 (alD2 u h) = some (alD2 (u ++ [120]) h) := by
      rw [alD2_app]
      exact pX3_appD2 (by rw [alD2_sz]; omega)
    rw [if_neg q, if_neg q, Option.bind_some, if_neg (show ¬ wr 1 = 0 by decide), s4, Option.bind_some, e51 _ (by rw [List.length_append]; simp only [List.length_cons, List.length_nil]; omega), alD2_app]
end ZWRITE2
