section ZFITS
/-! the class reads a form -/
def hF (h : HS) (F : Int → Int) : HS := fun a => if a = 18 then F else h a
theorem hF_ne {h : HS} {F : Int → Int} {a : Nat} (ha : a ≠ 18) : hF h F a = h a := by
  unfold hF
  rw [if_neg ha]
theorem hF_18 {h : HS} {F : Int → Int} : hF h F 18 = F := by
  unfold hF
  rw [if_pos rfl]
theorem hF_up {h : HS} {F : Int → Int} {k v : Int} : hs (hF h F) 18 k v = hF h (up F k v) := by
  funext a b
  by_cases ha : a = 18
  · subst ha
    rw [hs_at, if_pos rfl, hF_18, hF_18]
    rfl
  · rw [hs_ne _ _ _ ha, hF_ne ha, hF_ne ha]
theorem hF_0 {h : HS} {k v : Int} : hs h 18 k v = hF h (up (h 18) k v) := by
  funext a b
  by_cases ha : a = 18
  · subst ha
    rw [hs_at, if_pos rfl, hF_18]
    rfl
  · rw [hs_ne _ _ _ ha, hF_ne ha]
theorem hF_qc {h : HS} {F : Int → Int} : zsq (hF h F) h := fun a b hn => by rw [hF_ne (fun k => hn (Or.inl (by omega)))]
theorem cX2_file {b : Int} {h : HS} (hb : 0 ≤ b ∧ b ≤ 255) : fX2_isFile b h = some (if cls b = 0 then 1 else 0) := by
  unfold fX2_isFile
  rw [wr_of (z := b) (by omega) (by omega)]
  by_cases q : cls b = 0
  · have := cls_e0.mp q
    rw [if_neg (by omega), if_neg (by omega), if_pos q]
  · rw [if_neg q]
    have q2 : ¬ (97 ≤ b ∧ b ≤ 104) := fun k => q (cls_e0.mpr k)
    by_cases q1 : b < 97
    · rw [if_pos q1]
    · rw [if_neg q1, if_pos (by omega)]
theorem cX2_rank {b : Int} {h : HS} (hb : 0 ≤ b ∧ b ≤ 255) : fX2_isRank b h = some (if cls b = 1 then 1 else 0) := by
  unfold fX2_isRank
  rw [wr_of (z := b) (by omega) (by omega)]
  by_cases q : cls b = 1
  · have := cls_e1.mp q
    rw [if_neg (by omega), if_neg (by omega), if_pos q]
  · rw [if_neg q]
    have q2 : ¬ (49 ≤ b ∧ b ≤ 56) := fun k => q (cls_e1.mpr k)
    by_cases q1 : b < 49
    · rw [if_pos q1]
    · rw [if_neg q1, if_pos (by omega)]
theorem ucX2_sign {b : Int} {h : HS} (hb : 0 ≤ b ∧ b ≤ 255) : fX2_isSign b h = some (if cls b = 3 then 1 else 0) := by
  unfold fX2_isSign
  rw [wr_of (z := b) (by omega) (by omega)]
  by_cases q : cls b = 3
  · have := cls_e3.mp q
    rw [if_pos q]
    by_cases q1 : b = 43
    · rw [if_pos q1]
    · rw [if_neg q1, if_pos (by omega)]
  · rw [if_neg q]
    have q2 : ¬ (b = 43 ∨ b = 35) := fun k => q (cls_e3.mpr k)
    rw [if_neg (by omega), if_neg (by omega)]
def dlI (st c : Nat) : Int := if dl st c = 0 then -1 else (dl st c : Int)
theorem cX2_state {b : Int} {h : HS} (hb : 0 ≤ b ∧ b ≤ 255) {st : Nat} (hst : 1 ≤ st ∧ st ≤ 8) : fX2_stateBehind (st : Int) b h = some (dlI st (cls b)) := by
  have w0 : wr 0 = 0 := by decide
  have w1 : wr 1 = 1 := by decide
  have w2 : wr 2 = 2 := by decide
  have w3 : wr 3 = 3 := by decide
  have w4 : wr 4 = 4 := by decide
  have w5 : wr 5 = 5 := by decide
  have w6 : wr 6 = 6 := by decide
  have w7 : wr 7 = 7 := by decide
  have w8 : wr 8 = 8 := by decide
  have wb := wr_of (z := b) (by omega) (by omega)
  have cl := cls_lt b
  have hx : (b = 120) = (cls b = 2) := propext cls_e2.symm
  unfold fX2_stateBehind fX2_stateBehindOrigin dlI dl
  simp only [cX2_file hb, cX2_rank hb, ucX2_sign hb, Option.bind_some, wb, hx]
  rcases (show st = 1 ∨ st = 2 ∨ st = 3 ∨ st = 4 ∨ st = 5 ∨ st = 6 ∨ st = 7 ∨ st = 8 by omega) with e | e | e | e | e | e | e | e <;> subst e <;> rcases (show cls b = 0 ∨ cls b = 1 ∨ cls b = 2 ∨ cls b = 3 ∨ cls b = 4 by omega) with c | c | c | c | c <;> simp [c, w0, w1, w2, w3, w4, w5, w6, w7, w8]
theorem ucX2_keep {b : Int} {h : HS} {F : Int → Int} (hb : 0 ≤ b ∧ b ≤ 255) : fX2_keep b (hF h F) = some (hF h (kp F b)) := by
  have w0 : wr 0 = 0 := by decide
  have w1 : wr 1 = 1 := by decide
  have wb := wr_of (z := b) (by omega) (by omega)
  have cl := cls_lt b
  have hx : (b = 120) = (cls b = 2) := propext cls_e2.symm
  unfold fX2_keep kp
  simp only [cX2_file hb, cX2_rank hb, ucX2_sign hb, Option.bind_some, wb, hx]
  rcases (show cls b = 0 ∨ cls b = 1 ∨ cls b = 2 ∨ cls b = 3 ∨ cls b = 4 by omega) with c | c | c | c | c <;> simp [c, w0, w1, hF_up, hF_18]
theorem kp_0 {F : Int → Int} {b : Int} : kp F b 0 = F 0 := by
  unfold kp up
  split
  · rfl
  · split
    · rfl
    · split
      · rfl
      · split <;> rfl
theorem kpL_0 : ∀ {r : List Int} {F : Int → Int}, kpL F r 0 = F 0
  | [], F => rfl
  | b :: r, F => by
    show kpL (kp F b) r 0 = F 0
    rw [kpL_0, kp_0]
theorem kp_1 {F : Int → Int} {b : Int} (h : cls b < 4) : kp F b 1 = F 1 := by
  unfold kp up
  rcases (show cls b = 0 ∨ cls b = 1 ∨ cls b = 2 ∨ cls b = 3 by omega) with c | c | c | c <;> simp [c]
theorem kpL_1 : ∀ {r : List Int} {F : Int → Int}, (∀ b ∈ r, cls b < 4) → kpL F r 1 = F 1
  | [], F, _ => rfl
  | b :: r, F, h => by
    show kpL (kp F b) r 1 = F 1
    rw [kpL_1 (fun x hx => h x (List.mem_cons_of_mem _ hx)), kp_1 (h b List.mem_cons_self)]
theorem dl_le {st c : Nat} : dl st c ≤ 8 := by
  unfold dl
  repeat' split
  all_goals omega
theorem fits_dead {h : HS} {F : Int → Int} {nf : Nat} {e st p : Int} (hp : 0 ≤ F 0 ∧ F 0 ≤ 5000) : fX2_fits_L10 (nf + 1) e st p (hF h F) = some (0, hF h F) := by
  have wF := wr_of (z := F 0) (by omega) (by omega)
  have e68 : fX2_fits_b68 e st (hF h F) = some (0, hF h F) := by
    unfold fX2_fits_b68 fX2_fits_b101
    rw [hF_18, wF, if_neg (by omega), if_neg (by omega)]
  rw [fX2_fits_L10]
  rw [e68, hF_18, wF, if_neg (show ¬ F 0 = -1 by omega), ite_self]
theorem ucX3_get {p : Int} {h : HS} (hn : h 19 1 ≤ 2000) (hp : 0 ≤ p ∧ p < h 19 1) : fX3_get p h = some (h 20 p) := by
  unfold fX3_get
  rw [wr_of (z := p) (by omega) (by omega), wr_of (z := h 19 1) (by omega) (by omega), if_neg (show ¬ p < 0 by omega), if_neg (show ¬ h 19 1 ≤ p by omega), if_pos (by omega)]
theorem fitsL {h : HS} (hn : h 19 1 ≤ 2000) : ∀ (u : List Int) (nf st : Nat) (p : Int) (F : Int → Int), F 0 = -1 → tpL (h 20) p u → byL u → 0 ≤ p → p + u.length ≤ h 19 1 → u.length + 1 < nf → 1 ≤ st ∧ st ≤ 8 → ∃ F2, fX2_fits_L10 nf (p + (u.length : Int)) (st : Int) p (hF h F) = some (if dr st (u.map cls) p = none then 1 else 0, hF h F2) ∧ (dr st (u.map cls) p = none → F2 = kpL F u) ∧ (∀ q, dr st (u.map cls) p = some q → F2 0 = q)
  | [], nf, st, p, F, hF0, t, hu, p0, p1, hnf, hst => by
    obtain ⟨nf, rfl⟩ : ∃ m, nf = m + 1 := ⟨nf - 1, by omega⟩
    have p1' : p ≤ 2000 := by simp only [List.length_nil] at p1; omega
    have ed : dr st (([] : List Int).map cls) p = if okS st then none else some p := rfl
    rw [fX2_fits_L10]
    rw [show p + (([] : List Int).length : Int) = p by simp, if_pos (Int.le_refl _)]
    unfold fX2_fits_b68 fX2_fits_b101
    rw [hF_18, hF0, if_pos (show wr (-1) = -1 by decide), if_pos (show wr (-1) = -1 by decide), hF_up, hF_18, wr_of (z := (st : Int)) (by omega) (by omega), ed]
    by_cases ho : okS st
    · rw [if_pos ho, if_pos rfl]
      refine ⟨F, ?_, fun _ => rfl, fun q k => absurd k (by simp)⟩
      rcases ho with k | k | k
      · rw [if_pos (by omega)]
      · rw [if_neg (by omega), if_pos (by omega)]
      · rw [if_neg (by omega), if_neg (by omega), if_pos (by omega)]
    · have o4 : ¬ (st : Int) = 4 := fun k => ho (Or.inl (by omega))
      have o7 : ¬ (st : Int) = 7 := fun k => ho (Or.inr (Or.inl (by omega)))
      have o8 : ¬ (st : Int) = 8 := fun k => ho (Or.inr (Or.inr (by omega)))
      have eu : up F 0 p 0 = p := by unfold up; rw [if_pos rfl]
      rw [if_neg ho, if_neg (show ¬ some p = none by simp), if_neg o4, if_neg o7, if_neg o8, eu, wr_of (z := p) (by omega) (by omega), if_neg (by omega)]
      refine ⟨up F 0 p, rfl, fun k => absurd k (by simp), fun q k => by rw [eu]; exact Option.some.inj k⟩
  | b :: u, nf, st, p, F, hF0, t, hu, p0, p1, hnf, hst => by
    obtain ⟨nf, rfl⟩ : ∃ m, nf = m + 1 := ⟨nf - 1, by omega⟩
    rw [List.length_cons] at p1 hnf
    have hb := hu b List.mem_cons_self
    have eb : h 20 p = b := by
      have e := tpL_at t (i := 0) (v := b) rfl
      rw [Int.natCast_zero, Int.add_zero] at e
      exact e
    have t2 : tpL (h 20) (p + 1) u := fun i hi => by
      have e := t (i + 1) (by rw [List.length_cons]; omega)
      rw [List.getElem?_cons_succ] at e
      rw [e, show p + ((i + 1 : Nat) : Int) = p + 1 + (i : Int) by omega]
    have eg : fX3_get p (hF h F) = some b := by
      rw [ucX3_get (by rw [hF_ne (by decide)]; exact hn) (by rw [hF_ne (by decide)]; omega), hF_ne (by decide), eb]
    have ed : dr st ((b :: u).map cls) p = if dl st (cls b) = 0 then some p else dr (dl st (cls b)) (u.map cls) (p + 1) := rfl
    have edl := dl_le (st := st) (c := cls b)
    rw [fX2_fits_L10]
    unfold fX2_fits_b62
    rw [List.length_cons, wr_of (z := p + ((u.length + 1 : Nat) : Int)) (by omega) (by omega), wr_of (z := p) (by omega) (by omega), if_neg (by omega), hF_18, hF0, if_pos (show wr (-1) = -1 by decide), eg, Option.bind_some, cX2_state hb hst, Option.bind_some, Option.bind_some, ucX2_keep hb, Option.bind_some, hF_up, ed]
    unfold dlI
    by_cases hd : dl st (cls b) = 0
    · have eu : up F 0 p 0 = p := by unfold up; rw [if_pos rfl]
      obtain ⟨m, rfl⟩ : ∃ m, nf = m + 1 := ⟨nf - 1, by omega⟩
      rw [if_pos hd, if_pos (show wr (-1) = -1 by decide), if_pos hd, if_neg (show ¬ some p = none by simp)]
      exact ⟨up F 0 p, fits_dead (by rw [eu]; omega), fun k => absurd k (by simp), fun q k => by rw [eu]; exact Option.some.inj k⟩
    · rw [if_neg hd, wr_of (z := ((dl st (cls b) : Nat) : Int)) (by omega) (by omega), if_neg (by omega), if_neg hd, show p + ((u.length + 1 : Nat) : Int) = p + 1 + (u.length : Int) by omega]
      exact fitsL hn u nf (dl st (cls b)) (p + 1) (kp F b) (by rw [kp_0, hF0]) t2 (fun v hv => hu v (List.mem_cons_of_mem _ hv)) (by omega) (by omega) (by omega) ⟨by omega, edl⟩
def zF0 (h : HS) : Int → Int := up (up (up (up (up (up (up (up (h 18) 0 (-1)) 1 (-1)) 2 (-1)) 3 (-1)) 4 (-1)) 5 (-1)) 6 (-1)) 7 0
theorem ucX2_forget {h : HS} : fX2_forget h = some (hF h (zF0 h)) := by
  unfold fX2_forget zF0
  rw [if_pos (Or.inl rfl), hF_0 (h := h) (k := 0) (v := -1), hF_up, hF_up, hF_up, hF_up, hF_up, hF_up, hF_up]
theorem zF0_0 {h : HS} : zF0 h 0 = -1 := by simp [zF0, up]
theorem zF0_fld {h : HS} {c : Int} : fld0 (up (zF0 h) 1 c) := by
  unfold fld0
  simp [zF0, up]
theorem fits_nil {h : HS} {b0 : Int} (hb : 0 ≤ b0 ∧ b0 ≤ 2000) : ∃ F2, fX2_fits b0 b0 h = some (0, hF h F2) ∧ F2 0 = b0 := by
  have eu : up (zF0 h) 0 b0 0 = b0 := by unfold up; rw [if_pos rfl]
  unfold fX2_fits
  rw [ucX2_forget, Option.bind_some]
  show ∃ F2, fX2_fits_L10 (4999 + 1) b0 0 b0 (hF h (zF0 h)) = _ ∧ _
  rw [fX2_fits_L10]
  unfold fX2_fits_b68 fX2_fits_b101
  rw [if_pos (Int.le_refl _), hF_18, zF0_0, if_pos (show wr (-1) = -1 by decide), if_neg (show ¬ wr 0 = 4 by decide), if_neg (show ¬ wr 0 = 7 by decide), if_neg (show ¬ wr 0 = 8 by decide), hF_up, hF_18, eu, wr_of (z := b0) (by omega) (by omega), if_neg (by omega)]
  exact ⟨_, rfl, eu⟩
theorem fits_cons {h : HS} (hn : h 19 1 ≤ 2000) {b0 c : Int} {r : List Int} (hu : byL (c :: r)) (hb : 0 ≤ b0) (hl : b0 + 1 + r.length ≤ h 19 1) (t : tpL (h 20) b0 (c :: r)) : ∃ F2, fX2_fits b0 (b0 + 1 + (r.length : Int)) h = some (if (65 ≤ c ∧ c ≤ 90) ∧ dr 1 (r.map cls) (b0 + 1) = none then 1 else 0, hF h F2) ∧ ((65 ≤ c ∧ c ≤ 90) ∧ dr 1 (r.map cls) (b0 + 1) = none → F2 = kpL (up (zF0 h) 1 c) r) ∧ (65 ≤ c ∧ c ≤ 90 → ∀ q, dr 1 (r.map cls) (b0 + 1) = some q → F2 0 = q) ∧ (¬ (65 ≤ c ∧ c ≤ 90) → F2 0 = b0) := by
  have hc := hu c List.mem_cons_self
  have hr : byL r := fun v hv => hu v (List.mem_cons_of_mem _ hv)
  have ec : h 20 b0 = c := by
    have e := tpL_at t (i := 0) (v := c) rfl
    rw [Int.natCast_zero, Int.add_zero] at e
    exact e
  have t2 : tpL (h 20) (b0 + 1) r := fun i hi => by
    have e := t (i + 1) (by rw [List.length_cons]; omega)
    rw [List.getElem?_cons_succ] at e
    rw [e, show b0 + ((i + 1 : Nat) : Int) = b0 + 1 + (i : Int) by omega]
  have eg : fX3_get b0 (hF h (zF0 h)) = some c := by
    rw [ucX3_get (by rw [hF_ne (by decide)]; exact hn) (by rw [hF_ne (by decide)]; omega), hF_ne (by decide), ec]
  unfold fX2_fits
  rw [ucX2_forget, Option.bind_some]
  show ∃ F2, fX2_fits_L10 (4999 + 1) (b0 + 1 + (r.length : Int)) 0 b0 (hF h (zF0 h)) = _ ∧ _
  rw [fX2_fits_L10]
  unfold fX2_fits_b62
  have es : fX2_stateBehind 0 c (hF h (zF0 h)) = some (if 65 ≤ c ∧ c ≤ 90 then 1 else -1) := by
    unfold fX2_stateBehind
    rw [if_pos wr_0, wr_of (z := c) (by omega) (by omega)]
    by_cases q : 65 ≤ c ∧ c ≤ 90
    · rw [if_neg (by omega), if_neg (by omega), if_pos q]
    · rw [if_neg q]
      by_cases q1 : c < 65
      · rw [if_pos q1]
      · rw [if_neg q1, if_pos (by omega)]
  rw [wr_of (z := b0 + 1 + (r.length : Int)) (by omega) (by omega), wr_of (z := b0) (by omega) (by omega), if_neg (by omega), hF_18, zF0_0, if_pos (show wr (-1) = -1 by decide), eg, Option.bind_some, es, Option.bind_some, Option.bind_some, ucX2_keep hc, Option.bind_some, hF_up]
  by_cases q : 65 ≤ c ∧ c ≤ 90
  · have cc : cls c = 4 := by
      unfold cls
      rw [if_neg (by omega), if_neg (by omega), if_neg (by omega), if_neg (by omega)]
    have ek : kp (zF0 h) c = up (zF0 h) 1 c := by
      unfold kp
      rw [cc]
      simp
    rw [if_pos q, if_neg (show ¬ wr 1 = -1 by decide), ek]
    obtain ⟨F2, a1, a2, a3⟩ := fitsL hn r 4999 1 (b0 + 1) (up (zF0 h) 1 c) (by simp [zF0, up]) t2 hr (by omega) (by omega) (by omega) (by omega)
    have a1b : fX2_fits_L10 4999 (b0 + 1 + (r.length : Int)) 1 (b0 + 1) (hF h (up (zF0 h) 1 c)) = _ := a1
    refine ⟨F2, a1b.trans ?_, fun k => a2 k.2, fun _ => a3, fun k => absurd q k⟩
    by_cases qd : dr 1 (r.map cls) (b0 + 1) = none
    · rw [if_pos qd, if_pos ⟨q, qd⟩]
    · rw [if_neg qd, if_neg (fun k => qd k.2)]
  · have eu : up (zF0 h) 0 b0 0 = b0 := by unfold up; rw [if_pos rfl]
    rw [if_neg q, if_pos (show wr (-1) = -1 by decide), if_neg (fun k => q k.1)]
    refine ⟨up (zF0 h) 0 b0, ?_, fun k => absurd k.1 q, fun k => absurd k q, fun _ => eu⟩
    exact fits_dead (nf := 4998) (by rw [eu]; omega)
end ZFITS
