section ZFIND
/-! the reference finds the form -/
abbrev tpL (a : Int → Int) (s : Int) (u : List Int) : Prop := ∀ i : Nat, i < u.length → u[i]? = some (a (s + i))
abbrev byL (u : List Int) : Prop := ∀ v ∈ u, 0 ≤ v ∧ v ≤ 255
theorem tpL_at {a : Int → Int} {s : Int} {u : List Int} (t : tpL a s u) {i : Nat} {v : Int} (h : u[i]? = some v) : a (s + i) = v := by
  have hi : i < u.length := (List.getElem?_eq_some_iff.mp h).1
  have e := t i hi
  rw [h] at e
  exact (Option.some.inj e).symm
theorem umX6_fits {v : Int} {c : Nat} {h : HS} (hv : 0 ≤ v ∧ v ≤ 255) (hc : c < 4) : fX6_fits v (cd c) h = some (if cls v = c then 1 else 0) := by
  have hz : zr v := by unfold zr; omega
  have i1 := pX6_isIn (x := v) (a := 97) (b := 104) (h := h) hz (by unfold zr; omega) (by unfold zr; omega)
  have i2 := pX6_isIn (x := v) (a := 49) (b := 56) (h := h) hz (by unfold zr; omega) (by unfold zr; omega)
  unfold fX6_fits
  rw [i1, i2, wr_of (z := v) (by omega) (by omega), Option.bind_some, Option.bind_some]
  rcases (show c = 0 ∨ c = 1 ∨ c = 2 ∨ c = 3 by omega) with e | e | e | e
  · subst e
    rw [if_pos (show wr (cd 0) = 102 by decide)]
    by_cases q : 97 ≤ v ∧ v ≤ 104
    · rw [if_pos q, if_pos (cls_e0.mpr q), if_pos (Or.inr rfl)]
    · rw [if_neg q, if_neg (fun k => q (cls_e0.mp k)), if_pos (Or.inl rfl)]
  · subst e
    rw [if_neg (show ¬ wr (cd 1) = 102 by decide), if_pos (show wr (cd 1) = 114 by decide)]
    by_cases q : 49 ≤ v ∧ v ≤ 56
    · rw [if_pos q, if_pos (cls_e1.mpr q), if_pos (Or.inr rfl)]
    · rw [if_neg q, if_neg (fun k => q (cls_e1.mp k)), if_pos (Or.inl rfl)]
  · subst e
    rw [if_neg (show ¬ wr (cd 2) = 102 by decide), if_neg (show ¬ wr (cd 2) = 114 by decide), if_pos (show wr (cd 2) = 120 by decide)]
    by_cases q : v = 120
    · rw [if_pos q, if_pos (cls_e2.mpr q)]
    · rw [if_neg q, if_neg (fun k => q (cls_e2.mp k))]
  · subst e
    rw [if_neg (show ¬ wr (cd 3) = 102 by decide), if_neg (show ¬ wr (cd 3) = 114 by decide), if_neg (show ¬ wr (cd 3) = 120 by decide)]
    by_cases q : v = 43 ∨ v = 35
    · rw [if_pos (cls_e3.mpr q)]
      rcases q with q | q
      · rw [if_pos q]
      · rw [if_neg (by omega), if_pos q]
    · rw [if_neg (fun k => q (cls_e3.mp k)), if_neg (by omega), if_neg (by omega)]
def Zf (fo ba : Int) (g : HS) : HS := fun a => if a = 30 then (fun b => if b = 18 then fo else if b = 21 then ba else g 30 b) else g a
theorem Zf_ne {fo ba : Int} {g : HS} {a : Nat} (ha : a ≠ 30) : Zf fo ba g a = g a := by
  unfold Zf
  rw [if_neg ha]
theorem Zf_30 {fo ba : Int} {g : HS} (b : Int) : Zf fo ba g 30 b = if b = 18 then fo else if b = 21 then ba else g 30 b := rfl
theorem Zf_u21 {fo ba x : Int} {g : HS} : hs (Zf fo ba g) 30 21 x = Zf fo x g := by
  funext a b
  by_cases ha : a = 30
  · subst ha
    rw [hs_at, if_pos rfl, Zf_30, Zf_30]
    by_cases hb : b = 21
    · subst hb
      rw [if_pos rfl, if_neg (by decide), if_pos rfl]
    · rw [if_neg hb, if_neg hb, if_neg hb]
  · rw [hs_ne _ _ _ ha, Zf_ne ha, Zf_ne ha]
theorem Zf_u18 {fo ba x : Int} {g : HS} : hs (Zf fo ba g) 30 18 x = Zf x ba g := by
  funext a b
  by_cases ha : a = 30
  · subst ha
    rw [hs_at, if_pos rfl, Zf_30, Zf_30]
    by_cases hb : b = 18
    · rw [if_pos hb, if_pos hb]
    · rw [if_neg hb, if_neg hb, if_neg hb]
  · rw [hs_ne _ _ _ ha, Zf_ne ha, Zf_ne ha]
theorem Zf_0 {fo ba : Int} {g : HS} : hs (hs g 30 18 fo) 30 21 ba = Zf fo ba g := by
  funext a b
  by_cases ha : a = 30
  · subst ha
    rw [hs_at, if_pos rfl, hs_at, if_pos rfl, Zf_30]
    by_cases hb : b = 21
    · subst hb
      rw [if_pos rfl, if_neg (by decide), if_pos rfl]
    · rw [if_neg hb, if_neg hb]
  · rw [hs_ne _ _ _ ha, hs_ne _ _ _ ha, Zf_ne ha]
theorem frm_len : ∀ k : Fin 16, (frm k.val).length ≤ 6 ∧ 2 ≤ (frm k.val).length ∧ ∀ c ∈ frm k.val, c < 4 := by decide +kernel
theorem fitN_le : ∀ {F C : List Nat}, fitN F C ≤ F.length ∧ fitN F C ≤ C.length
  | [], C => by rw [fitN_nil]; exact ⟨Nat.zero_le _, Nat.zero_le _⟩
  | f :: F, [] => by rw [fitN_end]; exact ⟨Nat.zero_le _, Nat.zero_le _⟩
  | f :: F, c :: C => by
    have ih := @fitN_le F C
    show (if f = c then fitN F C + 1 else 0) ≤ F.length + 1 ∧ (if f = c then fitN F C + 1 else 0) ≤ C.length + 1
    split <;> omega
theorem mX6_L56 {u : List Int} (hu : byL u) {k : Nat} (hk : k < 16) {b0 : Int} (hb : 0 ≤ b0) (hl : b0 + 1 + u.length ≤ 2000) (k35 : Int → Int → Int → HS → Option (Int × HS)) {g : HS} (t : tpL (g 39) (b0 + 1) u) : ∀ (nf j : Nat), j ≤ (frm k).length → j ≤ u.length → (frm k).length - j < nf → fX6_findForm_L56 k35 nf b0 (b0 + 1 + (u.length : Int)) (k : Int) ((frm k).length : Int) (j : Int) g = fX6_findForm_b106 k35 b0 (b0 + 1 + (u.length : Int)) (k : Int) ((frm k).length : Int) ((j + fitN ((frm k).drop j) ((u.map cls).drop j) : Nat) : Int) g
  | 0, j, h1, h2, h3 => by omega
  | nf + 1, j, h1, h2, h3 => by
    obtain ⟨l1, l2, l3⟩ := frm_len ⟨k, hk⟩
    dsimp only at l1 l2 l3
    rw [fX6_findForm_L56]
    rw [wr_of (z := ((frm k).length : Int)) (by omega) (by omega), wr_of (z := (j : Int)) (by omega) (by omega), wr_of (z := b0 + 1 + (u.length : Int)) (by omega) (by omega), wr_of (z := b0 + 1 + (j : Int)) (by omega) (by omega)]
    by_cases q1 : ((frm k).length : Int) ≤ (j : Int)
    · rw [if_pos q1, List.drop_eq_nil_of_le (by omega), fitN_nil, Nat.add_zero]
    · rw [if_neg q1]
      by_cases q2 : b0 + 1 + (u.length : Int) ≤ b0 + 1 + (j : Int)
      · rw [if_pos q2, List.drop_eq_nil_of_le (as := u.map cls) (by rw [List.length_map]; omega), fitN_end, Nat.add_zero]
      · have hj : j < u.length := by omega
        have hjf : j < (frm k).length := by omega
        have ec : fJ0_charAt_5068e k (j : Int) g = some (cd ((frm k)[j])) := by
          have e := cat_z ⟨k, hk⟩ ⟨j, by omega⟩ hjf
          dsimp only at e
          rw [cat_h, e, List.getD_eq_getElem?_getD, List.getElem?_eq_getElem hjf]
          rfl
        have ev : g 39 (b0 + 1 + (j : Int)) = u[j] := tpL_at t (List.getElem?_eq_getElem hj)
        have rv := hu u[j] (List.getElem_mem hj)
        have rc := l3 _ (List.getElem_mem hjf)
        have ed : fitN ((frm k).drop j) ((u.map cls).drop j) = if (frm k)[j] = cls u[j] then fitN ((frm k).drop (j + 1)) ((u.map cls).drop (j + 1)) + 1 else 0 := by
          rw [List.drop_eq_getElem_cons hjf, List.drop_eq_getElem_cons (l := u.map cls) (by rw [List.length_map]; omega), List.getElem_map]
          rfl
        rw [if_neg q2, if_pos (by omega), if_pos (by omega), Int.toNat_natCast, if_pos hk, ec, Option.bind_some, ev, umX6_fits rv rc, Option.bind_some, ed]
        by_cases q3 : cls u[j] = (frm k)[j]
        · rw [if_pos q3, if_neg (show ¬ wr 1 = 0 by decide), if_pos q3.symm, show (j : Int) + 1 = ((j + 1 : Nat) : Int) by omega, mX6_L56 hu hk hb hl k35 t nf (j + 1) (by omega) (by omega) (by omega), show j + 1 + fitN ((frm k).drop (j + 1)) ((u.map cls).drop (j + 1)) = j + (fitN ((frm k).drop (j + 1)) ((u.map cls).drop (j + 1)) + 1) by omega]
        · rw [if_neg q3, if_pos wr_0, if_neg (fun e => q3 e.symm), Nat.add_zero]
theorem zmax_at {x y : Int} (hx : zr x) (hy : zr y) : zmax x y = if x < y then y else x := by
  unfold zmax
  rw [wr_of hx.1 hx.2, wr_of hy.1 hy.2]
theorem mX6_L35 {u : List Int} (hu : byL u) {b0 : Int} (hb : 0 ≤ b0) (hl : b0 + 1 + u.length ≤ 2000) {g : HS} (t : tpL (g 39) (b0 + 1) u) : ∀ (nf n k : Nat) (fo ba : Int) (mx : Nat), n + k = 16 → n < nf → -1 ≤ fo ∧ fo < 16 → mx ≤ 6 → (ba = b0 + 1 + mx ∨ (ba = b0 ∧ mx = 0 ∧ 0 < n)) → fX6_findForm_L35 nf b0 (b0 + 1 + (u.length : Int)) (k : Int) (Zf fo ba g) = some (if (gF (u.map cls) n k fo mx).1 = -1 then 0 else 1, Zf (gF (u.map cls) n k fo mx).1 (b0 + 1 + ((gF (u.map cls) n k fo mx).2 : Int)) g)
  | 0, n, k, fo, ba, mx, h1, h2, h3, h4, h5 => by omega
  | nf + 1, n, k, fo, ba, mx, h1, h2, h3, h4, h5 => by
    rw [fX6_findForm_L35]
    rw [wr_of (z := (k : Int)) (by omega) (by omega), Zf_30, if_pos rfl, wr_of (z := fo) (by omega) (by omega)]
    cases n with
    | zero =>
      have e : ba = b0 + 1 + mx := by
        rcases h5 with h5 | h5
        · exact h5
        · omega
      rw [if_pos (by omega), e]
      show (if fo = -1 then some (0, _) else some (1, _)) = some (if fo = -1 then 0 else 1, _)
      by_cases q : fo = -1
      · rw [if_pos q, if_pos q]; rfl
      · rw [if_neg q, if_neg q]; rfl
    | succ n =>
      have hk : k < 16 := by omega
      obtain ⟨l1, l2, l3⟩ := frm_len ⟨k, hk⟩
      dsimp only at l1 l2 l3
      have fl := @fitN_le (frm k) (u.map cls)
      have el : fJ0_length_8abf5 k (Zf fo ba g) = some ((frm k).length : Int) := by
        rw [len_h]
        exact len_z ⟨k, hk⟩
      have e56 := mX6_L56 hu hk hb hl (fun a0 a1 a2 hh => fX6_findForm_L35 nf a0 a1 a2 hh) (g := Zf fo ba g) (by rw [Zf_ne (by decide)]; exact t) zF 0 (by omega) (by omega) (by unfold zF; omega)
      rw [List.drop_zero, List.drop_zero, Nat.zero_add] at e56
      have e56b : fX6_findForm_L56 (fun a0 a1 a2 hh => fX6_findForm_L35 nf a0 a1 a2 hh) zF b0 (b0 + 1 + (u.length : Int)) (k : Int) ((frm k).length : Int) 0 (Zf fo ba g) = _ := e56
      rw [if_neg (by omega), if_pos (by omega), Int.toNat_natCast, if_pos hk, el, Option.bind_some, e56b]
      obtain ⟨F, eF⟩ : ∃ F, F = fitN (frm k) (u.map cls) := ⟨_, rfl⟩
      rw [List.length_map] at fl
      have eg : gF (u.map cls) (n + 1) k fo mx = gF (u.map cls) n (k + 1) (if F = (frm k).length ∧ (frm k).length = u.length then (k : Int) else fo) (max mx F) := by
        rw [eF]
        show gF (u.map cls) n (k + 1) (if fitN (frm k) (u.map cls) = (frm k).length ∧ (frm k).length = (u.map cls).length then (k : Int) else fo) _ = _
        rw [List.length_map]
      rw [eg]
      rw [← eF] at fl ⊢
      unfold fX6_findForm_b106 fX6_findForm_b145
      have ezm : zmax (Zf fo ba g 30 21) (b0 + 1 + (F : Int)) = b0 + 1 + ((max mx F : Nat) : Int) := by
        have e21 : Zf fo ba g 30 21 = ba := rfl
        rw [e21, zmax_at (by unfold zr; omega) (by unfold zr; omega)]
        split <;> omega
      rw [ezm, Zf_u21, Zf_u18, wr_of (z := (F : Int)) (by omega) (by omega), wr_of (z := ((frm k).length : Int)) (by omega) (by omega), wr_of (z := b0 + 1 + ((frm k).length : Int)) (by omega) (by omega), wr_of (z := b0 + 1 + (u.length : Int)) (by omega) (by omega), show (k : Int) + 1 = ((k + 1 : Nat) : Int) by omega]
      have ih := fun fo2 (h : -1 ≤ fo2 ∧ fo2 < 16) => mX6_L35 hu hb hl t nf n (k + 1) fo2 (b0 + 1 + ((max mx F : Nat) : Int)) (max mx F) (by omega) (by omega) h (by omega) (Or.inl rfl)
      by_cases q1 : (F : Int) = ((frm k).length : Int)
      · rw [if_pos q1]
        by_cases q2 : b0 + 1 + ((frm k).length : Int) = b0 + 1 + (u.length : Int)
        · rw [if_pos q2, if_pos (show F = (frm k).length ∧ (frm k).length = u.length by omega)]
          exact ih _ (by omega)
        · rw [if_neg q2, if_neg (show ¬ (F = (frm k).length ∧ (frm k).length = u.length) by omega)]
          exact ih _ h3
      · rw [if_neg q1, if_neg (show ¬ (F = (frm k).length ∧ (frm k).length = u.length) by omega)]
        exact ih _ h3
theorem mX6_find0 {b0 : Int} (hb : 0 ≤ b0 ∧ b0 < 2000) {g : HS} : fX6_findForm b0 b0 g = some (0, Zf (-1) b0 g) := by
  unfold fX6_findForm
  rw [if_pos rfl, Zf_0]
theorem mX6_find {b0 : Int} {c : Int} {r : List Int} (hu : byL (c :: r)) (hb : 0 ≤ b0) (hl : b0 + 1 + r.length ≤ 2000) {g : HS} (t : tpL (g 39) b0 (c :: r)) : fX6_findForm b0 (b0 + 1 + (r.length : Int)) g = if 65 ≤ c ∧ c ≤ 90 then some (if (rsF (r.map cls)).1 = -1 then 0 else 1, Zf (rsF (r.map cls)).1 (b0 + 1 + ((rsF (r.map cls)).2 : Int)) g) else some (0, Zf (-1) b0 g) := by
  have hc := hu c (List.mem_cons_self)
  have hr : byL r := fun v hv => hu v (List.mem_cons_of_mem _ hv)
  have ec : g 39 b0 = c := by
    have e := tpL_at t (i := 0) (v := c) rfl
    rw [Int.natCast_zero, Int.add_zero] at e
    exact e
  have t2 : tpL (g 39) (b0 + 1) r := fun i hi => by
    have e := t (i + 1) (by rw [List.length_cons]; omega)
    rw [List.getElem?_cons_succ] at e
    rw [e, show b0 + ((i + 1 : Nat) : Int) = b0 + 1 + (i : Int) by omega]
  unfold fX6_findForm
  rw [wr_of (z := b0) (by omega) (by omega), wr_of (z := b0 + 1 + (r.length : Int)) (by omega) (by omega), if_neg (by omega), if_pos (by omega), Zf_0, Zf_ne (by decide), ec, pX6_isIn (by unfold zr; omega) (by unfold zr; omega) (by unfold zr; omega), Option.bind_some]
  by_cases q : 65 ≤ c ∧ c ≤ 90
  · rw [if_pos q, if_neg (show ¬ wr 1 = 0 by decide), if_pos q]
    exact mX6_L35 hr hb hl t2 zF 16 0 (-1) b0 0 (by omega) (by unfold zF; omega) (by omega) (by omega) (Or.inr ⟨rfl, rfl, by omega⟩)
  · rw [if_neg q, if_pos wr_0, if_neg q]
/-! what stands at a place of the form -/
theorem umX6_late {b0 : Int} {c : Int} {r : List Int} {k : Nat} (hk : k < 16) (hb : 0 ≤ b0) (hl : b0 + 1 + r.length ≤ 2000) {g : HS} (t : tpL (g 39) (b0 + 1) r) (e18 : g 30 18 = k) {ix : Int} (hix : fJ0_lastIndexOf_0f7a4 k c z0 = some ix) (h1 : -1 ≤ ix ∧ ix < 6) {v : Int} (hv : ix = -1 ∧ v = -1 ∨ 0 ≤ ix ∧ r[ix.toNat]? = some v) : fX6_late b0 c g = some v := by
  unfold fX6_late
  rw [e18, if_pos (by omega), Int.toNat_natCast, if_pos hk, lix_h, hix, Option.bind_some, wr_of (z := ix) (by omega) (by omega)]
  rcases hv with ⟨a, b⟩ | ⟨a, b⟩
  · rw [if_neg (by omega), b]
  · have hi : ix.toNat < r.length := (List.getElem?_eq_some_iff.mp b).1
    have e := tpL_at t b
    rw [Int.toNat_of_nonneg a] at e
    rw [if_pos a, if_pos (by omega), e]
theorem umX6_early {b0 : Int} {c : Int} {r : List Int} {k : Nat} (hk : k < 16) (hb : 0 ≤ b0) (hl : b0 + 1 + r.length ≤ 2000) {g : HS} (t : tpL (g 39) (b0 + 1) r) (e18 : g 30 18 = k) {i1 i2 : Int} (h1 : fJ0_indexOf_0f7a4 k c z0 = some i1) (h2 : fJ0_lastIndexOf_0f7a4 k c z0 = some i2) (hr1 : 0 ≤ i1 ∧ i1 < 6) (hr2 : 0 ≤ i2 ∧ i2 < 6) {v : Int} (hv : if i1 = i2 then v = -1 else r[i1.toNat]? = some v) : fX6_early b0 c g = some v := by
  unfold fX6_early
  rw [e18, if_pos (by omega), Int.toNat_natCast, if_pos hk, fix_h, h1, Option.bind_some, if_pos hk, lix_h, h2, Option.bind_some, wr_of (z := i1) (by omega) (by omega), wr_of (z := i2) (by omega) (by omega)]
  by_cases q : i1 = i2
  · rw [if_pos q] at hv ⊢
    rw [hv]
  · rw [if_neg q] at hv ⊢
    have hi : i1.toNat < r.length := (List.getElem?_eq_some_iff.mp hv).1
    have e := tpL_at t hv
    rw [Int.toNat_of_nonneg hr1.1] at e
    rw [if_pos (by omega), e]
end ZFIND
