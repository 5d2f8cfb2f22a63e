section ZMORE
variable {G : ZG} {l0 : Launch} {cc : ByteArray} {Ts : List Cond} {own : String} {nL : Nat} {R0 : Room} {X : ZX} {sh : ZS} {ad : Nat → Nat} {h : HS} {k n : Nat} {lv : List (Nat × Value)} {pc : Nat} {st : List Value}
/-! a new row of numbers: its cell has a number of its own, that nothing else bears -/
def hz (h : HS) (i : Nat) : HS := fun a => if a = i then (fun _ => 0) else h a
theorem hz_ne (h : HS) {i j : Nat} (e : j ≠ i) : hz h i j = h j := by
  unfold hz
  rw [if_neg e]
theorem zfr_hz {Wr : List Nat} {h h1 : HS} {i : Nat} (hf : zfr Wr h h1) (hi : i ∈ Wr) : zfr Wr h (hz h1 i) := fun j hj => by
  have hne : j ≠ i := fun e => hj (by rw [e]; exact hi)
  rw [hz_ne _ hne]
  exact hf j hj
def zfreshB (sh : ZS) (i : Nat) : Bool := sh.all (fun x => x.1 != i && match x.2 with | .inr (.inr o) => !(o.2.contains (i + 2)) | _ => true)
theorem zf_ad {ad ad2 : Nat → Nat} {i : Nat} (he : ∀ j, j ≠ i → ad2 j = ad j) (g : Int → Int) : ∀ (fs : List Nat) (k : Int), fs.contains (i + 2) = false → zf ad2 g k fs = zf ad g k fs
  | [], _, _ => rfl
  | f :: fs, k, hc => by
    rw [List.contains_cons, Bool.or_eq_false_iff] at hc
    simp only [zf]
    rw [zf_ad he g fs (k + 1) hc.2]
    congr 1
    match f, hc.1 with
    | 0, _ => rfl
    | 1, _ => rfl
    | j + 2, e =>
      have hne : j ≠ i := by
        intro z
        subst z
        simp at e
      show Value.ref (ad2 j) = Value.ref (ad j)
      rw [he j hne]
theorem wz_ad {ad2 : Nat → Nat} {i : Nat} {h1 : HS} (hb : zfreshB sh i = true) (he : ∀ j, j ≠ i → ad2 j = ad j) (hh : ∀ j, j ≠ i → h1 j = h j) : wz G sh ad2 h1 = wz G sh ad h := by
  unfold wz
  apply List.map_congr_left
  intro x hx
  unfold zfreshB at hb
  have hx2 := List.all_eq_true.mp hb x hx
  simp only [Bool.and_eq_true, bne_iff_ne, ne_eq] at hx2
  obtain ⟨hne, hr⟩ := hx2
  rw [he _ hne, ze_congr (h := h) (h1 := h1) (hh _ hne)]
  congr 1
  obtain ⟨j, a | a | o⟩ := x
  · rfl
  · rfl
  · simp only [Bool.not_eq_true'] at hr
    unfold ze
    simp only
    rw [zf_ad he (h j) o.2 0 hr]
theorem z_newa {i N : Nat} {lvF : (Nat → Nat) → List (Nat × Value)} {stF : (Nat → Nat) → List Value} {k1 n1 : Nat} {stk : List Value} {v : Int} (hX : ZC G l0 cc Ts own nL R0 X) (hd : decode cc pc = .ok (.newarray .int, 2)) (ha : (Cond.arrayClass .int) ∈ Ts) (hv : v = (N : Int)) (hN : N < 100000) (hfr : zfreshB sh i = true) (hcs : k + 1 ≤ R0.cells ∧ n + N ≤ R0.slots) (hk1 : k + 1 = k1) (hn1 : n + N = n1) (hlv : lv = lvF ad) (hst : stk = .int (iI v) :: stF ad) (hF : ∀ ad2 : Nat → Nat, (∀ j, j ≠ i → ad2 j = ad j) → lvF ad2 = lvF ad ∧ stF ad2 = stF ad) (kk : ∀ ad2 : Nat → Nat, (∀ j, j ≠ i → ad2 j = ad j) → ZW G X (sh ++ [(i, .inl N)]) ad2 (hz h i) k1 n1 (lvF ad2) (pc + 2) (.ref (ad2 i) :: stF ad2)) : ZW G X sh ad h k n lv pc stk := by
  obtain ⟨p, l, e, R, s, m, args, below, meth, c, A, Q⟩ := X
  obtain ⟨hx, hb, hml, hown, hts, hK, hA, hN2, hl0, hR0, hlk, hO⟩ := hX
  subst hR0
  subst hk1
  subst hn1
  subst hst
  subst hv
  have c1 : (iI (N : Int)).toNatClampNeg = N := by rw [iI_clN (by omega) (by omega)]; omega
  refine fun H locs ls hP hD hS hl => va_newa (atype := .int) (ty := .int) (N' := N) (a0 := (N, .inl (fun _ => 0))) hx hb (hts _ ha) rfl hK hP hD hS hA (fun cA => by rw [vp_cell_i]; rfl) (iI_nneg (by omega) (by omega)) c1 (by show N * 4 ≤ 536870912; omega) hcs.1 hcs.2 hd (fun q cA H1 hK1 hP1 hD1 hS1 => ?_)
  have hcA : cA = G.2.1 := by
    have e1 := (hK1.2 2 (cA, .int) rfl).2
    have e2 := (hK.2 0 (G.2.1, .int) rfl).2
    exact Option.some.inj (e1.symm.trans e2)
  subst hcA
  have he : ∀ j, j ≠ i → (fun j => if j = i then q else ad j) j = ad j := fun j hj => if_neg hj
  obtain ⟨f1, f2⟩ := hF (fun j => if j = i then q else ad j) he
  have kk := kk (fun j => if j = i then q else ad j) he
  have ew : wz G (sh ++ [(i, .inl N)]) (fun j => if j = i then q else ad j) (hz h i) = wz G sh ad h ++ [(q, .inl (G.2.1, (N, .inl (fun _ => 0))))] := by
    have e1 : wz G (sh ++ [(i, .inl N)]) (fun j => if j = i then q else ad j) (hz h i) = wz G sh (fun j => if j = i then q else ad j) (hz h i) ++ wz G [(i, .inl N)] (fun j => if j = i then q else ad j) (hz h i) := List.map_append
    rw [e1, wz_ad hfr he (fun j hj => hz_ne h hj)]
    congr 1
    show [((if i = i then q else ad i), ze G _ (hz h i) (i, .inl N))] = _
    rw [if_pos rfl]
    unfold ze hz
    simp only [if_true]
    rfl
  have e3 : (if i = i then q else ad i) = q := if_pos rfl
  rw [f1, f2] at kk
  have kk2 := kk H1 locs ls (by rw [ew]; exact hP1) (by rw [ew]; exact hD1) hS1 (by rw [← hlv]; exact hl)
  simp only [if_true] at kk2
  exact kk2
/-- back to the cells that were there -/
theorem z_back {i N : Nat} {ad2 : Nat → Nat} {lv1 : List (Nat × Value)} (ks : List Nat) (hfr : zfreshB sh i = true) (he : ∀ j, j ≠ i → ad2 j = ad j) (hlv : lv_pick lv ks = lv1) (kk : ZW G X sh ad (hz h i) k n lv1 pc st) : ZW G X (sh ++ [(i, .inl N)]) ad2 h k n lv pc st := by
  obtain ⟨p, l, e, R, s, m, args, below, meth, c, A, Q⟩ := X
  refine fun H locs ls hP hD hS hl => ?_
  have ew : wz G sh ad2 h = wz G sh ad (hz h i) := wz_ad hfr he (fun j hj => (hz_ne h hj).symm)
  have e1 : wz G (sh ++ [(i, .inl N)]) ad2 h = wz G sh ad2 h ++ wz G [(i, .inl N)] ad2 h := List.map_append
  rw [e1, ew] at hP hD
  have hP2 : va_P G.1 vwCl (wz G sh ad (hz h i)) H := fun j q hq => hP j q (by rw [List.getElem?_append_left (List.getElem?_eq_some_iff.mp hq).1]; exact hq)
  have hD2 : va_D A (wz G sh ad (hz h i)) := ⟨fun a b x y hx hy hxy => hD.1 a b x y (by rw [List.getElem?_append_left (List.getElem?_eq_some_iff.mp hx).1]; exact hx) (by rw [List.getElem?_append_left (List.getElem?_eq_some_iff.mp hy).1]; exact hy) hxy, fun j q hq => hD.2 j q (by rw [List.getElem?_append_left (List.getElem?_eq_some_iff.mp hq).1]; exact hq)⟩
  exact kk H locs ls hP2 hD2 hS (lv_sub hl ks hlv)
/-! a switch on single numbers -/
theorem z_lookup {x v dflt off : Int} {ps : Array (Int × Int)} {len tgt : Nat} (hX : ZC G l0 cc Ts own nL R0 X) (hd : decode cc pc = .ok (.lookupswitch dflt ps, len)) (hv : wr x = v) (hp : (ps.toList.zip (ps.toList.drop 1)).all (fun (a, next) => a.1 < next.1) = true) (ho : Op.lookupswitch.offset ps.toList dflt v = off) (ht : (pc : Int) + off = (tgt : Int)) (kk : ZW G X sh ad h k n lv tgt st) : ZW G X sh ad h k n lv pc (.int (iI x) :: st) := by
  obtain ⟨p, l, e, R, s, m, args, below, meth, c, A, Q⟩ := X
  obtain ⟨hx, hb, hml, hown, hts, hK, hA, hN, hl0, hR0, hlk, hO⟩ := hX
  subst hv
  exact fun H locs ls hP hD hS hl => lv_lookup hx hb hd hp ho ht (kk H locs ls hP hD hS hl)
end ZMORE
