section ZSWAP
variable {G : ZG} {l0 : Launch} {cc : ByteArray} {Ts : List Cond} {own : String} {nL : Nat} {R0 : Room} {X : ZX} {sh : ZS} {ad : Nat → Nat} {h : HS} {k n : Nat} {lv : List (Nat × Value)} {pc : Nat} {st : List Value}
theorem zf_setR (ad : Nat → Nat) (g : Int → Int) (j : Nat) : ∀ (fs : List Nat) (k0 : Int) (k : Nat), (zf ad g k0 fs).set k (.ref (ad j)) = zf ad g k0 (fs.set k (j + 2))
  | [], _, k => by cases k <;> rfl
  | f :: fs, k0, 0 => rfl
  | f :: fs, k0, k + 1 => by
    simp only [zf, List.set_cons_succ]
    rw [zf_setR ad g j fs (k0 + 1) k]
/-- a reference is put into a field: the shape's code changes -/
theorem z_putR {a j j0 ci N f ix : Nat} {C D : String} {T : u_T} {fs : List Nat} {ty0 : Nat → FieldType} {sh1 : ZS} (hX : ZC G l0 cc Ts own nL R0 X) (hd : decode cc pc = .ok (.putfield ix, 3)) (hF : zFld Ts own ix ci C T N f) (hU : zPut T N f ty0 (.object D)) (q : Nat) (hq : sh[q]? = some (a, .inr (.inr (ci, fs)))) (hf : fs[f]? = some (j0 + 2)) (hsh : sh.set q (a, .inr (.inr (ci, fs.set f (j + 2)))) = sh1) (kk : ZW G X sh1 ad h k n lv (pc + 3) st) : ZW G X sh ad h k n lv pc (.ref (ad j) :: .ref (ad a) :: st) := by
  obtain ⟨p, l, e, R, s, m, args, below, meth, c, A, Q⟩ := X
  obtain ⟨hx, hb, hml, hown, hts, hK, hA, hN, hl0, hR0, hlk, hO⟩ := hX
  have hl0 : f < fs.length := (List.getElem?_eq_some_iff.mp hf).1
  refine fun H locs ls hP hD hS hl => va_put (v := .ref (ad j)) (ty := .object D) hx hb hts hF.1 ty0 hU.1 hU.2.1 hown hK hP hD hS q (wz_at hq) hF.2.2.2 f hF.2.2.1 (hts _ hF.2.1) (fun _ h9 => h9) hU.2.2.1 hU.2.2.2 rfl rfl (by rw [zf_len]; exact hl0) hd (fun H1 locs1 hP1 hD1 hS1 => ?_)
  have e1 : (wz G sh ad h).set q (ad a, .inr (ci, (zf ad (h a) 0 fs).set f (.ref (ad j)))) = wz G sh1 ad h := by
    subst hsh
    unfold wz
    rw [List.map_set]
    congr 1
    unfold ze
    simp only
    rw [zf_setR]
  have hP2 : va_P G.1 vwCl ((wz G sh ad h).set q (ad a, .inr (ci, (zf ad (h a) 0 fs).set f (.ref (ad j))))) H1 := hP1
  have hD2 : va_D A ((wz G sh ad h).set q (ad a, .inr (ci, (zf ad (h a) 0 fs).set f (.ref (ad j))))) := hD1
  rw [e1] at hP2 hD2
  exact kk H1 locs1 ls hP2 hD2 hS1 hl
/-! two cells of one kind change their numbers: 19 with 21, 20 with 22 -/
def zsw (i : Nat) : Nat := if i = 19 then 21 else if i = 20 then 22 else if i = 21 then 19 else if i = 22 then 20 else i
def asw (ad : Nat → Nat) : Nat → Nat := fun i => ad (zsw i)
def hsw (h : HS) : HS := fun i => h (zsw i)
theorem zfr_hsw {Wr : List Nat} {h h1 : HS} (hf : zfr Wr h h1) (hi : 19 ∈ Wr ∧ 20 ∈ Wr ∧ 21 ∈ Wr ∧ 22 ∈ Wr) : zfr Wr h (hsw h1) := fun j hj => by
  have e : zsw j = j := by
    unfold zsw
    have a1 : j ≠ 19 := fun e => hj (by rw [e]; exact hi.1)
    have a2 : j ≠ 20 := fun e => hj (by rw [e]; exact hi.2.1)
    have a3 : j ≠ 21 := fun e => hj (by rw [e]; exact hi.2.2.1)
    have a4 : j ≠ 22 := fun e => hj (by rw [e]; exact hi.2.2.2)
    rw [if_neg a1, if_neg a2, if_neg a3, if_neg a4]
  show h1 (zsw j) = h j
  rw [e]
  exact hf j hj
/-- worlds that are lists of the same cells, each once -/
theorem z_perm {sh1 sh2 : ZS} {ad1 ad2 : Nat → Nat} {h1 h2 : HS} (ps : List Nat) (he : wz G sh2 ad2 h2 = ps.filterMap (fun i => (wz G sh1 ad1 h1)[i]?)) (hm : ps.map (fun i => (wz G sh1 ad1 h1)[i]?) = (wz G sh2 ad2 h2).map some) (hn : va_nd ps = true) (kk : ZW G X sh2 ad2 h2 k n [] pc st) : ZW G X sh1 ad1 h1 k n lv pc st := by
  obtain ⟨p, l, e, R, s, m, args, below, meth, c, A, Q⟩ := X
  refine fun H locs ls hP hD hS hl => kk H locs ls ?_ ?_ hS (lv_sub hl [] rfl)
  · exact hP.sub ps he.symm
  · exact hD.sub ps hn hm
end ZSWAP
