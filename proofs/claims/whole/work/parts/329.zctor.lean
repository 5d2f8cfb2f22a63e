section ZCTOR
variable {G : ZG} {l0 : Launch} {cc : ByteArray} {Ts : List Cond} {own : String} {nL : Nat} {R0 : Room} {X : ZX} {sh : ZS} {ad : Nat → Nat} {h : HS} {k n : Nat} {lv : List (Nat × Value)} {pc : Nat} {st : List Value}
/-! constructors: the world grows; new addresses at new numbers -/
def zIn : ZX → Prop
  | (_, _, _, _, _, _, _, _, meth, _, _, _) => meth.name = "<init>"
theorem z_objInit {a ix : Nat} (hX : ZC G l0 cc Ts own nL R0 X) (hd : decode cc pc = .ok (.invokespecial ix, 3)) (h1 : (Cond.methodLink own ix objectInit) ∈ Ts) (h2 : (Cond.instanceMethod objectInit) ∈ Ts) (h3 : (Cond.code objectInit ⟨#[0xb1]⟩ 1 none) ∈ Ts) (hfr : 1 ≤ R0.frames) (hlo : (st.map fun v => v.category).sum + 12 ≤ R0.locals) (kk : ZW G X sh ad h k n lv (pc + 3) st) : ZW G X sh ad h k n lv pc (.ref a :: st) := by
  obtain ⟨p, l, e, R, s, m, args, below, meth, c, A, Q⟩ := X
  obtain ⟨hx, hb, hml, hown, hts, hK, hA, hN, hl0, hR0, hlk, hO⟩ := hX
  subst hR0
  refine fun H locs ls hP hD hS hl => W.objInit hx hb hown (hts _ h1) (hts _ h2) (hts _ h3) rfl hl.1 rfl hd hfr ?_ ?_
  · show 2 * 0 + _ + 12 ≤ _
    omega
  · exact kk H locs ls hP hD hS hl
/-- a final field that holds a reference is set -/
theorem z_putRF {a j ci N f ix : Nat} {C : String} {T : u_T} {fs : List Nat} {ty0 : Nat → FieldType} {ty : FieldType} {sh1 : ZS} (hX : ZC G l0 cc Ts own nL R0 X) (hin : zIn X) (hd : decode cc pc = .ok (.putfield ix, 3)) (hF : zFld Ts own ix ci C T N f) (hty : ∀ k, k < N → parseFieldDescriptor (T k).2.2.1 = some (ty0 k)) (hnm : ∀ a, a < N → ∀ b, b < N → a ≠ b → (T a).2.1 ≠ (T b).2.1) (hfin : (T f).2.2.2 = true) (hdc : (T f).1 = own) (hpd : parseFieldDescriptor (T f).2.2.1 = some ty) (hnr : ∀ q : Nat, narrow ty (.ref q) = .ref q ∧ fits ty (.ref q) = true) (q : Nat) (hq : sh[q]? = some (a, .inr (.inr (ci, fs)))) (hf : f < fs.length) (hsh : sh.set q (a, .inr (.inr (ci, fs.set f (j + 2)))) = sh1) (kk : ZW G X sh1 ad h k n lv (pc + 3) st) : ZW G X sh ad h k n lv pc (.ref (ad j) :: .ref (ad a) :: st) := by
  obtain ⟨p, l, e, R, s, m, args, below, meth, c, A, Q⟩ := X
  obtain ⟨hx, hb, hml, hown, hts, hK, hA, hN, hl0, hR0, hlk, hO⟩ := hX
  refine fun H locs ls hP hD hS hl => va_putF (v := .ref (ad j)) (ty := ty) hx hb hts hF.1 ty0 hty hnm hown hK hP hD hS q (wz_at hq) hF.2.2.2 f hF.2.2.1 (hts _ hF.2.1) (fun _ h9 => h9) hfin hin hdc hpd (hnr _).1 (hnr _).2 (by rw [zf_len]; exact hf) hd (fun H1 locs1 hP1 hD1 hS1 => ?_)
  have e1 : (wz G sh ad h).set q (ad a, .inr (ci, (zf ad (h a) 0 fs).set f (.ref (ad j)))) = wz G sh1 ad h := by
    subst hsh
    unfold wz
    rw [List.map_set]
    congr 1
    unfold ze
    simp only
    rw [zf_setR]
  have hP2 : va_P G.1 vwCl ((wz G sh ad h).set q (ad a, .inr (ci, (zf ad (h a) 0 fs).set f (.ref (ad j))))) H1 := hP1
  have hD2 : va_D A ((wz G sh ad h).set q (ad a, .inr (ci, (zf ad (h a) 0 fs).set f (.ref (ad j))))) := hD1
  rw [e1] at hP2 hD2
  exact kk H1 locs1 ls hP2 hD2 hS1 hl
/-- a reference is put into a field: the shape's code changes -/
theorem z_putRn {a j ci N f ix : Nat} {C D : String} {T : u_T} {fs : List Nat} {ty0 : Nat → FieldType} {sh1 : ZS} (hX : ZC G l0 cc Ts own nL R0 X) (hd : decode cc pc = .ok (.putfield ix, 3)) (hF : zFld Ts own ix ci C T N f) (hU : zPut T N f ty0 (.object D)) (q : Nat) (hq : sh[q]? = some (a, .inr (.inr (ci, fs)))) (hf : f < fs.length) (hsh : sh.set q (a, .inr (.inr (ci, fs.set f (j + 2)))) = sh1) (kk : ZW G X sh1 ad h k n lv (pc + 3) st) : ZW G X sh ad h k n lv pc (.ref (ad j) :: .ref (ad a) :: st) := by
  obtain ⟨p, l, e, R, s, m, args, below, meth, c, A, Q⟩ := X
  obtain ⟨hx, hb, hml, hown, hts, hK, hA, hN, hl0, hR0, hlk, hO⟩ := hX
  refine fun H locs ls hP hD hS hl => va_put (v := .ref (ad j)) (ty := .object D) hx hb hts hF.1 ty0 hU.1 hU.2.1 hown hK hP hD hS q (wz_at hq) hF.2.2.2 f hF.2.2.1 (hts _ hF.2.1) (fun _ h9 => h9) hU.2.2.1 hU.2.2.2 rfl rfl (by rw [zf_len]; exact hf) hd (fun H1 locs1 hP1 hD1 hS1 => ?_)
  have e1 : (wz G sh ad h).set q (ad a, .inr (ci, (zf ad (h a) 0 fs).set f (.ref (ad j)))) = wz G sh1 ad h := by
    subst hsh
    unfold wz
    rw [List.map_set]
    congr 1
    unfold ze
    simp only
    rw [zf_setR]
  have hP2 : va_P G.1 vwCl ((wz G sh ad h).set q (ad a, .inr (ci, (zf ad (h a) 0 fs).set f (.ref (ad j))))) H1 := hP1
  have hD2 : va_D A ((wz G sh ad h).set q (ad a, .inr (ci, (zf ad (h a) 0 fs).set f (.ref (ad j))))) := hD1
  rw [e1] at hP2 hD2
  exact kk H1 locs1 ls hP2 hD2 hS1 hl
/-- a new row that stays -/
theorem z_newaS {i N : Nat} {lvF : (Nat → Nat) → List (Nat × Value)} {stF : (Nat → Nat) → List Value} {k1 n1 : Nat} {stk : List Value} {v : Int} {sh1 : ZS} (hX : ZC G l0 cc Ts own nL R0 X) (hd : decode cc pc = .ok (.newarray .int, 2)) (ha : (Cond.arrayClass .int) ∈ Ts) (hv : v = (N : Int)) (hN : N < 100000) (hfr : zfreshB sh i = true) (hcs : k + 1 ≤ R0.cells ∧ n + N ≤ R0.slots) (hk1 : k + 1 = k1) (hn1 : n + N = n1) (hlv : lv = lvF ad) (hst : stk = .int (iI v) :: stF ad) (hF : ∀ ad2 : Nat → Nat, (∀ j, j ≠ i → ad2 j = ad j) → lvF ad2 = lvF ad ∧ stF ad2 = stF ad) (hsh : sh ++ [(i, .inl N)] = sh1) (kk : ∀ ad2 : Nat → Nat, (∀ j, j ∉ [i] → ad2 j = ad j) → ZW G X sh1 ad2 (hz h i) k1 n1 (lvF ad2) (pc + 2) (.ref (ad2 i) :: stF ad2)) : ZW G X sh ad h k n lv pc stk := by
  subst hsh
  exact z_newa hX hd ha hv hN hfr hcs hk1 hn1 hlv hst hF (fun ad2 he => kk ad2 (fun j hj => he j (fun e => hj (by rw [e]; exact List.mem_singleton_self i))))
theorem zf_01 (ad ad2 : Nat → Nat) : ∀ (fs : List Nat) (k0 : Int), fs.all (fun f => decide (f < 2)) = true → zf ad (fun _ => 0) k0 fs = zf ad2 (fun _ => 0) k0 fs
  | [], _, _ => rfl
  | f :: fs, k0, hall => by
    rw [List.all_cons, Bool.and_eq_true] at hall
    simp only [zf]
    rw [zf_01 ad ad2 fs (k0 + 1) hall.2]
    congr 1
    match f, hall.1 with
    | 0, _ => rfl
    | 1, _ => rfl
    | t + 2, e => exact absurd (of_decide_eq_true e) (by omega)
theorem zf_adA {ad ad2 : Nat → Nat} {fr : List Nat} (he : ∀ j, j ∉ fr → ad2 j = ad j) (g : Int → Int) : ∀ (fs : List Nat) (k : Int), (∀ i ∈ fr, fs.contains (i + 2) = false) → zf ad2 g k fs = zf ad g k fs
  | [], _, _ => rfl
  | f :: fs, k, hc => by
    simp only [zf]
    rw [zf_adA he g fs (k + 1) (fun i hi => by have := hc i hi; rw [List.contains_cons, Bool.or_eq_false_iff] at this; exact this.2)]
    congr 1
    match f, hc with
    | 0, _ => rfl
    | 1, _ => rfl
    | j + 2, hc =>
      have hne : j ∉ fr := by
        intro hm
        have := hc j hm
        simp at this
      show Value.ref (ad2 j) = Value.ref (ad j)
      rw [he j hne]
/-- a new object -/
theorem z_new {i ci N ix : Nat} {C : String} {T : u_T} {ty : Nat → FieldType} {fs : List Nat} {lvF : (Nat → Nat) → List (Nat × Value)} {stF : (Nat → Nat) → List Value} {k1 n1 : Nat} {sh1 : ZS} (hX : ZC G l0 cc Ts own nL R0 X) (hd : decode cc pc = .ok (.new ix, 3)) (hin : ∀ w ∈ u_ws C T N, w ∈ Ts) (hty : ∀ k, k < N → parseFieldDescriptor (T k).2.2.1 = some (ty k)) (h1 : (Cond.classLink own ix C) ∈ Ts) (h2 : (Cond.instantiable C N) ∈ Ts) (h3 : (Cond.initialized C) ∈ Ts) (hc : vwCl[ci]? = some (C, T, N)) (hfs : ∀ ad2 : Nat → Nat, ∀ j, j < N → defaultValue (ty j) = vp_V (zf ad2 (fun _ => 0) 0 fs) j) (h01 : fs.all (fun f => decide (f < 2)) = true) (hfr : zfreshB sh i = true) (hcs : k + 1 ≤ R0.cells ∧ n + N ≤ R0.slots) (hk1 : k + 1 = k1) (hn1 : n + N = n1) (hlv : lv = lvF ad) (hst : st = stF ad) (hF : ∀ ad2 : Nat → Nat, (∀ j, j ≠ i → ad2 j = ad j) → lvF ad2 = lvF ad ∧ stF ad2 = stF ad) (hsh : sh ++ [(i, .inr (.inr (ci, fs)))] = sh1) (kk : ∀ ad2 : Nat → Nat, (∀ j, j ∉ [i] → ad2 j = ad j) → ZW G X sh1 ad2 (hz h i) k1 n1 (lvF ad2) (pc + 3) (.ref (ad2 i) :: stF ad2)) : ZW G X sh ad h k n lv pc st := by
  obtain ⟨p, l, e, R, s, m, args, below, meth, c, A, Q⟩ := X
  obtain ⟨hx, hb, hml, hown, hts, hK, hA, hN2, hl0, hR0, hlk, hO⟩ := hX
  subst hR0
  subst hk1
  subst hn1
  subst hst
  subst hsh
  refine fun H locs ls hP hD hS hl => va_new (fs := zf ad (fun _ => 0) 0 fs) hx hb hts hin ty hty hown (hts _ h1) (hts _ h2) (hts _ h3) hK hP hD hS hA hc (hfs ad) hcs.1 hcs.2 hd (fun q H1 hP1 hD1 hS1 => ?_)
  have he : ∀ j, j ≠ i → (fun j => if j = i then q else ad j) j = ad j := fun j hj => if_neg hj
  obtain ⟨f1, f2⟩ := hF (fun j => if j = i then q else ad j) he
  have kk := kk (fun j => if j = i then q else ad j) (fun j hj => he j (fun e => hj (by rw [e]; exact List.mem_singleton_self i)))
  have ew : wz G (sh ++ [(i, .inr (.inr (ci, fs)))]) (fun j => if j = i then q else ad j) (hz h i) = wz G sh ad h ++ [(q, .inr (ci, zf ad (fun _ => 0) 0 fs))] := by
    have e1 : wz G (sh ++ [(i, .inr (.inr (ci, fs)))]) (fun j => if j = i then q else ad j) (hz h i) = wz G sh (fun j => if j = i then q else ad j) (hz h i) ++ wz G [(i, .inr (.inr (ci, fs)))] (fun j => if j = i then q else ad j) (hz h i) := List.map_append
    rw [e1, wz_ad hfr he (fun j hj => hz_ne h hj)]
    congr 1
    show [((if i = i then q else ad i), ze G _ (hz h i) (i, .inr (.inr (ci, fs))))] = _
    rw [if_pos rfl]
    unfold ze hz
    simp only [if_true]
    rw [zf_01 _ ad fs 0 h01]
  rw [f1, f2] at kk
  have kk2 := kk H1 locs ls (by rw [ew]; exact hP1) (by rw [ew]; exact hD1) hS1 (by rw [← hlv]; exact hl)
  simp only [if_true] at kk2
  exact kk2
/-! a constructor's contract: the cells fr are new, their addresses come with it -/
def ZMk (G : ZG) (l : Launch) (y : MethodName) (ws : List Cond) (rm : Room) (av : List Value) (sh : ZS) (ad : Nat → Nat) (h : HS) (sh1 : ZS) (fr Wr : List Nat) (h1 : HS) : Prop := ∀ sz : Nat, Met l y ws rm (va_Pc av (zP G sh ad h sz)) (va_Qv (fun (ad1 : Nat → Nat) => (∀ j, j ∉ fr → ad1 j = ad j) ∧ zfr Wr h h1) (fun ad1 t => va_P G.1 vwCl (wz G sh1 ad1 h1) t.heap ∧ va_D (va_A (wz G sh ad h) sz) (wz G sh1 ad1 h1)) (va_A (wz G sh ad h) sz)) rm.cells rm.slots (va_A (wz G sh ad h) sz)
theorem ZMk.of {y : MethodName} {ws ws1 : List Cond} {rm : Room} {av : List Value} {sh1 : ZS} {fr Wr : List Nat} {h1 : HS} {maxL : Nat} {ret : Option FieldType} {lv0 : List (Nat × Value)} (hy : plainName y.cls = true) (hw : ws = Cond.code y cc maxL ret :: ws1) (hret : ret = none) (hc : y.cls = own) (hyn : y.name = "<init>") (hlen : (lg_sl av).length ≤ maxL) (hlv : lv_args 0 av = lv0)
    (body : ∀ X : ZX, ZC G l0 cc ws own maxL rm X → zIn X → (∀ (ad1 : Nat → Nat) (lv : List (Nat × Value)) (pc : Nat), decode cc pc = .ok (.return_, 1) → (∀ j, j ∉ fr → ad1 j = ad j) → zfr Wr h h1 → ZW G X sh1 ad1 h1 rm.cells rm.slots lv pc []) → ZW G X sh ad h 0 0 lv0 0 []) : ZMk G l0 y ws rm av sh ad h sh1 fr Wr h1 := by
  intro sz
  refine Met.ofW (cc := cc) (maxL := maxL) (ret := ret) hy hw ?_
  intro p e s m args below meth c s₁ B hml hv
  obtain ⟨rfl, hsz, hP, hK, hD0, hN, hO⟩ := hv
  have hx := B.exec
  have hb := B.bytes
  have hr := B.returns
  have hts := atoms_spec (ws := ws) B.pre
  have hown : s.vm.findClass own = some m.cls := hc ▸ findClass_of_methodNamed B.named
  have hlocks := B.notSynchronized
  have hin : meth.name = "<init>" := (name_of_methodNamed B.named B.method).1.trans hyn
  subst hsz
  have hD := hD0.self (sz := s.heap.size)
  have hA : ∀ q : Nat, s.heap.size ≤ q → va_A (wz G sh ad h) s.heap.size q := fun q h => Or.inr h
  rw [lg_entry_eq]
  refine body (p, l0, e, rm, s, m, av.toArray, below, meth, c, va_A (wz G sh ad h) s.heap.size, _) ⟨hx, hb, hml, hown, hts, hK, hA, hN, rfl, rfl, hlocks, hO⟩ hin (fun ad1 lv pc hd ha hf H locs ls hP1 hD1 hS1 hl1 => ?_) s.heap [] _ hP hD va_S.rf (by rw [hml]; exact hlv ▸ lv_entry av hlen)
  exact W.vret hx hb (hr.trans hret) (fun t ht hW => ⟨⟨ad1, rfl, ⟨ha, hf⟩, by show va_P G.1 vwCl (wz G sh1 ad1 h1) t.heap; rw [ht]; exact hP1, hD1⟩, hS1.F ht⟩) hS1.2.2 hd
def zfreshA (sh : ZS) (fr : List Nat) : Bool := fr.all (fun i => zfreshB sh i)
theorem wz_adA {ad2 : Nat → Nat} {fr : List Nat} {h1 : HS} (hb : zfreshA sh fr = true) (he : ∀ j, j ∉ fr → ad2 j = ad j) (hh : ∀ x ∈ sh, h1 x.1 = h x.1) : wz G sh ad2 h1 = wz G sh ad h := by
  unfold wz
  apply List.map_congr_left
  intro x hx
  have hx2 : ∀ i ∈ fr, x.1 ≠ i ∧ (∀ o, x.2 = .inr (.inr o) → o.2.contains (i + 2) = false) := by
    intro i hi
    have h2 := List.all_eq_true.mp hb i hi
    unfold zfreshB at h2
    have h3 := List.all_eq_true.mp h2 x hx
    simp only [Bool.and_eq_true, bne_iff_ne, ne_eq] at h3
    refine ⟨h3.1, fun o ho => ?_⟩
    have h4 := h3.2
    rw [ho] at h4
    simpa using h4
  have e0 : ad2 x.1 = ad x.1 := he _ (fun hm => (hx2 _ hm).1 rfl)
  rw [e0, ze_congr (h := h) (h1 := h1) (hh x hx)]
  congr 1
  obtain ⟨j, a | a | o⟩ := x
  · rfl
  · rfl
  · unfold ze
    simp only
    rw [zf_adA he (h j) o.2 0 (fun i hi => (hx2 i hi).2 o rfl)]
theorem z_joinA {A : Nat → Prop} {rest shc sh1 : ZS} {ad1 : Nat → Nat} {h1 : HS} {H H1 : Heap} (hP : va_P G.1 vwCl (wz G (rest ++ shc) ad h) H) (hD : va_D A (wz G (rest ++ shc) ad h)) (hF : ∀ q, va_A (wz G shc ad h) H.size q → A q) (hk : ∀ q, q < H.size → ¬ va_A (wz G shc ad h) H.size q → H1[q]? = H[q]?) (hP1 : va_P G.1 vwCl (wz G sh1 ad1 h1) H1) (hD1 : va_D (va_A (wz G shc ad h) H.size) (wz G sh1 ad1 h1)) (hr : wz G rest ad1 h1 = wz G rest ad h) : va_P G.1 vwCl (wz G (rest ++ sh1) ad1 h1) H1 ∧ va_D A (wz G (rest ++ sh1) ad1 h1) := by
  have e1 : wz G (rest ++ shc) ad h = wz G rest ad h ++ wz G shc ad h := List.map_append
  have e2 : wz G (rest ++ sh1) ad1 h1 = wz G rest ad h ++ wz G sh1 ad1 h1 := by rw [← hr]; exact List.map_append
  rw [e1] at hP hD
  rw [e2]
  have hl : ∀ {j : Nat} {q : Nat × va_E}, (wz G rest ad h)[j]? = some q → (wz G rest ad h ++ wz G shc ad h)[j]? = some q := fun {j q} hq => by
    rw [List.getElem?_append_left (List.getElem?_eq_some_iff.mp hq).1]; exact hq
  have apart : ∀ (j : Nat) (q : Nat × va_E), (wz G rest ad h)[j]? = some q → q.1 < H.size ∧ ¬ va_A (wz G shc ad h) H.size q.1 := by
    intro j q hq
    have hlt := (hP j q (hl hq)).lt
    refine ⟨hlt, fun hv => ?_⟩
    rcases hv with ⟨k2, e, hv⟩ | hv
    · have h3 : (wz G rest ad h ++ wz G shc ad h)[(wz G rest ad h).length + k2]? = some (q.1, e) := by
        rw [List.getElem?_append_right (by omega), Nat.add_sub_cancel_left]; exact hv
      have h4 := hD.1 j _ _ _ (hl hq) h3 rfl
      have h5 := (List.getElem?_eq_some_iff.mp hq).1
      omega
    · omega
  refine ⟨va_P.app (fun j q hq => ?_) hP1, va_D.app ⟨fun i j p q hp hq e => hD.1 i j p q (hl hp) (hl hq) e, fun j q hq => hD.2 j q (hl hq)⟩ (hD1.weaken (fun j q _ hv => hF q.1 hv)) (fun i j x y hx hy hxy => ?_)⟩
  · obtain ⟨g1, g2⟩ := apart j q hq
    exact (hP j q (hl hq)).kept (hk q.1 g1 g2)
  · exact (apart i x hx).2 (by rw [hxy]; exact hD1.2 j y hy)
theorem z_callI_k {y : MethodName} {ws ws1 : List Cond} {rm : Room} {rest shc sh1 sh2 : ZS} {fr Wr : List Nat} {h1 : HS} {index maxL nA k1 n1 : Nat} {bytes : ByteArray} {stk : List Value} {As : List Value} {b : Nat} {lvF : (Nat → Nat) → List (Nat × Value)} {stF : (Nat → Nat) → List Value} (hX : ZC G l0 cc Ts own nL R0 X) (hM : ZMk G l0 y ws rm (.ref (ad b) :: As) shc ad h sh1 fr Wr h1) (hd : decode cc pc = .ok (.invokespecial index, 3)) (hg : GoodIn Ts ws) (hw : ws = Cond.code y bytes maxL none :: ws1) (hl0 : (Cond.methodLink own index y) ∈ Ts) (hini : (Cond.initialized y.cls) ∈ Ts) (hin0 : (Cond.instanceMethod y) ∈ Ts) (hyn : y.name = "<init>") (hy : y.cls ≠ "java/lang/invoke/MethodHandle" ∧ y.cls ≠ "java/lang/invoke/VarHandle" ∧ (parseMethodDescriptor y.desc).map (fun d => d.parameters.length) = some nA) (hroom : rm.frames + 1 ≤ R0.frames ∧ 8 + (maxL + 11) + rm.locals ≤ R0.locals) (hcs : k + rm.cells ≤ R0.cells ∧ n + rm.slots ≤ R0.slots) (hn : As.length = nA) (hs : stk = As.reverse ++ .ref (ad b) :: st) (hcat : (st.map fun v => v.category).sum ≤ 8) (hsh : sh = rest ++ shc) (hnd : va_nd (shc.map (fun x => x.1)) = true) (hfr : zfreshA rest fr = true) (hWr : rest.all (fun x => !(Wr.contains x.1)) = true) (hsh2 : rest ++ sh1 = sh2) (hk1 : k + rm.cells = k1) (hn1 : n + rm.slots = n1) (hlv : lv = lvF ad) (hst : st = stF ad) (hF0 : ∀ ad2 : Nat → Nat, (∀ j, j ∉ fr → ad2 j = ad j) → lvF ad2 = lvF ad ∧ stF ad2 = stF ad) (kk : ∀ ad1 : Nat → Nat, (∀ j, j ∉ fr → ad1 j = ad j) → zfr Wr h h1 → ZW G X sh2 ad1 h1 k1 n1 (lvF ad1) (pc + 3) (stF ad1)) : ZW G X sh ad h k n lv pc stk := by
  obtain ⟨p, l, e, R, s, m, args, below, meth, c, A, Q⟩ := X
  obtain ⟨hx, hb, hml, hown, hts, hK, hA, hN, hll, hR0, hlk, hO⟩ := hX
  subst hll
  subst hR0
  subst hs
  subst hsh
  subst hsh2
  subst hk1
  subst hn1
  have hs1 : ∀ x ∈ shc, x ∈ rest ++ shc := fun x hx => List.mem_append_right _ hx
  refine fun H locs ls hP hD hS hl => ?_
  have hF : ∀ q, va_A (wz G shc ad h) H.size q → A q := by
    intro q hq
    rcases hq with ⟨k, e, hk⟩ | hq
    · obtain ⟨x, hx, e2⟩ := wz_of hk
      obtain ⟨i, hi⟩ := List.getElem?_of_mem (hs1 x (List.mem_of_getElem? hx))
      have h3 := hD.2 i _ (wz_at (h := h) hi)
      cases e2
      exact h3
    · exact hA q (Nat.le_trans hS.1 hq)
  refine va_callv (va_runI (As := As) (rest := st) ⟨hx, hb, hml, hown, hts⟩ (hM H.size) (cwI nA hts hg hw rfl rfl (hts _ hini) (hts _ hl0) (hts _ hin0) hyn hy hroom) ⟨zP_blind, fun U hU hW => ⟨rfl, by rw [hU], by rw [hU]; exact z_sub hs1 hP, va_K.moved hW.alike hK, z_subD hs1 hnd (fun _ _ => trivial) hD, hN.warm hW, by rw [hU]; exact ((hO.kept hS.2.1).narrow hF).moved hW.alike⟩⟩ rfl hn (hl.1.trans hml) rfl (lv_room hcat) hd hcs) hS (fun q _ h => hF q h) hF (fun ad1 t H1 locs1 ht hvm hp hB hz1 hk1 hS1 => ?_)
  obtain ⟨hag, hf⟩ := hp
  obtain ⟨hP1, hD1⟩ := hB
  rw [ht] at hP1
  have hrest : wz G rest ad1 h1 = wz G rest ad h := wz_adA hfr hag (fun x hx => hf _ (by
    have h3 := List.all_eq_true.mp hWr x hx
    intro hm
    rw [List.contains_iff_mem.mpr hm] at h3
    cases h3))
  obtain ⟨hP2, hD2⟩ := z_joinA hP hD hF hk1 hP1 hD1 hrest
  obtain ⟨f1, f2⟩ := hF0 ad1 hag
  have kk := kk ad1 hag hf
  rw [f1, f2] at kk
  rw [hst]
  exact kk H1 locs1 ls hP2 hD2 hS1 (by rw [← hlv]; exact hl)
theorem z_callIN_k {y : MethodName} {ws ws1 : List Cond} {rm : Room} {rest shc sh1 sh2 : ZS} {fr Wr : List Nat} {h1 : HS} {index maxL nA k1 n1 : Nat} {bytes : ByteArray} {stk : List Value} {As : List Value} {b : Nat} {lvF : (Nat → Nat) → List (Nat × Value)} {stF : (Nat → Nat) → List Value} {host : String} (hX : ZC G l0 cc Ts own nL R0 X) (hM : ZMk G l0 y ws rm (.ref (ad b) :: As) shc ad h sh1 fr Wr h1) (hd : decode cc pc = .ok (.invokespecial index, 3)) (hg : GoodIn Ts ws) (hw : ws = Cond.code y bytes maxL none :: ws1) (hl0 : ∀ U, zN U → va_Nw (.methodLinkNest own index y host) U) (hini : (Cond.initialized y.cls) ∈ Ts) (hin0 : (Cond.instanceMethod y) ∈ Ts) (hyn : y.name = "<init>") (hy : y.cls ≠ "java/lang/invoke/MethodHandle" ∧ y.cls ≠ "java/lang/invoke/VarHandle" ∧ (parseMethodDescriptor y.desc).map (fun d => d.parameters.length) = some nA) (hroom : rm.frames + 1 ≤ R0.frames ∧ 8 + (maxL + 11) + rm.locals ≤ R0.locals) (hcs : k + rm.cells ≤ R0.cells ∧ n + rm.slots ≤ R0.slots) (hn : As.length = nA) (hs : stk = As.reverse ++ .ref (ad b) :: st) (hcat : (st.map fun v => v.category).sum ≤ 8) (hsh : sh = rest ++ shc) (hnd : va_nd (shc.map (fun x => x.1)) = true) (hfr : zfreshA rest fr = true) (hWr : rest.all (fun x => !(Wr.contains x.1)) = true) (hsh2 : rest ++ sh1 = sh2) (hk1 : k + rm.cells = k1) (hn1 : n + rm.slots = n1) (hlv : lv = lvF ad) (hst : st = stF ad) (hF0 : ∀ ad2 : Nat → Nat, (∀ j, j ∉ fr → ad2 j = ad j) → lvF ad2 = lvF ad ∧ stF ad2 = stF ad) (kk : ∀ ad1 : Nat → Nat, (∀ j, j ∉ fr → ad1 j = ad j) → zfr Wr h h1 → ZW G X sh2 ad1 h1 k1 n1 (lvF ad1) (pc + 3) (stF ad1)) : ZW G X sh ad h k n lv pc stk := by
  obtain ⟨p, l, e, R, s, m, args, below, meth, c, A, Q⟩ := X
  obtain ⟨hx, hb, hml, hown, hts, hK, hA, hN, hll, hR0, hlk, hO⟩ := hX
  subst hll
  subst hR0
  subst hs
  subst hsh
  subst hsh2
  subst hk1
  subst hn1
  have hs1 : ∀ x ∈ shc, x ∈ rest ++ shc := fun x hx => List.mem_append_right _ hx
  refine fun H locs ls hP hD hS hl => ?_
  have hF : ∀ q, va_A (wz G shc ad h) H.size q → A q := by
    intro q hq
    rcases hq with ⟨k, e, hk⟩ | hq
    · obtain ⟨x, hx, e2⟩ := wz_of hk
      obtain ⟨i, hi⟩ := List.getElem?_of_mem (hs1 x (List.mem_of_getElem? hx))
      have h3 := hD.2 i _ (wz_at (h := h) hi)
      cases e2
      exact h3
    · exact hA q (Nat.le_trans hS.1 hq)
  refine va_callv (va_runIN (As := As) (rest := st) ⟨hx, hb, hml, hown, hts⟩ (hM H.size) ⟨va_cnB nA hts hg hw rfl rfl (hl0 _ hN) (hts _ hini) hy hroom, hyn, hts _ hin0⟩ ⟨zP_blind, fun U hU hW => ⟨rfl, by rw [hU], by rw [hU]; exact z_sub hs1 hP, va_K.moved hW.alike hK, z_subD hs1 hnd (fun _ _ => trivial) hD, hN.warm hW, by rw [hU]; exact ((hO.kept hS.2.1).narrow hF).moved hW.alike⟩⟩ rfl hn (hl.1.trans hml) rfl (lv_room hcat) hd hcs) hS (fun q _ h => hF q h) hF (fun ad1 t H1 locs1 ht hvm hp hB hz1 hk1 hS1 => ?_)
  obtain ⟨hag, hf⟩ := hp
  obtain ⟨hP1, hD1⟩ := hB
  rw [ht] at hP1
  have hrest : wz G rest ad1 h1 = wz G rest ad h := wz_adA hfr hag (fun x hx => hf _ (by
    have h3 := List.all_eq_true.mp hWr x hx
    intro hm
    rw [List.contains_iff_mem.mpr hm] at h3
    cases h3))
  obtain ⟨hP2, hD2⟩ := z_joinA hP hD hF hk1 hP1 hD1 hrest
  obtain ⟨f1, f2⟩ := hF0 ad1 hag
  have kk := kk ad1 hag hf
  rw [f1, f2] at kk
  rw [hst]
  exact kk H1 locs1 ls hP2 hD2 hS1 (by rw [← hlv]; exact hl)
end ZCTOR
