section ZDRAW
variable {G : ZG} {l0 : Launch} {cc : ByteArray} {Ts : List Cond} {own : String} {nL : Nat} {R0 : Room} {X : ZX} {sh : ZS} {ad : Nat → Nat} {h : HS} {k n : Nat} {lv : List (Nat × Value)} {pc : Nat} {st : List Value}
/-! a method that answers 0.0, or a quotient (which NaN, where it is one, is left open) -/
def zdv (z : Int × Int × Int) (r : UInt64) : Prop := (z.1 = 0 ∧ r = FP.dconst0) ∨ (z.1 = 1 ∧ alike64 r (FP.ddiv (FP.i2d (iI z.2.1)) (FP.i2d (iI z.2.2))) = true)
def ZMd (G : ZG) (l : Launch) (y : MethodName) (ws : List Cond) (rm : Room) (av : List Value) (sh : ZS) (ad : Nat → Nat) (h : HS) (Wr : List Nat) (z1 : Int × Int × Int) (h1 : HS) : Prop := ∀ sz : Nat, MetD lw_cs l y ws rm (va_Pc av (zP G sh ad h sz)) (va_Qd (fun (r : UInt64) (_ : Unit) => zdv z1 r ∧ zfr Wr h h1) (fun _ t => zB G sh ad h1 t) (va_A (wz G sh ad h) sz)) rm.cells rm.slots (va_A (wz G sh ad h) sz)
theorem z_i2d {x : Int} (hX : ZC G l0 cc Ts own nL R0 X) (hd : decode cc pc = .ok (.i2d, 1)) (kk : ZW G X sh ad h k n lv (pc + 1) (.double (FP.i2d (iI x)) :: st)) : ZW G X sh ad h k n lv pc (.int (iI x) :: st) := by
  obtain ⟨p, l, e, R, s, m, args, below, meth, c, A, Q⟩ := X
  obtain ⟨hx, hb, hml, hown, hts, hK, hA, hN, hl0, hR0, hlk, hO⟩ := hX
  exact fun H locs ls hP hD hS hl => lv_i2d hx hb hd (kk H locs ls hP hD hS hl)
theorem z_dconst0 (hX : ZC G l0 cc Ts own nL R0 X) (hd : decode cc pc = .ok (.dconst 0, 1)) (kk : ZW G X sh ad h k n lv (pc + 1) (.double FP.dconst0 :: st)) : ZW G X sh ad h k n lv pc st := by
  obtain ⟨p, l, e, R, s, m, args, below, meth, c, A, Q⟩ := X
  obtain ⟨hx, hb, hml, hown, hts, hK, hA, hN, hl0, hR0, hlk, hO⟩ := hX
  exact fun H locs ls hP hD hS hl => lv_dconst0 hx hb hd (kk H locs ls hP hD hS hl)
set_option maxHeartbeats 4000000 in
theorem ZMd.of {y : MethodName} {ws ws1 : List Cond} {rm : Room} {av : List Value} {Wr : List Nat} {z1 : Int × Int × Int} {h1 : HS} {maxL : Nat} {ret : Option FieldType} {lv0 : List (Nat × Value)} (hy : plainName y.cls = true) (hw : ws = Cond.code y cc maxL ret :: ws1) (hret : ret = some .double) (hc : y.cls = own) (hlen : (lg_sl av).length ≤ maxL) (hlv : lv_args 0 av = lv0)
    (body : ∀ X : ZX, ZC G l0 cc ws own maxL rm X → (∀ (lv : List (Nat × Value)) (pc : Nat), decode cc pc = .ok (.dreturn, 1) → z1.1 = 0 → zfr Wr h h1 → ZW G X sh ad h1 rm.cells rm.slots lv pc [.double FP.dconst0]) → (∀ (lv : List (Nat × Value)) (pc : Nat), decode cc pc = .ok (.ddiv, 1) → decode cc (pc + 1) = .ok (.dreturn, 1) → z1.1 = 1 → zfr Wr h h1 → ZW G X sh ad h1 rm.cells rm.slots lv pc [.double (FP.i2d (iI z1.2.2)), .double (FP.i2d (iI z1.2.1))]) → ZW G X sh ad h 0 0 lv0 0 []) : ZMd G l0 y ws rm av sh ad h Wr z1 h1 := by
  intro sz
  refine MetD.ofW (cc := cc) (maxL := maxL) (ret := ret) hy hw ?_
  intro p e s m args below meth c s₁ B hml hv hd0
  obtain ⟨rfl, hsz, hP, hK, hD0, hN, hO⟩ := hv
  have hx := B.exec
  have hb := B.bytes
  have hr := B.returns
  have hts := atoms_spec (ws := ws) B.pre
  have hown : s.vm.findClass own = some m.cls := hc ▸ findClass_of_methodNamed B.named
  have hlocks := B.notSynchronized
  subst hsz
  have hD := hD0.self (sz := s.heap.size)
  have hA : ∀ q : Nat, s.heap.size ≤ q → va_A (wz G sh ad h) s.heap.size q := fun q h => Or.inr h
  rw [lg_entry_eq]
  refine body (p, l0, e, rm, s, m, av.toArray, below, meth, c, va_A (wz G sh ad h) s.heap.size, _) ⟨hx, hb, hml, hown, hts, hK, hA, hN, rfl, rfl, hlocks, hO⟩ (fun lv pc hd hz hf H locs ls hP1 hD1 hS1 hl1 => ?_) (fun lv pc hd hd2 hz hf H locs ls hP1 hD1 hS1 hl1 => ?_) s.heap [] _ hP hD va_S.rf (by rw [hml]; exact hlv ▸ lv_entry av hlen)
  · refine W.base ?_
    refine W.endD hd0 ?_
    exact W.dret hx hb (hr.trans hret) (fun t ht hW => ⟨⟨FP.dconst0, (), rfl, ⟨Or.inl ⟨hz, rfl⟩, hf⟩, by show va_P G.1 vwCl (wz G sh ad h1) t.heap; rw [ht]; exact hP1⟩, hS1.F ht⟩) hS1.2.2 hd
  · refine W.base ?_
    refine lv_ddiv_any hd0 lw_bits hx hb hd (fun r d1 hal hd1 => ?_)
    refine W.endD hd1 ?_
    exact W.dret hx hb (hr.trans hret) (fun t ht hW => ⟨⟨r, (), rfl, ⟨Or.inr ⟨hz, hal⟩, hf⟩, by show va_P G.1 vwCl (wz G sh ad h1) t.heap; rw [ht]; exact hP1⟩, hS1.F ht⟩) hS1.2.2 hd2
end ZDRAW
