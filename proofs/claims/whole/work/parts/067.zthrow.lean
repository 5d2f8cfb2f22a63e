section ZTHROW
variable {G : ZG} {l0 : Launch} {cc : ByteArray} {Ts : List Cond} {own : String} {nL : Nat} {R0 : Room} {X : ZX} {sh : ZS} {ad : Nat → Nat} {h : HS} {k n : Nat} {lv : List (Nat × Value)} {pc : Nat} {st : List Value}
/-! methods that return or throw: t0 = 0: the answer is z1; else the exception's name is zExc t0 -/
def zNms : List String := ["java/lang/RuntimeException", "java/lang/Exception"]
def ZTi (G : ZG) (l : Launch) (y : MethodName) (ws : List Cond) (rm : Room) (av : List Value) (sh : ZS) (ad ad1 : Nat → Nat) (h : HS) (Wr : List Nat) (t0 z1 : Int) (h1 : HS) : Prop := ∀ sz : Nat, vx_Met l y ws rm (va_Pc av (zP G sh ad h sz)) (va_Qi (fun (r : Int32) (_ : Unit) => t0 = 0 ∧ r = iI z1 ∧ zfr Wr h h1) (fun _ t => zB G sh ad1 h1 t) (va_A (wz G sh ad h) sz)) (vx_X (fun (_ : Unit) => t0 ≠ 0 ∧ zfr Wr h h1) (fun E _ t => E = zExc t0 ∧ zB G sh ad h1 t) (va_A (wz G sh ad h) sz)) rm.cells rm.slots (va_A (wz G sh ad h) sz)
/-- what a throw wants of a method's words: the links, what goes with the exception -/
def zThr (ws : List Cond) (ik is ic : Nat) (t : Int) (text : String) : Prop := (Cond.classLink RX5 ik (zExc t)) ∈ ws ∧ (Cond.initialized (zExc t)) ∈ ws ∧ ((∀ w ∈ (vx_atS RX5 ic (zExc t) zNms).filter goodWord, w ∈ ws) ∧ (∀ w ∈ (vx_atS RX5 ic (zExc t) zNms).filter (fun w => !goodWord w), w ∈ [Cond.castable (zExc t) (zExc t), .declares (Bundle.initS "java/lang/RuntimeException"), .declares (Bundle.initS "java/lang/Exception"), .declares (Bundle.initS Bundle.tN)]) ∧ (t = 1 ∨ t = 2 ∨ t = 3)) ∧ (∀ w ∈ Cond.classLink RX5 ik (zExc t) :: Cond.initialized (zExc t) :: vx_atS RX5 ic (zExc t) zNms, vx_ot w = true) ∧ (is, text) ∈ zMsg ∧ Bundle.fit (zExc t) = true
theorem zNms_ok : ∀ n ∈ zNms, Bundle.fit n = true := by decide +kernel
set_option maxHeartbeats 4000000 in
theorem ZTi.of {y : MethodName} {ws ws1 : List Cond} {rm : Room} {av : List Value} {Wr : List Nat} {t0 z1 : Int} {h1 : HS} {maxL : Nat} {ret : Option FieldType} {lv0 : List (Nat × Value)} {ad1 : Nat → Nat} (hst : l0.stackTraces = false) (hy : plainName y.cls = true) (hw : ws = Cond.code y cc maxL ret :: ws1) (hret : ret = some .int) (hc : y.cls = RX5) (hlen : (lg_sl av).length ≤ maxL) (hlv : lv_args 0 av = lv0)
    (body : ∀ X : ZX, ZC G l0 cc ws RX5 maxL rm X → (∀ (lv : List (Nat × Value)) (pc : Nat), decode cc pc = .ok (.ireturn, 1) → t0 = 0 → zfr Wr h h1 → ZW G X sh ad1 h1 rm.cells rm.slots lv pc [.int (iI z1)]) →
      (∀ (lv : List (Nat × Value)) (pc ik is ic k n : Nat) (text : String) (st : List Value), zThr ws ik is ic t0 text → decode cc pc = .ok (.new ik, 3) → decode cc (pc + 3) = .ok (.dup, 1) → decode cc (pc + 4) = .ok (.ldc is, 2) → decode cc (pc + 6) = .ok (.invokespecial ic, 3) → decode cc (pc + 9) = .ok (.athrow, 1) → 5 < rm.frames → (st.map fun v => v.category).sum + 82 ≤ rm.locals → k + 1 ≤ rm.cells → n + 6 ≤ rm.slots → t0 ≠ 0 → zfr Wr h h1 → ZW G X sh ad h1 k n lv pc st) → ZW G X sh ad h 0 0 lv0 0 []) : ZTi G l0 y ws rm av sh ad ad1 h Wr t0 z1 h1 := by
  intro sz
  refine vx_ofW (cc := cc) (maxL := maxL) (ret := ret) hy hw ?_
  intro p e s m args below meth c s₁ B hml hnoex hv
  obtain ⟨rfl, hsz, hP, hK, hD0, hN, hO⟩ := hv
  have hx := B.exec
  have hb := B.bytes
  have hr := B.returns
  have hts := atoms_spec (ws := ws) B.pre
  have hown : s.vm.findClass RX5 = some m.cls := hc ▸ findClass_of_methodNamed B.named
  have hlocks := B.notSynchronized
  subst hsz
  have hD := hD0.self (sz := s.heap.size)
  have hA : ∀ q : Nat, s.heap.size ≤ q → va_A (wz G sh ad h) s.heap.size q := fun q h => Or.inr h
  rw [lg_entry_eq]
  refine body (p, l0, e, rm, s, m, av.toArray, below, meth, c, va_A (wz G sh ad h) s.heap.size, _) ⟨hx, hb, hml, hown, hts, hK, hA, hN, rfl, rfl, hlocks, hO⟩ (fun lv pc hd h00 hf H locs ls hP1 hD1 hS1 hl1 => ?_) (fun lv pc ik is ic k n text st hz d0 d3 d4 d6 d9 hfr hlo hck hsl h00 hf H locs ls hP1 hD1 hS1 hl1 => ?_) s.heap [] _ hP hD va_S.rf (by rw [hml]; exact hlv ▸ lv_entry av hlen)
  · refine vx_ret ?_
    exact W.iret hx hb (hr.trans hret) (fun t ht hW => ⟨⟨iI z1, (), rfl, ⟨h00, rfl, hf⟩, by show va_P G.1 vwCl (wz G sh ad1 h1) t.heap; rw [ht]; exact hP1⟩, hS1.F ht⟩) hS1.2.2 hd
  · obtain ⟨z1, z2, z3, z4, z5, z6⟩ := hz
    obtain ⟨sa, hsa⟩ := hN.2.2.2.2.2.2.2.2.2.1 _ z5
    have hca : va_Nw (.castable (zExc t0) (zExc t0)) s := by
      have hc := hN.2.2.2.2.2.2.2.2.2.2
      rcases z3.2.2 with e | e | e <;> rw [e]
      · exact hc.1
      · exact hc.2.1
      · exact hc.2.2.1
    refine vx_throwS (A := va_A (wz G sh ad h) s.heap.size) (names := zNms) (cls := zExc t0) (text := text) (sa := sa) hx hb hst hown z6 zNms_ok (hts _ z1) (hts _ z2) hsa (vx_hat (fun w hw => hts w (z3.1 w hw)) z3.2.1 (vx_c (va_Nw.use rfl hca) (vx_c (va_Nw.use rfl hN.2.2.2.2.2.2.2.2.2.2.2.2.2.2.2.2.1) (vx_c (va_Nw.use rfl hN.2.2.2.2.2.2.2.2.2.2.2.2.2.2.2.2.2.1) (vx_c (va_Nw.use rfl hN.2.2.2.2.2.2.2.2.2.2.2.2.2.2.2.2.2.2) vx_n))))) z4 hO.2.2.2.2.1 hO.2.2.2.2.2.1 hS1 hl1.1 d0 d3 d4 d6 d9 (fun x hx => (hnoex x hx).elim) hfr hlo hck hsl hlocks (fun t hvm hsz2 hkept => ?_) hS1.2.2 hck hsl
    refine ⟨(), ⟨h00, hf⟩, ⟨rfl, ?_⟩, Nat.le_trans hS1.1 hsz2, fun q q1 q2 => ?_⟩
    · exact hP1.kept (fun j q hq => hkept q.1 (hP1 j q hq).lt)
    · rw [hkept q (Nat.lt_of_lt_of_le q1 hS1.1)]
      exact hS1.2.1 q q1 q2
end ZTHROW
