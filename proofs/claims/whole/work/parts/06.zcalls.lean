section ZCALLS
variable {G : ZG} {l0 : Launch} {cc : ByteArray} {Ts : List Cond} {own : String} {nL : Nat} {R0 : Room} {X : ZX} {sh : ZS} {ad : Nat → Nat} {h : HS} {k n : Nat} {lv : List (Nat × Value)} {pc : Nat} {st : List Value}
def ZMi (G : ZG) (l : Launch) (y : MethodName) (ws : List Cond) (rm : Room) (av : List Value) (sh : ZS) (ad : Nat → Nat) (h : HS) (Wr : List Nat) (z1 : Int) (h1 : HS) : Prop := ∀ sz : Nat, Met l y ws rm (va_Pc av (zP G sh ad h sz)) (va_Qi (fun (r : Int32) (_ : Unit) => r = iI z1 ∧ zfr Wr h h1) (fun _ t => zB G sh ad h1 t) (va_A (wz G sh ad h) sz)) rm.cells rm.slots (va_A (wz G sh ad h) sz)
def ZMl (G : ZG) (l : Launch) (y : MethodName) (ws : List Cond) (rm : Room) (av : List Value) (sh : ZS) (ad : Nat → Nat) (h : HS) (Wr : List Nat) (z1 : Int64) (h1 : HS) : Prop := ∀ sz : Nat, Met l y ws rm (va_Pc av (zP G sh ad h sz)) (va_Ql (fun (r : Int64) (_ : Unit) => r = z1 ∧ zfr Wr h h1) (fun _ t => zB G sh ad h1 t) (va_A (wz G sh ad h) sz)) rm.cells rm.slots (va_A (wz G sh ad h) sz)
def ZMv (G : ZG) (l : Launch) (y : MethodName) (ws : List Cond) (rm : Room) (av : List Value) (sh : ZS) (ad : Nat → Nat) (h : HS) (Wr : List Nat) (h1 : HS) : Prop := ∀ sz : Nat, Met l y ws rm (va_Pc av (zP G sh ad h sz)) (va_Qv (fun (_ : Unit) => zfr Wr h h1) (fun _ t => zB G sh ad h1 t) (va_A (wz G sh ad h) sz)) rm.cells rm.slots (va_A (wz G sh ad h) sz)
theorem ZMi.of {y : MethodName} {ws ws1 : List Cond} {rm : Room} {av : List Value} {Wr : List Nat} {z1 : Int} {h1 : HS} {maxL : Nat} {ret : Option FieldType} {lv0 : List (Nat × Value)} (hy : plainName y.cls = true) (hw : ws = Cond.code y cc maxL ret :: ws1) (hret : ret = some .int) (hc : y.cls = own) (hlen : (lg_sl av).length ≤ maxL) (hlv : lv_args 0 av = lv0)
    (body : ∀ X : ZX, ZC G l0 cc ws own maxL rm X → (∀ (lv : List (Nat × Value)) (pc : Nat), decode cc pc = .ok (.ireturn, 1) → zfr Wr h h1 → ZW G X sh ad h1 rm.cells rm.slots lv pc [.int (iI z1)]) → ZW G X sh ad h 0 0 lv0 0 []) : ZMi G l0 y ws rm av sh ad h Wr z1 h1 := by
  intro sz
  refine Met.ofW (cc := cc) (maxL := maxL) (ret := ret) hy hw ?_
  intro p e s m args below meth c s₁ B hml hv
  obtain ⟨rfl, hsz, hP, hK, hD0, hN, hO⟩ := hv
  have hx := B.exec
  have hb := B.bytes
  have hr := B.returns
  have hts := atoms_spec (ws := ws) B.pre
  have hown : s.vm.findClass own = some m.cls := hc ▸ findClass_of_methodNamed B.named
  have hlocks := B.notSynchronized
  subst hsz
  have hD := hD0.self (sz := s.heap.size)
  have hA : ∀ q : Nat, s.heap.size ≤ q → va_A (wz G sh ad h) s.heap.size q := fun q h => Or.inr h
  rw [lg_entry_eq]
  refine body (p, l0, e, rm, s, m, av.toArray, below, meth, c, va_A (wz G sh ad h) s.heap.size, _) ⟨hx, hb, hml, hown, hts, hK, hA, hN, rfl, rfl, hlocks, hO⟩ (fun lv pc hd hf H locs ls hP1 hD1 hS1 hl1 => ?_) s.heap [] _ hP hD va_S.rf (by rw [hml]; exact hlv ▸ lv_entry av hlen)
  exact W.iret hx hb (hr.trans hret) (fun t ht hW => ⟨⟨iI z1, (), rfl, ⟨rfl, hf⟩, by show va_P G.1 vwCl (wz G sh ad h1) t.heap; rw [ht]; exact hP1⟩, hS1.F ht⟩) hS1.2.2 hd
theorem ZMi.ofZ {y : MethodName} {ws ws1 : List Cond} {rm : Room} {av : List Value} {Wr : List Nat} {z1 : Int} {h1 : HS} {maxL : Nat} {ret : Option FieldType} {lv0 : List (Nat × Value)} (hy : plainName y.cls = true) (hw : ws = Cond.code y cc maxL ret :: ws1) (hret : ret = some .boolean) (hc : y.cls = own) (hlen : (lg_sl av).length ≤ maxL) (hlv : lv_args 0 av = lv0)
    (body : ∀ X : ZX, ZC G l0 cc ws own maxL rm X → (∀ (lv : List (Nat × Value)) (pc : Nat), decode cc pc = .ok (.ireturn, 1) → zfr Wr h h1 → (z1 = 0 ∨ z1 = 1) → ZW G X sh ad h1 rm.cells rm.slots lv pc [.int (iI z1)]) → ZW G X sh ad h 0 0 lv0 0 []) : ZMi G l0 y ws rm av sh ad h Wr z1 h1 := by
  intro sz
  refine Met.ofW (cc := cc) (maxL := maxL) (ret := ret) hy hw ?_
  intro p e s m args below meth c s₁ B hml hv
  obtain ⟨rfl, hsz, hP, hK, hD0, hN, hO⟩ := hv
  have hx := B.exec
  have hb := B.bytes
  have hr := B.returns
  have hts := atoms_spec (ws := ws) B.pre
  have hown : s.vm.findClass own = some m.cls := hc ▸ findClass_of_methodNamed B.named
  have hlocks := B.notSynchronized
  subst hsz
  have hD := hD0.self (sz := s.heap.size)
  have hA : ∀ q : Nat, s.heap.size ≤ q → va_A (wz G sh ad h) s.heap.size q := fun q h => Or.inr h
  rw [lg_entry_eq]
  refine body (p, l0, e, rm, s, m, av.toArray, below, meth, c, va_A (wz G sh ad h) s.heap.size, _) ⟨hx, hb, hml, hown, hts, hK, hA, hN, rfl, rfl, hlocks, hO⟩ (fun lv pc hd hf hz H locs ls hP1 hD1 hS1 hl1 => ?_) s.heap [] _ hP hD va_S.rf (by rw [hml]; exact hlv ▸ lv_entry av hlen)
  exact W.zret hx hb (hr.trans hret) (by rcases hz with e | e <;> rw [e] <;> rfl) (fun t ht hW => ⟨⟨iI z1, (), rfl, ⟨rfl, hf⟩, by show va_P G.1 vwCl (wz G sh ad h1) t.heap; rw [ht]; exact hP1⟩, hS1.F ht⟩) hS1.2.2 hd
theorem ZMi.ofN {y : MethodName} {ty : FieldType} {ws ws1 : List Cond} {rm : Room} {av : List Value} {Wr : List Nat} {z1 : Int} {h1 : HS} {maxL : Nat} {ret : Option FieldType} {lv0 : List (Nat × Value)} (hy : plainName y.cls = true) (hw : ws = Cond.code y cc maxL ret :: ws1) (hret : ret = some ty) (hc : y.cls = own) (hlen : (lg_sl av).length ≤ maxL) (hlv : lv_args 0 av = lv0)
    (body : ∀ X : ZX, ZC G l0 cc ws own maxL rm X → (∀ (lv : List (Nat × Value)) (pc : Nat), decode cc pc = .ok (.ireturn, 1) → zfr Wr h h1 → (narrow ty (.int (iI z1)) = .int (iI z1)) → ZW G X sh ad h1 rm.cells rm.slots lv pc [.int (iI z1)]) → ZW G X sh ad h 0 0 lv0 0 []) : ZMi G l0 y ws rm av sh ad h Wr z1 h1 := by
  intro sz
  refine Met.ofW (cc := cc) (maxL := maxL) (ret := ret) hy hw ?_
  intro p e s m args below meth c s₁ B hml hv
  obtain ⟨rfl, hsz, hP, hK, hD0, hN, hO⟩ := hv
  have hx := B.exec
  have hb := B.bytes
  have hr := B.returns
  have hts := atoms_spec (ws := ws) B.pre
  have hown : s.vm.findClass own = some m.cls := hc ▸ findClass_of_methodNamed B.named
  have hlocks := B.notSynchronized
  subst hsz
  have hD := hD0.self (sz := s.heap.size)
  have hA : ∀ q : Nat, s.heap.size ≤ q → va_A (wz G sh ad h) s.heap.size q := fun q h => Or.inr h
  rw [lg_entry_eq]
  refine body (p, l0, e, rm, s, m, av.toArray, below, meth, c, va_A (wz G sh ad h) s.heap.size, _) ⟨hx, hb, hml, hown, hts, hK, hA, hN, rfl, rfl, hlocks, hO⟩ (fun lv pc hd hf hz H locs ls hP1 hD1 hS1 hl1 => ?_) s.heap [] _ hP hD va_S.rf (by rw [hml]; exact hlv ▸ lv_entry av hlen)
  exact W.zret hx hb (hr.trans hret) hz (fun t ht hW => ⟨⟨iI z1, (), rfl, ⟨rfl, hf⟩, by show va_P G.1 vwCl (wz G sh ad h1) t.heap; rw [ht]; exact hP1⟩, hS1.F ht⟩) hS1.2.2 hd
theorem ZMl.of {y : MethodName} {ws ws1 : List Cond} {rm : Room} {av : List Value} {Wr : List Nat} {z1 : Int64} {h1 : HS} {maxL : Nat} {ret : Option FieldType} {lv0 : List (Nat × Value)} (hy : plainName y.cls = true) (hw : ws = Cond.code y cc maxL ret :: ws1) (hret : ret = some .long) (hc : y.cls = own) (hlen : (lg_sl av).length ≤ maxL) (hlv : lv_args 0 av = lv0)
    (body : ∀ X : ZX, ZC G l0 cc ws own maxL rm X → (∀ (lv : List (Nat × Value)) (pc : Nat), decode cc pc = .ok (.lreturn, 1) → zfr Wr h h1 → ZW G X sh ad h1 rm.cells rm.slots lv pc [.long z1]) → ZW G X sh ad h 0 0 lv0 0 []) : ZMl G l0 y ws rm av sh ad h Wr z1 h1 := by
  intro sz
  refine Met.ofW (cc := cc) (maxL := maxL) (ret := ret) hy hw ?_
  intro p e s m args below meth c s₁ B hml hv
  obtain ⟨rfl, hsz, hP, hK, hD0, hN, hO⟩ := hv
  have hx := B.exec
  have hb := B.bytes
  have hr := B.returns
  have hts := atoms_spec (ws := ws) B.pre
  have hown : s.vm.findClass own = some m.cls := hc ▸ findClass_of_methodNamed B.named
  have hlocks := B.notSynchronized
  subst hsz
  have hD := hD0.self (sz := s.heap.size)
  have hA : ∀ q : Nat, s.heap.size ≤ q → va_A (wz G sh ad h) s.heap.size q := fun q h => Or.inr h
  rw [lg_entry_eq]
  refine body (p, l0, e, rm, s, m, av.toArray, below, meth, c, va_A (wz G sh ad h) s.heap.size, _) ⟨hx, hb, hml, hown, hts, hK, hA, hN, rfl, rfl, hlocks, hO⟩ (fun lv pc hd hf H locs ls hP1 hD1 hS1 hl1 => ?_) s.heap [] _ hP hD va_S.rf (by rw [hml]; exact hlv ▸ lv_entry av hlen)
  exact W.lret hx hb (hr.trans hret) (fun t ht hW => ⟨⟨z1, (), rfl, ⟨rfl, hf⟩, by show va_P G.1 vwCl (wz G sh ad h1) t.heap; rw [ht]; exact hP1⟩, hS1.F ht⟩) hS1.2.2 hd
theorem ZMv.of {y : MethodName} {ws ws1 : List Cond} {rm : Room} {av : List Value} {Wr : List Nat} {h1 : HS} {maxL : Nat} {ret : Option FieldType} {lv0 : List (Nat × Value)} (hy : plainName y.cls = true) (hw : ws = Cond.code y cc maxL ret :: ws1) (hret : ret = none) (hc : y.cls = own) (hlen : (lg_sl av).length ≤ maxL) (hlv : lv_args 0 av = lv0)
    (body : ∀ X : ZX, ZC G l0 cc ws own maxL rm X → (∀ (lv : List (Nat × Value)) (pc : Nat), decode cc pc = .ok (.return_, 1) → zfr Wr h h1 → ZW G X sh ad h1 rm.cells rm.slots lv pc []) → ZW G X sh ad h 0 0 lv0 0 []) : ZMv G l0 y ws rm av sh ad h Wr h1 := by
  intro sz
  refine Met.ofW (cc := cc) (maxL := maxL) (ret := ret) hy hw ?_
  intro p e s m args below meth c s₁ B hml hv
  obtain ⟨rfl, hsz, hP, hK, hD0, hN, hO⟩ := hv
  have hx := B.exec
  have hb := B.bytes
  have hr := B.returns
  have hts := atoms_spec (ws := ws) B.pre
  have hown : s.vm.findClass own = some m.cls := hc ▸ findClass_of_methodNamed B.named
  have hlocks := B.notSynchronized
  subst hsz
  have hD := hD0.self (sz := s.heap.size)
  have hA : ∀ q : Nat, s.heap.size ≤ q → va_A (wz G sh ad h) s.heap.size q := fun q h => Or.inr h
  rw [lg_entry_eq]
  refine body (p, l0, e, rm, s, m, av.toArray, below, meth, c, va_A (wz G sh ad h) s.heap.size, _) ⟨hx, hb, hml, hown, hts, hK, hA, hN, rfl, rfl, hlocks, hO⟩ (fun lv pc hd hf H locs ls hP1 hD1 hS1 hl1 => ?_) s.heap [] _ hP hD va_S.rf (by rw [hml]; exact hlv ▸ lv_entry av hlen)
  exact W.vret hx hb (hr.trans hret) (fun t ht hW => ⟨⟨(), rfl, hf, by show va_P G.1 vwCl (wz G sh ad h1) t.heap; rw [ht]; exact hP1⟩, hS1.F ht⟩) hS1.2.2 hd
theorem z_callV_i {y : MethodName} {ws ws1 : List Cond} {rm : Room} {shc : ZS} {Wr : List Nat} {z1 : Int} {h1 : HS} {index maxL nA k1 n1 : Nat} {bytes : ByteArray} {ret : Option FieldType} {stk : List Value} {As : List Value} {b ci N : Nat} {C : String} {T : u_T} {fs : List Nat} (hX : ZC G l0 cc Ts own nL R0 X) (hM : ZMi G l0 y ws rm (.ref (ad b) :: As) shc ad h Wr z1 h1) (hd : decode cc pc = .ok (.invokevirtual index, 3)) (hg : GoodIn Ts (wsV own index C y ws)) (hw : ws = Cond.code y bytes maxL ret :: ws1) (hy : y.cls = C ∧ y.cls ≠ "java/lang/invoke/MethodHandle" ∧ y.cls ≠ "java/lang/invoke/VarHandle" ∧ (parseMethodDescriptor y.desc).map (fun d => d.parameters.length) = some nA) (hroom : rm.frames + 1 ≤ R0.frames ∧ 8 + (maxL + 11) + rm.locals ≤ R0.locals) (hcs : k + rm.cells ≤ R0.cells ∧ n + rm.slots ≤ R0.slots) (q : Nat) (hq : sh[q]? = some (b, .inr (.inr (ci, fs)))) (hcl : vwCl[ci]? = some (C, T, N)) (hn : As.length = nA) (hs : stk = As.reverse ++ .ref (ad b) :: st) (hcat : (st.map fun v => v.category).sum ≤ 8) (hsub0 : zsubB sh shc Wr = true) (hk1 : k + rm.cells = k1) (hn1 : n + rm.slots = n1) (kk : zfr Wr h h1 → ZW G X sh ad h1 k1 n1 lv (pc + 3) (.int (iI z1) :: st)) : ZW G X sh ad h k n lv pc stk := by
  obtain ⟨p, l, e, R, s, m, args, below, meth, c, A, Q⟩ := X
  obtain ⟨hx, hb, hml, hown, hts, hK, hA, hN, hl0, hR0, hlk, hO⟩ := hX
  subst hl0
  subst hR0
  subst hs
  have hsub := zsub_of hsub0
  subst hk1
  subst hn1
  refine fun H locs ls hP hD hS hl => ?_
  have hF := z_free hsub hD hS hA
  refine va_calli (va_runV (As := As) (rest := st) ⟨hx, hb, hml, hown, hts⟩ (hM H.size) (cwV nA hts hg hw rfl rfl hy hroom) ⟨zP_blind, va_recv hK hP hcl (wz_at hq), fun U hU hW => ⟨rfl, by rw [hU], by rw [hU]; exact z_sub hsub.1 hP, va_K.moved hW.alike hK, z_subD hsub.1 hsub.2.2 (fun _ _ => trivial) hD, hN.warm hW, by rw [hU]; exact ((hO.kept hS.2.1).narrow hF).moved hW.alike⟩⟩ rfl hn (hl.1.trans hml) rfl (lv_room hcat) hd hcs) hS (fun q _ h => hF q h) hF (fun r u t H1 locs1 ht hvm hp hB hz1 hk1 hS1 => ?_)
  obtain ⟨rfl, hf⟩ := hp
  have hB2 : va_P G.1 vwCl (wz G shc ad h1) H1 := by rw [← ht]; exact hB
  exact kk hf H1 locs1 ls (z_join hP hD hsub hf hk1 hB2) (wzD hD) hS1 hl
theorem z_callS_i {y : MethodName} {ws ws1 : List Cond} {rm : Room} {shc : ZS} {Wr : List Nat} {z1 : Int} {h1 : HS} {index maxL nA k1 n1 : Nat} {bytes : ByteArray} {ret : Option FieldType} {stk : List Value} {As : List Value} (hX : ZC G l0 cc Ts own nL R0 X) (hM : ZMi G l0 y ws rm As shc ad h Wr z1 h1) (hd : decode cc pc = .ok (.invokestatic index, 3)) (hg : GoodIn Ts (va_wsS own index y ws)) (hw : ws = Cond.code y bytes maxL ret :: ws1) (hy : y.cls ≠ "java/lang/invoke/MethodHandle" ∧ y.cls ≠ "java/lang/invoke/VarHandle" ∧ (parseMethodDescriptor y.desc).map (fun d => d.parameters.length) = some nA) (hroom : rm.frames + 1 ≤ R0.frames ∧ 8 + (maxL + 11) + rm.locals ≤ R0.locals) (hcs : k + rm.cells ≤ R0.cells ∧ n + rm.slots ≤ R0.slots)  (hn : As.length = nA) (hs : stk = As.reverse ++ st) (hcat : (st.map fun v => v.category).sum ≤ 8) (hsub0 : zsubB sh shc Wr = true) (hk1 : k + rm.cells = k1) (hn1 : n + rm.slots = n1) (kk : zfr Wr h h1 → ZW G X sh ad h1 k1 n1 lv (pc + 3) (.int (iI z1) :: st)) : ZW G X sh ad h k n lv pc stk := by
  obtain ⟨p, l, e, R, s, m, args, below, meth, c, A, Q⟩ := X
  obtain ⟨hx, hb, hml, hown, hts, hK, hA, hN, hl0, hR0, hlk, hO⟩ := hX
  subst hl0
  subst hR0
  subst hs
  have hsub := zsub_of hsub0
  subst hk1
  subst hn1
  refine fun H locs ls hP hD hS hl => ?_
  have hF := z_free hsub hD hS hA
  refine va_calli (va_runS (As := As) (rest := st) ⟨hx, hb, hml, hown, hts⟩ (hM H.size) (va_cwS nA hts hg hw rfl rfl hy hroom) ⟨zP_blind, fun U hU hW => ⟨rfl, by rw [hU], by rw [hU]; exact z_sub hsub.1 hP, va_K.moved hW.alike hK, z_subD hsub.1 hsub.2.2 (fun _ _ => trivial) hD, hN.warm hW, by rw [hU]; exact ((hO.kept hS.2.1).narrow hF).moved hW.alike⟩⟩ rfl hn (hl.1.trans hml) rfl (lv_room hcat) hd hcs) hS (fun q _ h => hF q h) hF (fun r u t H1 locs1 ht hvm hp hB hz1 hk1 hS1 => ?_)
  obtain ⟨rfl, hf⟩ := hp
  have hB2 : va_P G.1 vwCl (wz G shc ad h1) H1 := by rw [← ht]; exact hB
  exact kk hf H1 locs1 ls (z_join hP hD hsub hf hk1 hB2) (wzD hD) hS1 hl
theorem z_callSN_i {y : MethodName} {ws ws1 : List Cond} {rm : Room} {shc : ZS} {Wr : List Nat} {z1 : Int} {h1 : HS} {index maxL nA k1 n1 : Nat} {bytes : ByteArray} {ret : Option FieldType} {stk : List Value} {As : List Value} {host : String} (hX : ZC G l0 cc Ts own nL R0 X) (hM : ZMi G l0 y ws rm As shc ad h Wr z1 h1) (hd : decode cc pc = .ok (.invokestatic index, 3)) (hg : GoodIn Ts ws) (hnl : ∀ U, zN U → va_Nw (.methodLinkNest own index y host) U) (hi : (Cond.initialized y.cls) ∈ Ts) (hst : (Cond.static y) ∈ Ts) (hw : ws = Cond.code y bytes maxL ret :: ws1) (hy : y.cls ≠ "java/lang/invoke/MethodHandle" ∧ y.cls ≠ "java/lang/invoke/VarHandle" ∧ (parseMethodDescriptor y.desc).map (fun d => d.parameters.length) = some nA) (hroom : rm.frames + 1 ≤ R0.frames ∧ 8 + (maxL + 11) + rm.locals ≤ R0.locals) (hcs : k + rm.cells ≤ R0.cells ∧ n + rm.slots ≤ R0.slots)  (hn : As.length = nA) (hs : stk = As.reverse ++ st) (hcat : (st.map fun v => v.category).sum ≤ 8) (hsub0 : zsubB sh shc Wr = true) (hk1 : k + rm.cells = k1) (hn1 : n + rm.slots = n1) (kk : zfr Wr h h1 → ZW G X sh ad h1 k1 n1 lv (pc + 3) (.int (iI z1) :: st)) : ZW G X sh ad h k n lv pc stk := by
  obtain ⟨p, l, e, R, s, m, args, below, meth, c, A, Q⟩ := X
  obtain ⟨hx, hb, hml, hown, hts, hK, hA, hN, hl0, hR0, hlk, hO⟩ := hX
  subst hl0
  subst hR0
  subst hs
  have hsub := zsub_of hsub0
  subst hk1
  subst hn1
  refine fun H locs ls hP hD hS hl => ?_
  have hF := z_free hsub hD hS hA
  refine va_calli (va_runSN (As := As) (rest := st) ⟨hx, hb, hml, hown, hts⟩ (hM H.size) ⟨va_cnB nA hts hg hw rfl rfl (hnl _ hN) (hts _ hi) hy hroom, hts _ hst, trivial⟩ ⟨zP_blind, fun U hU hW => ⟨rfl, by rw [hU], by rw [hU]; exact z_sub hsub.1 hP, va_K.moved hW.alike hK, z_subD hsub.1 hsub.2.2 (fun _ _ => trivial) hD, hN.warm hW, by rw [hU]; exact ((hO.kept hS.2.1).narrow hF).moved hW.alike⟩⟩ rfl hn (hl.1.trans hml) rfl (lv_room hcat) hd hcs) hS (fun q _ h => hF q h) hF (fun r u t H1 locs1 ht hvm hp hB hz1 hk1 hS1 => ?_)
  obtain ⟨rfl, hf⟩ := hp
  have hB2 : va_P G.1 vwCl (wz G shc ad h1) H1 := by rw [← ht]; exact hB
  exact kk hf H1 locs1 ls (z_join hP hD hsub hf hk1 hB2) (wzD hD) hS1 hl
theorem z_callV_l {y : MethodName} {ws ws1 : List Cond} {rm : Room} {shc : ZS} {Wr : List Nat} {z1 : Int64} {h1 : HS} {index maxL nA k1 n1 : Nat} {bytes : ByteArray} {ret : Option FieldType} {stk : List Value} {As : List Value} {b ci N : Nat} {C : String} {T : u_T} {fs : List Nat} (hX : ZC G l0 cc Ts own nL R0 X) (hM : ZMl G l0 y ws rm (.ref (ad b) :: As) shc ad h Wr z1 h1) (hd : decode cc pc = .ok (.invokevirtual index, 3)) (hg : GoodIn Ts (wsV own index C y ws)) (hw : ws = Cond.code y bytes maxL ret :: ws1) (hy : y.cls = C ∧ y.cls ≠ "java/lang/invoke/MethodHandle" ∧ y.cls ≠ "java/lang/invoke/VarHandle" ∧ (parseMethodDescriptor y.desc).map (fun d => d.parameters.length) = some nA) (hroom : rm.frames + 1 ≤ R0.frames ∧ 8 + (maxL + 11) + rm.locals ≤ R0.locals) (hcs : k + rm.cells ≤ R0.cells ∧ n + rm.slots ≤ R0.slots) (q : Nat) (hq : sh[q]? = some (b, .inr (.inr (ci, fs)))) (hcl : vwCl[ci]? = some (C, T, N)) (hn : As.length = nA) (hs : stk = As.reverse ++ .ref (ad b) :: st) (hcat : (st.map fun v => v.category).sum ≤ 8) (hsub0 : zsubB sh shc Wr = true) (hk1 : k + rm.cells = k1) (hn1 : n + rm.slots = n1) (kk : zfr Wr h h1 → ZW G X sh ad h1 k1 n1 lv (pc + 3) (.long z1 :: st)) : ZW G X sh ad h k n lv pc stk := by
  obtain ⟨p, l, e, R, s, m, args, below, meth, c, A, Q⟩ := X
  obtain ⟨hx, hb, hml, hown, hts, hK, hA, hN, hl0, hR0, hlk, hO⟩ := hX
  subst hl0
  subst hR0
  subst hs
  have hsub := zsub_of hsub0
  subst hk1
  subst hn1
  refine fun H locs ls hP hD hS hl => ?_
  have hF := z_free hsub hD hS hA
  refine va_calll (va_runV (As := As) (rest := st) ⟨hx, hb, hml, hown, hts⟩ (hM H.size) (cwV nA hts hg hw rfl rfl hy hroom) ⟨zP_blind, va_recv hK hP hcl (wz_at hq), fun U hU hW => ⟨rfl, by rw [hU], by rw [hU]; exact z_sub hsub.1 hP, va_K.moved hW.alike hK, z_subD hsub.1 hsub.2.2 (fun _ _ => trivial) hD, hN.warm hW, by rw [hU]; exact ((hO.kept hS.2.1).narrow hF).moved hW.alike⟩⟩ rfl hn (hl.1.trans hml) rfl (lv_room hcat) hd hcs) hS (fun q _ h => hF q h) hF (fun r u t H1 locs1 ht hvm hp hB hz1 hk1 hS1 => ?_)
  obtain ⟨rfl, hf⟩ := hp
  have hB2 : va_P G.1 vwCl (wz G shc ad h1) H1 := by rw [← ht]; exact hB
  exact kk hf H1 locs1 ls (z_join hP hD hsub hf hk1 hB2) (wzD hD) hS1 hl
theorem z_callS_l {y : MethodName} {ws ws1 : List Cond} {rm : Room} {shc : ZS} {Wr : List Nat} {z1 : Int64} {h1 : HS} {index maxL nA k1 n1 : Nat} {bytes : ByteArray} {ret : Option FieldType} {stk : List Value} {As : List Value} (hX : ZC G l0 cc Ts own nL R0 X) (hM : ZMl G l0 y ws rm As shc ad h Wr z1 h1) (hd : decode cc pc = .ok (.invokestatic index, 3)) (hg : GoodIn Ts (va_wsS own index y ws)) (hw : ws = Cond.code y bytes maxL ret :: ws1) (hy : y.cls ≠ "java/lang/invoke/MethodHandle" ∧ y.cls ≠ "java/lang/invoke/VarHandle" ∧ (parseMethodDescriptor y.desc).map (fun d => d.parameters.length) = some nA) (hroom : rm.frames + 1 ≤ R0.frames ∧ 8 + (maxL + 11) + rm.locals ≤ R0.locals) (hcs : k + rm.cells ≤ R0.cells ∧ n + rm.slots ≤ R0.slots)  (hn : As.length = nA) (hs : stk = As.reverse ++ st) (hcat : (st.map fun v => v.category).sum ≤ 8) (hsub0 : zsubB sh shc Wr = true) (hk1 : k + rm.cells = k1) (hn1 : n + rm.slots = n1) (kk : zfr Wr h h1 → ZW G X sh ad h1 k1 n1 lv (pc + 3) (.long z1 :: st)) : ZW G X sh ad h k n lv pc stk := by
  obtain ⟨p, l, e, R, s, m, args, below, meth, c, A, Q⟩ := X
  obtain ⟨hx, hb, hml, hown, hts, hK, hA, hN, hl0, hR0, hlk, hO⟩ := hX
  subst hl0
  subst hR0
  subst hs
  have hsub := zsub_of hsub0
  subst hk1
  subst hn1
  refine fun H locs ls hP hD hS hl => ?_
  have hF := z_free hsub hD hS hA
  refine va_calll (va_runS (As := As) (rest := st) ⟨hx, hb, hml, hown, hts⟩ (hM H.size) (va_cwS nA hts hg hw rfl rfl hy hroom) ⟨zP_blind, fun U hU hW => ⟨rfl, by rw [hU], by rw [hU]; exact z_sub hsub.1 hP, va_K.moved hW.alike hK, z_subD hsub.1 hsub.2.2 (fun _ _ => trivial) hD, hN.warm hW, by rw [hU]; exact ((hO.kept hS.2.1).narrow hF).moved hW.alike⟩⟩ rfl hn (hl.1.trans hml) rfl (lv_room hcat) hd hcs) hS (fun q _ h => hF q h) hF (fun r u t H1 locs1 ht hvm hp hB hz1 hk1 hS1 => ?_)
  obtain ⟨rfl, hf⟩ := hp
  have hB2 : va_P G.1 vwCl (wz G shc ad h1) H1 := by rw [← ht]; exact hB
  exact kk hf H1 locs1 ls (z_join hP hD hsub hf hk1 hB2) (wzD hD) hS1 hl
theorem z_callSN_l {y : MethodName} {ws ws1 : List Cond} {rm : Room} {shc : ZS} {Wr : List Nat} {z1 : Int64} {h1 : HS} {index maxL nA k1 n1 : Nat} {bytes : ByteArray} {ret : Option FieldType} {stk : List Value} {As : List Value} {host : String} (hX : ZC G l0 cc Ts own nL R0 X) (hM : ZMl G l0 y ws rm As shc ad h Wr z1 h1) (hd : decode cc pc = .ok (.invokestatic index, 3)) (hg : GoodIn Ts ws) (hnl : ∀ U, zN U → va_Nw (.methodLinkNest own index y host) U) (hi : (Cond.initialized y.cls) ∈ Ts) (hst : (Cond.static y) ∈ Ts) (hw : ws = Cond.code y bytes maxL ret :: ws1) (hy : y.cls ≠ "java/lang/invoke/MethodHandle" ∧ y.cls ≠ "java/lang/invoke/VarHandle" ∧ (parseMethodDescriptor y.desc).map (fun d => d.parameters.length) = some nA) (hroom : rm.frames + 1 ≤ R0.frames ∧ 8 + (maxL + 11) + rm.locals ≤ R0.locals) (hcs : k + rm.cells ≤ R0.cells ∧ n + rm.slots ≤ R0.slots)  (hn : As.length = nA) (hs : stk = As.reverse ++ st) (hcat : (st.map fun v => v.category).sum ≤ 8) (hsub0 : zsubB sh shc Wr = true) (hk1 : k + rm.cells = k1) (hn1 : n + rm.slots = n1) (kk : zfr Wr h h1 → ZW G X sh ad h1 k1 n1 lv (pc + 3) (.long z1 :: st)) : ZW G X sh ad h k n lv pc stk := by
  obtain ⟨p, l, e, R, s, m, args, below, meth, c, A, Q⟩ := X
  obtain ⟨hx, hb, hml, hown, hts, hK, hA, hN, hl0, hR0, hlk, hO⟩ := hX
  subst hl0
  subst hR0
  subst hs
  have hsub := zsub_of hsub0
  subst hk1
  subst hn1
  refine fun H locs ls hP hD hS hl => ?_
  have hF := z_free hsub hD hS hA
  refine va_calll (va_runSN (As := As) (rest := st) ⟨hx, hb, hml, hown, hts⟩ (hM H.size) ⟨va_cnB nA hts hg hw rfl rfl (hnl _ hN) (hts _ hi) hy hroom, hts _ hst, trivial⟩ ⟨zP_blind, fun U hU hW => ⟨rfl, by rw [hU], by rw [hU]; exact z_sub hsub.1 hP, va_K.moved hW.alike hK, z_subD hsub.1 hsub.2.2 (fun _ _ => trivial) hD, hN.warm hW, by rw [hU]; exact ((hO.kept hS.2.1).narrow hF).moved hW.alike⟩⟩ rfl hn (hl.1.trans hml) rfl (lv_room hcat) hd hcs) hS (fun q _ h => hF q h) hF (fun r u t H1 locs1 ht hvm hp hB hz1 hk1 hS1 => ?_)
  obtain ⟨rfl, hf⟩ := hp
  have hB2 : va_P G.1 vwCl (wz G shc ad h1) H1 := by rw [← ht]; exact hB
  exact kk hf H1 locs1 ls (z_join hP hD hsub hf hk1 hB2) (wzD hD) hS1 hl
theorem z_callV_v {y : MethodName} {ws ws1 : List Cond} {rm : Room} {shc : ZS} {Wr : List Nat} {h1 : HS} {index maxL nA k1 n1 : Nat} {bytes : ByteArray} {ret : Option FieldType} {stk : List Value} {As : List Value} {b ci N : Nat} {C : String} {T : u_T} {fs : List Nat} (hX : ZC G l0 cc Ts own nL R0 X) (hM : ZMv G l0 y ws rm (.ref (ad b) :: As) shc ad h Wr h1) (hd : decode cc pc = .ok (.invokevirtual index, 3)) (hg : GoodIn Ts (wsV own index C y ws)) (hw : ws = Cond.code y bytes maxL ret :: ws1) (hy : y.cls = C ∧ y.cls ≠ "java/lang/invoke/MethodHandle" ∧ y.cls ≠ "java/lang/invoke/VarHandle" ∧ (parseMethodDescriptor y.desc).map (fun d => d.parameters.length) = some nA) (hroom : rm.frames + 1 ≤ R0.frames ∧ 8 + (maxL + 11) + rm.locals ≤ R0.locals) (hcs : k + rm.cells ≤ R0.cells ∧ n + rm.slots ≤ R0.slots) (q : Nat) (hq : sh[q]? = some (b, .inr (.inr (ci, fs)))) (hcl : vwCl[ci]? = some (C, T, N)) (hn : As.length = nA) (hs : stk = As.reverse ++ .ref (ad b) :: st) (hcat : (st.map fun v => v.category).sum ≤ 8) (hsub0 : zsubB sh shc Wr = true) (hk1 : k + rm.cells = k1) (hn1 : n + rm.slots = n1) (kk : zfr Wr h h1 → ZW G X sh ad h1 k1 n1 lv (pc + 3) (st)) : ZW G X sh ad h k n lv pc stk := by
  obtain ⟨p, l, e, R, s, m, args, below, meth, c, A, Q⟩ := X
  obtain ⟨hx, hb, hml, hown, hts, hK, hA, hN, hl0, hR0, hlk, hO⟩ := hX
  subst hl0
  subst hR0
  subst hs
  have hsub := zsub_of hsub0
  subst hk1
  subst hn1
  refine fun H locs ls hP hD hS hl => ?_
  have hF := z_free hsub hD hS hA
  refine va_callv (va_runV (As := As) (rest := st) ⟨hx, hb, hml, hown, hts⟩ (hM H.size) (cwV nA hts hg hw rfl rfl hy hroom) ⟨zP_blind, va_recv hK hP hcl (wz_at hq), fun U hU hW => ⟨rfl, by rw [hU], by rw [hU]; exact z_sub hsub.1 hP, va_K.moved hW.alike hK, z_subD hsub.1 hsub.2.2 (fun _ _ => trivial) hD, hN.warm hW, by rw [hU]; exact ((hO.kept hS.2.1).narrow hF).moved hW.alike⟩⟩ rfl hn (hl.1.trans hml) rfl (lv_room hcat) hd hcs) hS (fun q _ h => hF q h) hF (fun u t H1 locs1 ht hvm hp hB hz1 hk1 hS1 => ?_)
  have hf := hp
  have hB2 : va_P G.1 vwCl (wz G shc ad h1) H1 := by rw [← ht]; exact hB
  exact kk hf H1 locs1 ls (z_join hP hD hsub hf hk1 hB2) (wzD hD) hS1 hl
theorem z_callS_v {y : MethodName} {ws ws1 : List Cond} {rm : Room} {shc : ZS} {Wr : List Nat} {h1 : HS} {index maxL nA k1 n1 : Nat} {bytes : ByteArray} {ret : Option FieldType} {stk : List Value} {As : List Value} (hX : ZC G l0 cc Ts own nL R0 X) (hM : ZMv G l0 y ws rm As shc ad h Wr h1) (hd : decode cc pc = .ok (.invokestatic index, 3)) (hg : GoodIn Ts (va_wsS own index y ws)) (hw : ws = Cond.code y bytes maxL ret :: ws1) (hy : y.cls ≠ "java/lang/invoke/MethodHandle" ∧ y.cls ≠ "java/lang/invoke/VarHandle" ∧ (parseMethodDescriptor y.desc).map (fun d => d.parameters.length) = some nA) (hroom : rm.frames + 1 ≤ R0.frames ∧ 8 + (maxL + 11) + rm.locals ≤ R0.locals) (hcs : k + rm.cells ≤ R0.cells ∧ n + rm.slots ≤ R0.slots)  (hn : As.length = nA) (hs : stk = As.reverse ++ st) (hcat : (st.map fun v => v.category).sum ≤ 8) (hsub0 : zsubB sh shc Wr = true) (hk1 : k + rm.cells = k1) (hn1 : n + rm.slots = n1) (kk : zfr Wr h h1 → ZW G X sh ad h1 k1 n1 lv (pc + 3) (st)) : ZW G X sh ad h k n lv pc stk := by
  obtain ⟨p, l, e, R, s, m, args, below, meth, c, A, Q⟩ := X
  obtain ⟨hx, hb, hml, hown, hts, hK, hA, hN, hl0, hR0, hlk, hO⟩ := hX
  subst hl0
  subst hR0
  subst hs
  have hsub := zsub_of hsub0
  subst hk1
  subst hn1
  refine fun H locs ls hP hD hS hl => ?_
  have hF := z_free hsub hD hS hA
  refine va_callv (va_runS (As := As) (rest := st) ⟨hx, hb, hml, hown, hts⟩ (hM H.size) (va_cwS nA hts hg hw rfl rfl hy hroom) ⟨zP_blind, fun U hU hW => ⟨rfl, by rw [hU], by rw [hU]; exact z_sub hsub.1 hP, va_K.moved hW.alike hK, z_subD hsub.1 hsub.2.2 (fun _ _ => trivial) hD, hN.warm hW, by rw [hU]; exact ((hO.kept hS.2.1).narrow hF).moved hW.alike⟩⟩ rfl hn (hl.1.trans hml) rfl (lv_room hcat) hd hcs) hS (fun q _ h => hF q h) hF (fun u t H1 locs1 ht hvm hp hB hz1 hk1 hS1 => ?_)
  have hf := hp
  have hB2 : va_P G.1 vwCl (wz G shc ad h1) H1 := by rw [← ht]; exact hB
  exact kk hf H1 locs1 ls (z_join hP hD hsub hf hk1 hB2) (wzD hD) hS1 hl
theorem z_callSN_v {y : MethodName} {ws ws1 : List Cond} {rm : Room} {shc : ZS} {Wr : List Nat} {h1 : HS} {index maxL nA k1 n1 : Nat} {bytes : ByteArray} {ret : Option FieldType} {stk : List Value} {As : List Value} {host : String} (hX : ZC G l0 cc Ts own nL R0 X) (hM : ZMv G l0 y ws rm As shc ad h Wr h1) (hd : decode cc pc = .ok (.invokestatic index, 3)) (hg : GoodIn Ts ws) (hnl : ∀ U, zN U → va_Nw (.methodLinkNest own index y host) U) (hi : (Cond.initialized y.cls) ∈ Ts) (hst : (Cond.static y) ∈ Ts) (hw : ws = Cond.code y bytes maxL ret :: ws1) (hy : y.cls ≠ "java/lang/invoke/MethodHandle" ∧ y.cls ≠ "java/lang/invoke/VarHandle" ∧ (parseMethodDescriptor y.desc).map (fun d => d.parameters.length) = some nA) (hroom : rm.frames + 1 ≤ R0.frames ∧ 8 + (maxL + 11) + rm.locals ≤ R0.locals) (hcs : k + rm.cells ≤ R0.cells ∧ n + rm.slots ≤ R0.slots)  (hn : As.length = nA) (hs : stk = As.reverse ++ st) (hcat : (st.map fun v => v.category).sum ≤ 8) (hsub0 : zsubB sh shc Wr = true) (hk1 : k + rm.cells = k1) (hn1 : n + rm.slots = n1) (kk : zfr Wr h h1 → ZW G X sh ad h1 k1 n1 lv (pc + 3) (st)) : ZW G X sh ad h k n lv pc stk := by
  obtain ⟨p, l, e, R, s, m, args, below, meth, c, A, Q⟩ := X
  obtain ⟨hx, hb, hml, hown, hts, hK, hA, hN, hl0, hR0, hlk, hO⟩ := hX
  subst hl0
  subst hR0
  subst hs
  have hsub := zsub_of hsub0
  subst hk1
  subst hn1
  refine fun H locs ls hP hD hS hl => ?_
  have hF := z_free hsub hD hS hA
  refine va_callv (va_runSN (As := As) (rest := st) ⟨hx, hb, hml, hown, hts⟩ (hM H.size) ⟨va_cnB nA hts hg hw rfl rfl (hnl _ hN) (hts _ hi) hy hroom, hts _ hst, trivial⟩ ⟨zP_blind, fun U hU hW => ⟨rfl, by rw [hU], by rw [hU]; exact z_sub hsub.1 hP, va_K.moved hW.alike hK, z_subD hsub.1 hsub.2.2 (fun _ _ => trivial) hD, hN.warm hW, by rw [hU]; exact ((hO.kept hS.2.1).narrow hF).moved hW.alike⟩⟩ rfl hn (hl.1.trans hml) rfl (lv_room hcat) hd hcs) hS (fun q _ h => hF q h) hF (fun u t H1 locs1 ht hvm hp hB hz1 hk1 hS1 => ?_)
  have hf := hp
  have hB2 : va_P G.1 vwCl (wz G shc ad h1) H1 := by rw [← ht]; exact hB
  exact kk hf H1 locs1 ls (z_join hP hD hsub hf hk1 hB2) (wzD hD) hS1 hl
def zF : Nat := 5000
end ZCALLS
