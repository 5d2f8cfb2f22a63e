section ZLAWB
variable {G : ZG} {l0 : Launch} {cc : ByteArray} {Ts : List Cond} {own : String} {nL : Nat} {R0 : Room} {X : ZX} {sh : ZS} {ad : Nat → Nat} {h : HS} {k n : Nat} {lv : List (Nat × Value)} {pc : Nat} {st : List Value}
/-! the script: read, never written -/
def zSc (b L : Nat) (xs : Nat → Int32) : ZX → Prop
  | (_, _, _, _, s, _, _, _, _, _, A, _) => va_X b L xs s s.heap ∧ b < s.heap.size ∧ ¬ A b
def zxs (xs : Nat → Int32) (i : Int) : Int := (xs i.toNat).toInt
theorem z_sld {b L : Nat} {xs : Nat → Int32} {i : Int} (hX : ZC G l0 cc Ts own nL R0 X) (hc : zSc b L xs X) (hd : decode cc pc = .ok (.iaload, 1)) (hi : 0 ≤ i ∧ i < (L : Int)) (hL : L ≤ 2560) (kk : ZW G X sh ad h k n lv (pc + 1) (.int (iI (zxs xs i)) :: st)) : ZW G X sh ad h k n lv pc (.int (iI i) :: .ref b :: st) := by
  obtain ⟨p, l, e, R, s, m, args, below, meth, c, A, Q⟩ := X
  obtain ⟨hx, hb, hml, hown, hts, hK, hA, hN, hl0, hR0, hlk, hO⟩ := hX
  obtain ⟨h1, h2, h3⟩ := hc
  refine fun H locs ls hP hD hS hl => va_sld hx hb h1 h2 h3 hS (iI_in hi (by omega)) hd ?_
  have e : Value.int (xs (iI i).toNatClampNeg) = .int (iI (zxs xs i)) := by
    rw [iI_cl hi (by omega)]
    unfold zxs
    rw [iI_as]
  rw [e]
  exact kk H locs ls hP hD hS hl
theorem z_slen {b L : Nat} {xs : Nat → Int32} (hX : ZC G l0 cc Ts own nL R0 X) (hc : zSc b L xs X) (hd : decode cc pc = .ok (.arraylength, 1)) (kk : ZW G X sh ad h k n lv (pc + 1) (.int (iI (L : Int)) :: st)) : ZW G X sh ad h k n lv pc (.ref b :: st) := by
  obtain ⟨p, l, e, R, s, m, args, below, meth, c, A, Q⟩ := X
  obtain ⟨hx, hb, hml, hown, hts, hK, hA, hN, hl0, hR0, hlk, hO⟩ := hX
  obtain ⟨h1, h2, h3⟩ := hc
  exact fun H locs ls hP hD hS hl => va_slen hx hb h1 h2 h3 hS hd (kk H locs ls hP hD hS hl)
/-! the law calls a helper -/
theorem z_callH {y : MethodName} {ws ws1 : List Cond} {rm : Room} {rest shc : ZS} {ad1 : Nat → Nat} {Wr : List Nat} {z1 : Int} {h1 : HS} {index maxL nA k1 n1 : Nat} {bytes : ByteArray} {ret : Option FieldType} {stk : List Value} {As : List Value} {hh : List (Nat × Nat × Nat × Nat)} (hX : ZC G l0 cc Ts own nL R0 X) (hM : ZHi G l0 y ws rm As shc ad ad1 h Wr z1 h1) (hd : decode cc pc = .ok (.invokestatic index, 3)) (hg : GoodIn Ts (va_wsS own index y ws)) (hw : ws = Cond.codeWith y bytes maxL ret hh :: ws1) (hy : y.cls ≠ "java/lang/invoke/MethodHandle" ∧ y.cls ≠ "java/lang/invoke/VarHandle" ∧ (parseMethodDescriptor y.desc).map (fun d => d.parameters.length) = some nA) (hroom : rm.frames + 1 ≤ R0.frames ∧ 8 + (maxL + 11) + rm.locals ≤ R0.locals) (hcs : k + rm.cells ≤ R0.cells ∧ n + rm.slots ≤ R0.slots) (hn : As.length = nA) (hs : stk = As.reverse ++ st) (hcat : (st.map fun v => v.category).sum ≤ 8) (hsh : sh = rest ++ shc) (hnd : va_nd (shc.map (fun x => x.1)) = true) (hD1a : ∀ A : Nat → Prop, va_D A (wz G shc ad h) → va_D A (wz G shc ad1 h1)) (hr1 : zfr Wr h h1 → wz G rest ad1 h1 = wz G rest ad h) (hk1 : k + rm.cells = k1) (hn1 : n + rm.slots = n1)
    (kk : zfr Wr h h1 → ZW G X sh ad1 h1 k1 n1 lv (pc + 3) (.int (iI z1) :: st)) : ZW G X sh ad h k n lv pc stk := by
  obtain ⟨p, l, e, R, s, m, args, below, meth, c, A, Q⟩ := X
  obtain ⟨hx, hb, hml, hown, hts, hK, hA, hN, hll, hR0, hlk, hO⟩ := hX
  subst hll
  subst hR0
  subst hs
  subst hsh
  subst hk1
  subst hn1
  have hs1 : ∀ x ∈ shc, x ∈ rest ++ shc := fun x hx => List.mem_append_right _ hx
  refine fun H locs ls hP hD hS hl => ?_
  have hF := z_freeA hD hS hA
  refine vx_calli (vx_runSX (As := As) (rest := st) ⟨hx, hb, hml, hown, hts⟩ (hM H.size) (vx_cwSW nA hts hg hw rfl rfl hy hroom) ⟨zP_blind, fun U hU hW => ⟨rfl, by rw [hU], by rw [hU]; exact z_sub hs1 hP, va_K.moved hW.alike hK, z_subD hs1 hnd (fun _ _ => trivial) hD, hN.warm hW, by rw [hU]; exact ((hO.kept hS.2.1).narrow hF).moved hW.alike⟩⟩ rfl hn (hl.1.trans hml) rfl (lv_room hcat) hd hcs) hS (fun q _ h => hF q h) hF (fun q _ h => hF q h) (fun E ce q9 u t H1 locs1 ht hvm hp hB hz1 hk1 hS1 hce hvn hcl9 => hp.elim) (fun r u t H1 locs1 ht hvm hp hB hz1 hk1 hS1 => ?_)
  obtain ⟨rfl, hf⟩ := hp
  have hB2 : va_P G.1 vwCl (wz G shc ad1 h1) H1 := by rw [← ht]; exact hB
  have hD2 : va_D (va_A (wz G shc ad h) H.size) (wz G shc ad1 h1) := hD1a _ ((z_subD hs1 hnd (fun _ _ => trivial) hD (B := fun _ => True) (h1 := h)).self)
  obtain ⟨hP3, hD3⟩ := z_joinA hP hD hF hk1 hB2 hD2 (hr1 hf)
  exact kk hf H1 locs1 ls hP3 hD3 hS1 hl
/-! doubles, and methods that draw -/
theorem z_dstore {i : Nat} {x : UInt64} {lv1 : List (Nat × Value)} (hX : ZC G l0 cc Ts own nL R0 X) (hd : decode cc pc = .ok (.dstore i, 2)) (hn : i + 1 < nL) (hf : (i, Value.double x) :: lv.filter (fun q => !(q.1 == i) && (!(q.1 == i + 1) && !(q.1 + 1 == i && q.2.category == 2))) = lv1) (kk : ZW G X sh ad h k n lv1 (pc + 2) st) : ZW G X sh ad h k n lv pc (.double x :: st) := by
  obtain ⟨p, l, e, R, s, m, args, below, meth, c, A, Q⟩ := X
  obtain ⟨hx, hb, hml, hown, hts, hK, hA, hN, hl0, hR0, hlk, hO⟩ := hX
  exact fun H locs ls hP hD hS hl => lv_dstore hx hb hd hl (by rw [hml]; exact hn) hf (fun ls1 hl1 => kk H locs ls1 hP hD hS hl1)
theorem z_dload {i : Nat} {x : UInt64} (hX : ZC G l0 cc Ts own nL R0 X) (hd : decode cc pc = .ok (.dload i, 2)) (q : Nat) (hq : lv[q]? = some (i, .double x)) (kk : ZW G X sh ad h k n lv (pc + 2) (.double x :: st)) : ZW G X sh ad h k n lv pc st := by
  obtain ⟨p, l, e, R, s, m, args, below, meth, c, A, Q⟩ := X
  obtain ⟨hx, hb, hml, hown, hts, hK, hA, hN, hl0, hR0, hlk, hO⟩ := hX
  exact fun H locs ls hP hD hS hl => lv_dload hx hb hd (lv_at hl q hq) (kk H locs ls hP hD hS hl)
theorem z_dcmp {x y : UInt64} {op : CmpOp} (hX : ZC G l0 cc Ts own nL R0 X) (hd : decode cc pc = .ok (.dcmp op, 1)) (kk : ZW G X sh ad h k n lv (pc + 1) (.int (Op.cmpValue (FP.dcmp x y) op) :: st)) : ZW G X sh ad h k n lv pc (.double y :: .double x :: st) := by
  obtain ⟨p, l, e, R, s, m, args, below, meth, c, A, Q⟩ := X
  obtain ⟨hx, hb, hml, hown, hts, hK, hA, hN, hl0, hR0, hlk, hO⟩ := hX
  exact fun H locs ls hP hD hS hl => lv_dcmp hx hb hd (kk H locs ls hP hD hS hl)
def zdr (d : Drawn) : ZX → ZX
  | (p, l, e, R, s, m, args, below, meth, c, A, Q) => (p, l, e, R, s.setDrawn d, m, args, below, meth, c, A, Q)
theorem ZC.drawn {d : Drawn} (hX : ZC G l0 cc Ts own nL R0 X) : ZC G l0 cc Ts own nL R0 (zdr d X) := by
  obtain ⟨p, l, e, R, s, m, args, below, meth, c, A, Q⟩ := X
  obtain ⟨hx, hb, hml, hown, hts, hK, hA, hN, hl0, hR0, hlk, hO⟩ := hX
  exact ⟨hx, hb, hml, hown, dr_words hts d, va_K.moved (u := s) (U := s.setDrawn d) (Vm.Alike.refl _) hK, hA, zN.same (u := s) (U := s.setDrawn d) rfl hN, hl0, hR0, hlk, zRO.moved (u := s) (U := s.setDrawn d) (Vm.Alike.refl _) hO⟩
theorem zSc.drawn {b L : Nat} {xs : Nat → Int32} {d : Drawn} (hc : zSc b L xs X) : zSc b L xs (zdr d X) := by
  obtain ⟨p, l, e, R, s, m, args, below, meth, c, A, Q⟩ := X
  obtain ⟨⟨scr, g1, g2, g3⟩, h2, h3⟩ := hc
  exact ⟨⟨scr, g1, g2, g3⟩, h2, h3⟩
def zdrOk (d : Drawn) : ZX → Prop
  | (_, _, _, _, s, _, _, _, _, _, _, _) => s.drawn.sameBut d lw_cs
theorem z_callV_d {y : MethodName} {ws ws1 : List Cond} {rm : Room} {shc : ZS} {Wr : List Nat} {z1 : Int × Int × Int} {h1 : HS} {index maxL nA k1 n1 : Nat} {bytes : ByteArray} {ret : Option FieldType} {stk : List Value} {As : List Value} {b ci N : Nat} {C : String} {T : u_T} {fs : List Nat} {d0 : Drawn} (hX0 : ZC G l0 cc Ts own nL R0 X) (hd0 : zdrOk d0 X) (hM : ZMd G l0 y ws rm (.ref (ad b) :: As) shc ad h Wr z1 h1) (hd : decode cc pc = .ok (.invokevirtual index, 3)) (hg : GoodIn Ts (wsV own index C y ws)) (hw : ws = Cond.code y bytes maxL ret :: ws1) (hy : y.cls = C ∧ y.cls ≠ "java/lang/invoke/MethodHandle" ∧ y.cls ≠ "java/lang/invoke/VarHandle" ∧ (parseMethodDescriptor y.desc).map (fun d => d.parameters.length) = some nA) (hroom : rm.frames + 1 ≤ R0.frames ∧ 8 + (maxL + 11) + rm.locals ≤ R0.locals) (hcs : k + rm.cells ≤ R0.cells ∧ n + rm.slots ≤ R0.slots) (q : Nat) (hq : sh[q]? = some (b, .inr (.inr (ci, fs)))) (hcl : vwCl[ci]? = some (C, T, N)) (hn : As.length = nA) (hs : stk = As.reverse ++ .ref (ad b) :: st) (hcat : (st.map fun v => v.category).sum ≤ 8) (hsub0 : zsubB sh shc Wr = true) (hk1 : k + rm.cells = k1) (hn1 : n + rm.slots = n1) (kk : ∀ (r : UInt64) (d1 : Drawn), zdv z1 r → zdrOk d1 X → zfr Wr h h1 → ZW G (zdr d1 X) sh ad h1 k1 n1 lv (pc + 3) (.double r :: st)) : ZW G (zdr d0 X) sh ad h k n lv pc stk := by
  have hX : ZC G l0 cc Ts own nL R0 (zdr d0 X) := hX0.drawn
  obtain ⟨p, l, e, R, s, m, args, below, meth, c, A, Q⟩ := X
  obtain ⟨hx, hb, hml, hown, hts, hK, hA, hN, hl0, hR0, hlk, hO⟩ := hX
  subst hl0
  subst hR0
  subst hs
  have hsub := zsub_of hsub0
  subst hk1
  subst hn1
  refine fun H locs ls hP hD hS hl => ?_
  have hF := z_free hsub hD hS hA
  refine va_calldD hd0 (va_runV_D (As := As) (rest := st) ⟨hx, hb, hml, hown, hts⟩ (hM H.size) (cwV nA hts hg hw rfl rfl hy hroom) ⟨zP_blind, va_recv hK hP hcl (wz_at hq), fun U hU hW => ⟨rfl, by rw [hU], by rw [hU]; exact z_sub hsub.1 hP, va_K.moved hW.alike hK, z_subD hsub.1 hsub.2.2 (fun _ _ => trivial) hD, hN.warm hW, by rw [hU]; exact ((hO.kept hS.2.1).narrow hF).moved hW.alike⟩⟩ rfl hn (hl.1.trans hml) rfl (lv_room hcat) hd hcs) hS (fun q _ h => hF q h) hF (fun r u t H1 locs1 ht hvm hp hB hz1 hk1 hS1 d1 hd1 => ?_)
  obtain ⟨hz, hf⟩ := hp
  have hB2 : va_P G.1 vwCl (wz G shc ad h1) H1 := by rw [← ht]; exact hB
  exact kk r d1 hz hd1 hf H1 locs1 ls (z_join hP hD hsub hf hk1 hB2) (wzD hD) hS1 hl
end ZLAWB
section ZDBL
theorem z_nanD {b : UInt64} (h : isNaN64 b = true) : FP.Core.decode FP.Core.b64 b.toNat = .nan := by
  have h1 := isNaN64_iff.mp h
  have e : (0x7fffffffffffffff : UInt64).toNat = 2 ^ 63 - 1 := by decide
  have h2 : 0x7ff0000000000000 < b.toNat % 2 ^ 63 := by
    rw [← Nat.and_two_pow_sub_one_eq_mod]
    exact h1
  have hb := b.toNat_lt
  have hE : FP.Core.fieldE FP.Core.b64 b.toNat = FP.Core.b64.exps - 1 := by
    show b.toNat / 2 ^ 52 % 2 ^ 11 = 2 ^ 11 - 1
    omega
  have hT : ¬ FP.Core.fieldT FP.Core.b64 b.toNat = 0 := by
    show ¬ b.toNat % 2 ^ 52 = 0
    omega
  unfold FP.Core.decode
  rw [if_pos hE, if_neg hT]
theorem z_cmpNaN {x y : UInt64} (h : isNaN64 x = true) : FP.dcmp x y = none := by
  show FP.Core.order (FP.Core.decode FP.Core.b64 x.toNat) (FP.Core.decode FP.Core.b64 y.toNat) = none
  rw [z_nanD h]
  rfl
theorem z_cmpSelf (x : UInt64) : FP.dcmp x x = none ∨ FP.dcmp x x = some Ordering.eq := by
  show FP.Core.order (FP.Core.decode FP.Core.b64 x.toNat) (FP.Core.decode FP.Core.b64 x.toNat) = none ∨ FP.Core.order (FP.Core.decode FP.Core.b64 x.toNat) (FP.Core.decode FP.Core.b64 x.toNat) = some Ordering.eq
  cases FP.Core.decode FP.Core.b64 x.toNat with
  | nan => left; rfl
  | inf s => right; exact congrArg some Std.compare_self
  | fin s c q => right; exact congrArg some Std.compare_self
/-- two answers of one quotient: the law's test goes through -/
theorem z_alike {r1 r2 q : UInt64} (h1 : alike64 r1 q = true) (h2 : alike64 r2 q = true) : FP.dcmp r1 r2 = some Ordering.eq ∨ (FP.dcmp r1 r2 = none ∧ FP.dcmp r1 r1 = none ∧ FP.dcmp r2 r2 = none) := by
  unfold alike64 at h1 h2
  simp only [Bool.or_eq_true, decide_eq_true_eq, Bool.and_eq_true] at h1 h2
  by_cases hq : isNaN64 q = true
  · have n1 : isNaN64 r1 = true := h1.elim (fun e => e ▸ hq) (fun e => e.1)
    have n2 : isNaN64 r2 = true := h2.elim (fun e => e ▸ hq) (fun e => e.1)
    exact Or.inr ⟨z_cmpNaN n1, z_cmpNaN n1, z_cmpNaN n2⟩
  · have e1 : r1 = q := h1.elim id (fun e => absurd e.2 hq)
    have e2 : r2 = q := h2.elim id (fun e => absurd e.2 hq)
    rw [e1, e2]
    rcases z_cmpSelf q with e | e
    · exact Or.inr ⟨e, e, e⟩
    · exact Or.inl e
theorem zdv_alike {z1 z2 : Int × Int × Int} {r1 r2 : UInt64} (h1 : zdv z1 r1) (h2 : zdv z2 r2) (e : z1.1 = z2.1 ∧ wr z1.2.1 = wr z2.2.1 ∧ wr z1.2.2 = wr z2.2.2) : FP.dcmp r1 r2 = some Ordering.eq ∨ (FP.dcmp r1 r2 = none ∧ FP.dcmp r1 r1 = none ∧ FP.dcmp r2 r2 = none) := by
  obtain ⟨e0, e1, e2⟩ := e
  rcases h1 with ⟨a1, rfl⟩ | ⟨a1, b1⟩
  · rcases h2 with ⟨a2, rfl⟩ | ⟨a2, b2⟩
    · exact z_alike (alike64_refl _) (alike64_refl _)
    · omega
  · rcases h2 with ⟨a2, rfl⟩ | ⟨a2, b2⟩
    · omega
    · rw [(iI_eq _ _).mpr e1, (iI_eq _ _).mpr e2] at b1
      exact z_alike b1 b2
end ZDBL
