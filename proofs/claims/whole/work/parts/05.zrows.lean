section ZROWS
variable {G : ZG} {l0 : Launch} {cc : ByteArray} {Ts : List Cond} {own : String} {nL : Nat} {R0 : Room} {X : ZX} {sh : ZS} {ad : Nat → Nat} {h : HS} {k n : Nat} {lv : List (Nat × Value)} {pc : Nat} {st : List Value}
theorem z_iconst {v : Int} (hX : ZC G l0 cc Ts own nL R0 X) (hd : decode cc pc = .ok (.iconst v, 1)) (kk : ZW G X sh ad h k n lv (pc + 1) (.int (iI v) :: st)) : ZW G X sh ad h k n lv pc (st) := by
  obtain ⟨p, l, e, R, s, m, args, below, meth, c, A, Q⟩ := X
  obtain ⟨hx, hb, hml, hown, hts, hK, hA, hN, hl0, hR0, hlk, hO⟩ := hX
  exact fun H locs ls hP hD hS hl => lv_iconst hx hb hd rfl (kk H locs ls hP hD hS hl)
theorem z_bipush {v : Int} (hX : ZC G l0 cc Ts own nL R0 X) (hd : decode cc pc = .ok (.bipush v, 2)) (hv : (Int8.ofInt v).toInt32 = iI v) (kk : ZW G X sh ad h k n lv (pc + 2) (.int (iI v) :: st)) : ZW G X sh ad h k n lv pc (st) := by
  obtain ⟨p, l, e, R, s, m, args, below, meth, c, A, Q⟩ := X
  obtain ⟨hx, hb, hml, hown, hts, hK, hA, hN, hl0, hR0, hlk, hO⟩ := hX
  exact fun H locs ls hP hD hS hl => lv_bipush hx hb hd hv (kk H locs ls hP hD hS hl)
theorem z_sipush {v : Int} (hX : ZC G l0 cc Ts own nL R0 X) (hd : decode cc pc = .ok (.sipush v, 3)) (hv : (Int16.ofInt v).toInt32 = iI v) (kk : ZW G X sh ad h k n lv (pc + 3) (.int (iI v) :: st)) : ZW G X sh ad h k n lv pc (st) := by
  obtain ⟨p, l, e, R, s, m, args, below, meth, c, A, Q⟩ := X
  obtain ⟨hx, hb, hml, hown, hts, hK, hA, hN, hl0, hR0, hlk, hO⟩ := hX
  exact fun H locs ls hP hD hS hl => lv_sipush hx hb hd hv (kk H locs ls hP hD hS hl)
theorem z_ldc {v : Int} {ix : Nat} (hX : ZC G l0 cc Ts own nL R0 X) (hd : decode cc pc = .ok (.ldc ix, 2)) (hw : (Jvm.Cond.constant own ix (iI v)) ∈ Ts) (kk : ZW G X sh ad h k n lv (pc + 2) (.int (iI v) :: st)) : ZW G X sh ad h k n lv pc (st) := by
  obtain ⟨p, l, e, R, s, m, args, below, meth, c, A, Q⟩ := X
  obtain ⟨hx, hb, hml, hown, hts, hK, hA, hN, hl0, hR0, hlk, hO⟩ := hX
  exact fun H locs ls hP hD hS hl => lv_ldc hx hb hown (hts _ hw) hd (kk H locs ls hP hD hS hl)
theorem z_lconst {v : Fin 2} (hX : ZC G l0 cc Ts own nL R0 X) (hd : decode cc pc = .ok (.lconst v, 1)) (kk : ZW G X sh ad h k n lv (pc + 1) (.long (Int64.ofNat (v : Nat)) :: st)) : ZW G X sh ad h k n lv pc (st) := by
  obtain ⟨p, l, e, R, s, m, args, below, meth, c, A, Q⟩ := X
  obtain ⟨hx, hb, hml, hown, hts, hK, hA, hN, hl0, hR0, hlk, hO⟩ := hX
  exact fun H locs ls hP hD hS hl => lv_lconst hx hb hd rfl (kk H locs ls hP hD hS hl)
theorem z_ldc2 {v : Int64} {ix : Nat} (hX : ZC G l0 cc Ts own nL R0 X) (hd : decode cc pc = .ok (.ldc2_w ix, 3)) (hw : (Jvm.Cond.constantLong own ix v) ∈ Ts) (kk : ZW G X sh ad h k n lv (pc + 3) (.long v :: st)) : ZW G X sh ad h k n lv pc (st) := by
  obtain ⟨p, l, e, R, s, m, args, below, meth, c, A, Q⟩ := X
  obtain ⟨hx, hb, hml, hown, hts, hK, hA, hN, hl0, hR0, hlk, hO⟩ := hX
  exact fun H locs ls hP hD hS hl => lv_ldc2 hx hb hown (hts _ hw) hd (kk H locs ls hP hD hS hl)
theorem z_iload_n {v : Int} {i : Fin 4} (hX : ZC G l0 cc Ts own nL R0 X) (hd : decode cc pc = .ok (.iload_n i, 1)) (q : Nat) (hq : lv[q]? = some ((i : Nat), .int (iI v))) (kk : ZW G X sh ad h k n lv (pc + 1) (.int (iI v) :: st)) : ZW G X sh ad h k n lv pc (st) := by
  obtain ⟨p, l, e, R, s, m, args, below, meth, c, A, Q⟩ := X
  obtain ⟨hx, hb, hml, hown, hts, hK, hA, hN, hl0, hR0, hlk, hO⟩ := hX
  exact fun H locs ls hP hD hS hl => lv_iload_n hx hb hd rfl (lv_at hl q hq) (kk H locs ls hP hD hS hl)
theorem z_iload {v : Int} {i : Nat} (hX : ZC G l0 cc Ts own nL R0 X) (hd : decode cc pc = .ok (.iload i, 2)) (q : Nat) (hq : lv[q]? = some (i, .int (iI v))) (kk : ZW G X sh ad h k n lv (pc + 2) (.int (iI v) :: st)) : ZW G X sh ad h k n lv pc (st) := by
  obtain ⟨p, l, e, R, s, m, args, below, meth, c, A, Q⟩ := X
  obtain ⟨hx, hb, hml, hown, hts, hK, hA, hN, hl0, hR0, hlk, hO⟩ := hX
  exact fun H locs ls hP hD hS hl => lv_iload hx hb hd (lv_at hl q hq) (kk H locs ls hP hD hS hl)
theorem z_istore_n {v : Int} {i : Fin 4} {lv1 : List (Nat × Value)} (hX : ZC G l0 cc Ts own nL R0 X) (hd : decode cc pc = .ok (.istore_n i, 1)) (hn : (i : Nat) < nL) (hf : ((i : Nat), Value.int (iI v)) :: lv.filter (fun q => !(q.1 == (i : Nat)) && !(q.1 + 1 == (i : Nat) && q.2.category == 2)) = lv1) (kk : ZW G X sh ad h k n lv1 (pc + 1) (st)) : ZW G X sh ad h k n lv pc (.int (iI v) :: st) := by
  obtain ⟨p, l, e, R, s, m, args, below, meth, c, A, Q⟩ := X
  obtain ⟨hx, hb, hml, hown, hts, hK, hA, hN, hl0, hR0, hlk, hO⟩ := hX
  exact fun H locs ls hP hD hS hl => lv_istore_n hx hb hd rfl hl (by rw [hml]; exact hn) hf (fun ls1 hl1 => kk H locs ls1 hP hD hS hl1)
theorem z_istore {v : Int} {i : Nat} {lv1 : List (Nat × Value)} (hX : ZC G l0 cc Ts own nL R0 X) (hd : decode cc pc = .ok (.istore i, 2)) (hn : (i : Nat) < nL) (hf : ((i : Nat), Value.int (iI v)) :: lv.filter (fun q => !(q.1 == (i : Nat)) && !(q.1 + 1 == (i : Nat) && q.2.category == 2)) = lv1) (kk : ZW G X sh ad h k n lv1 (pc + 2) (st)) : ZW G X sh ad h k n lv pc (.int (iI v) :: st) := by
  obtain ⟨p, l, e, R, s, m, args, below, meth, c, A, Q⟩ := X
  obtain ⟨hx, hb, hml, hown, hts, hK, hA, hN, hl0, hR0, hlk, hO⟩ := hX
  exact fun H locs ls hP hD hS hl => lv_istore hx hb hd hl (by rw [hml]; exact hn) hf (fun ls1 hl1 => kk H locs ls1 hP hD hS hl1)
theorem z_lload_n {v : Int64} {i : Fin 4} (hX : ZC G l0 cc Ts own nL R0 X) (hd : decode cc pc = .ok (.lload_n i, 1)) (q : Nat) (hq : lv[q]? = some ((i : Nat), .long v)) (kk : ZW G X sh ad h k n lv (pc + 1) (.long v :: st)) : ZW G X sh ad h k n lv pc (st) := by
  obtain ⟨p, l, e, R, s, m, args, below, meth, c, A, Q⟩ := X
  obtain ⟨hx, hb, hml, hown, hts, hK, hA, hN, hl0, hR0, hlk, hO⟩ := hX
  exact fun H locs ls hP hD hS hl => lv_lload_n hx hb hd rfl (lv_at hl q hq) (kk H locs ls hP hD hS hl)
theorem z_lload {v : Int64} {i : Nat} (hX : ZC G l0 cc Ts own nL R0 X) (hd : decode cc pc = .ok (.lload i, 2)) (q : Nat) (hq : lv[q]? = some (i, .long v)) (kk : ZW G X sh ad h k n lv (pc + 2) (.long v :: st)) : ZW G X sh ad h k n lv pc (st) := by
  obtain ⟨p, l, e, R, s, m, args, below, meth, c, A, Q⟩ := X
  obtain ⟨hx, hb, hml, hown, hts, hK, hA, hN, hl0, hR0, hlk, hO⟩ := hX
  exact fun H locs ls hP hD hS hl => lv_lload hx hb hd (lv_at hl q hq) (kk H locs ls hP hD hS hl)
theorem z_lstore_n {v : Int64} {i : Fin 4} {lv1 : List (Nat × Value)} (hX : ZC G l0 cc Ts own nL R0 X) (hd : decode cc pc = .ok (.lstore_n i, 1)) (hn : (i : Nat) + 1 < nL) (hf : ((i : Nat), Value.long v) :: lv.filter (fun q => !(q.1 == (i : Nat)) && (!(q.1 == (i : Nat) + 1) && !(q.1 + 1 == (i : Nat) && q.2.category == 2))) = lv1) (kk : ZW G X sh ad h k n lv1 (pc + 1) (st)) : ZW G X sh ad h k n lv pc (.long v :: st) := by
  obtain ⟨p, l, e, R, s, m, args, below, meth, c, A, Q⟩ := X
  obtain ⟨hx, hb, hml, hown, hts, hK, hA, hN, hl0, hR0, hlk, hO⟩ := hX
  exact fun H locs ls hP hD hS hl => lv_lstore_n hx hb hd rfl hl (by rw [hml]; exact hn) hf (fun ls1 hl1 => kk H locs ls1 hP hD hS hl1)
theorem z_lstore {v : Int64} {i : Nat} {lv1 : List (Nat × Value)} (hX : ZC G l0 cc Ts own nL R0 X) (hd : decode cc pc = .ok (.lstore i, 2)) (hn : (i : Nat) + 1 < nL) (hf : ((i : Nat), Value.long v) :: lv.filter (fun q => !(q.1 == (i : Nat)) && (!(q.1 == (i : Nat) + 1) && !(q.1 + 1 == (i : Nat) && q.2.category == 2))) = lv1) (kk : ZW G X sh ad h k n lv1 (pc + 2) (st)) : ZW G X sh ad h k n lv pc (.long v :: st) := by
  obtain ⟨p, l, e, R, s, m, args, below, meth, c, A, Q⟩ := X
  obtain ⟨hx, hb, hml, hown, hts, hK, hA, hN, hl0, hR0, hlk, hO⟩ := hX
  exact fun H locs ls hP hD hS hl => lv_lstore hx hb hd hl (by rw [hml]; exact hn) hf (fun ls1 hl1 => kk H locs ls1 hP hD hS hl1)
theorem z_aload_n {v : Nat} {i : Fin 4} (hX : ZC G l0 cc Ts own nL R0 X) (hd : decode cc pc = .ok (.aload_n i, 1)) (q : Nat) (hq : lv[q]? = some ((i : Nat), .ref v)) (kk : ZW G X sh ad h k n lv (pc + 1) (.ref v :: st)) : ZW G X sh ad h k n lv pc (st) := by
  obtain ⟨p, l, e, R, s, m, args, below, meth, c, A, Q⟩ := X
  obtain ⟨hx, hb, hml, hown, hts, hK, hA, hN, hl0, hR0, hlk, hO⟩ := hX
  exact fun H locs ls hP hD hS hl => lv_aload_n hx hb hd rfl (lv_at hl q hq) (kk H locs ls hP hD hS hl)
theorem z_aload {v : Nat} {i : Nat} (hX : ZC G l0 cc Ts own nL R0 X) (hd : decode cc pc = .ok (.aload i, 2)) (q : Nat) (hq : lv[q]? = some (i, .ref v)) (kk : ZW G X sh ad h k n lv (pc + 2) (.ref v :: st)) : ZW G X sh ad h k n lv pc (st) := by
  obtain ⟨p, l, e, R, s, m, args, below, meth, c, A, Q⟩ := X
  obtain ⟨hx, hb, hml, hown, hts, hK, hA, hN, hl0, hR0, hlk, hO⟩ := hX
  exact fun H locs ls hP hD hS hl => lv_aload hx hb hd (lv_at hl q hq) (kk H locs ls hP hD hS hl)
theorem z_astore_n {v : Nat} {i : Fin 4} {lv1 : List (Nat × Value)} (hX : ZC G l0 cc Ts own nL R0 X) (hd : decode cc pc = .ok (.astore_n i, 1)) (hn : (i : Nat) < nL) (hf : ((i : Nat), Value.ref v) :: lv.filter (fun q => !(q.1 == (i : Nat)) && !(q.1 + 1 == (i : Nat) && q.2.category == 2)) = lv1) (kk : ZW G X sh ad h k n lv1 (pc + 1) (st)) : ZW G X sh ad h k n lv pc (.ref v :: st) := by
  obtain ⟨p, l, e, R, s, m, args, below, meth, c, A, Q⟩ := X
  obtain ⟨hx, hb, hml, hown, hts, hK, hA, hN, hl0, hR0, hlk, hO⟩ := hX
  exact fun H locs ls hP hD hS hl => lv_astore_n hx hb hd rfl hl (by rw [hml]; exact hn) hf (fun ls1 hl1 => kk H locs ls1 hP hD hS hl1)
theorem z_astore {v : Nat} {i : Nat} {lv1 : List (Nat × Value)} (hX : ZC G l0 cc Ts own nL R0 X) (hd : decode cc pc = .ok (.astore i, 2)) (hn : (i : Nat) < nL) (hf : ((i : Nat), Value.ref v) :: lv.filter (fun q => !(q.1 == (i : Nat)) && !(q.1 + 1 == (i : Nat) && q.2.category == 2)) = lv1) (kk : ZW G X sh ad h k n lv1 (pc + 2) (st)) : ZW G X sh ad h k n lv pc (.ref v :: st) := by
  obtain ⟨p, l, e, R, s, m, args, below, meth, c, A, Q⟩ := X
  obtain ⟨hx, hb, hml, hown, hts, hK, hA, hN, hl0, hR0, hlk, hO⟩ := hX
  exact fun H locs ls hP hD hS hl => lv_astore hx hb hd hl (by rw [hml]; exact hn) hf (fun ls1 hl1 => kk H locs ls1 hP hD hS hl1)
theorem z_iinc {v d : Int} {i : Nat} {lv1 : List (Nat × Value)} (hX : ZC G l0 cc Ts own nL R0 X) (hd : decode cc pc = .ok (.iinc i d, 3)) (q : Nat) (hq : lv[q]? = some (i, .int (iI v))) (hn : i < nL) (hf : (i, Value.int (iI (v + d))) :: lv.filter (fun q => !(q.1 == i) && !(q.1 + 1 == i && q.2.category == 2)) = lv1) (kk : ZW G X sh ad h k n lv1 (pc + 3) (st)) : ZW G X sh ad h k n lv pc (st) := by
  obtain ⟨p, l, e, R, s, m, args, below, meth, c, A, Q⟩ := X
  obtain ⟨hx, hb, hml, hown, hts, hK, hA, hN, hl0, hR0, hlk, hO⟩ := hX
  exact fun H locs ls hP hD hS hl => lv_iinc (v := iI (v + d)) hx hb hd hl hq (iI_add v d) (by rw [hml]; exact hn) hf (fun ls1 hl1 => kk H locs ls1 hP hD hS hl1)
theorem z_iadd {x y : Int} (hX : ZC G l0 cc Ts own nL R0 X) (hd : decode cc pc = .ok (.iadd, 1)) (kk : ZW G X sh ad h k n lv (pc + 1) (.int (iI (x + y)) :: st)) : ZW G X sh ad h k n lv pc (.int (iI y) :: .int (iI x) :: st) := by
  obtain ⟨p, l, e, R, s, m, args, below, meth, c, A, Q⟩ := X
  obtain ⟨hx, hb, hml, hown, hts, hK, hA, hN, hl0, hR0, hlk, hO⟩ := hX
  exact fun H locs ls hP hD hS hl => lv_iadd hx hb hd (by rw [iI_add]; exact kk H locs ls hP hD hS hl)
theorem z_isub {x y : Int} (hX : ZC G l0 cc Ts own nL R0 X) (hd : decode cc pc = .ok (.isub, 1)) (kk : ZW G X sh ad h k n lv (pc + 1) (.int (iI (x - y)) :: st)) : ZW G X sh ad h k n lv pc (.int (iI y) :: .int (iI x) :: st) := by
  obtain ⟨p, l, e, R, s, m, args, below, meth, c, A, Q⟩ := X
  obtain ⟨hx, hb, hml, hown, hts, hK, hA, hN, hl0, hR0, hlk, hO⟩ := hX
  exact fun H locs ls hP hD hS hl => lv_isub hx hb hd (by rw [iI_sub]; exact kk H locs ls hP hD hS hl)
theorem z_imul {x y : Int} (hX : ZC G l0 cc Ts own nL R0 X) (hd : decode cc pc = .ok (.imul, 1)) (kk : ZW G X sh ad h k n lv (pc + 1) (.int (iI (x * y)) :: st)) : ZW G X sh ad h k n lv pc (.int (iI y) :: .int (iI x) :: st) := by
  obtain ⟨p, l, e, R, s, m, args, below, meth, c, A, Q⟩ := X
  obtain ⟨hx, hb, hml, hown, hts, hK, hA, hN, hl0, hR0, hlk, hO⟩ := hX
  exact fun H locs ls hP hD hS hl => lv_imul hx hb hd (by rw [iI_mul]; exact kk H locs ls hP hD hS hl)
theorem z_ineg {x : Int} (hX : ZC G l0 cc Ts own nL R0 X) (hd : decode cc pc = .ok (.ineg, 1)) (kk : ZW G X sh ad h k n lv (pc + 1) (.int (iI (-x)) :: st)) : ZW G X sh ad h k n lv pc (.int (iI x) :: st) := by
  obtain ⟨p, l, e, R, s, m, args, below, meth, c, A, Q⟩ := X
  obtain ⟨hx, hb, hml, hown, hts, hK, hA, hN, hl0, hR0, hlk, hO⟩ := hX
  exact fun H locs ls hP hD hS hl => lv_ineg hx hb hd (by rw [iI_neg]; exact kk H locs ls hP hD hS hl)
theorem iI_ne0 {d : Int} (h : 0 < d ∧ d < 2147483648) : ¬ iI d = 0 := by
  intro e
  have e2 : iI d = iI 0 := e
  rw [iI_eq, wr_of (by omega) (by omega), wr_of (by omega) (by omega)] at e2
  omega
theorem z_idiv {x d : Int} {α : Type} {B : Option α} {o : α} (hX : ZC G l0 cc Ts own nL R0 X) (hd : decode cc pc = .ok (.idiv, 1)) (h0 : 0 < d ∧ d < 2147483648) (hr : (if 0 ≤ x ∧ x < 2147483648 then B else none) = some o) (kk : B = some o → ZW G X sh ad h k n lv (pc + 1) (.int (iI (x / d)) :: st)) : ZW G X sh ad h k n lv pc (.int (iI d) :: .int (iI x) :: st) := by
  obtain ⟨p, l, e, R, s, m, args, below, meth, c, A, Q⟩ := X
  obtain ⟨hx, hb, hml, hown, hts, hK, hA, hN, hl0, hR0, hlk, hO⟩ := hX
  by_cases hg : 0 ≤ x ∧ x < 2147483648
  · rw [if_pos hg] at hr
    have kk := kk hr
    exact fun H locs ls hP hD hS hl => lv_idiv hx hb hd (iI_ne0 h0) (by rw [iI_div hg h0]; exact kk H locs ls hP hD hS hl)
  · rw [if_neg hg] at hr
    cases hr
theorem z_irem {x d : Int} {α : Type} {B : Option α} {o : α} (hX : ZC G l0 cc Ts own nL R0 X) (hd : decode cc pc = .ok (.irem, 1)) (h0 : 0 < d ∧ d < 2147483648) (hr : (if 0 ≤ x ∧ x < 2147483648 then B else none) = some o) (kk : B = some o → ZW G X sh ad h k n lv (pc + 1) (.int (iI (x % d)) :: st)) : ZW G X sh ad h k n lv pc (.int (iI d) :: .int (iI x) :: st) := by
  obtain ⟨p, l, e, R, s, m, args, below, meth, c, A, Q⟩ := X
  obtain ⟨hx, hb, hml, hown, hts, hK, hA, hN, hl0, hR0, hlk, hO⟩ := hX
  by_cases hg : 0 ≤ x ∧ x < 2147483648
  · rw [if_pos hg] at hr
    have kk := kk hr
    exact fun H locs ls hP hD hS hl => lv_irem hx hb hd (iI_ne0 h0) (by rw [iI_rem hg h0]; exact kk H locs ls hP hD hS hl)
  · rw [if_neg hg] at hr
    cases hr
theorem z_ladd {x y : Int64} (hX : ZC G l0 cc Ts own nL R0 X) (hd : decode cc pc = .ok (.ladd, 1)) (kk : ZW G X sh ad h k n lv (pc + 1) (.long (x + y) :: st)) : ZW G X sh ad h k n lv pc (.long y :: .long x :: st) := by
  obtain ⟨p, l, e, R, s, m, args, below, meth, c, A, Q⟩ := X
  obtain ⟨hx, hb, hml, hown, hts, hK, hA, hN, hl0, hR0, hlk, hO⟩ := hX
  exact fun H locs ls hP hD hS hl => lv_ladd hx hb hd (kk H locs ls hP hD hS hl)
theorem z_lmul {x y : Int64} (hX : ZC G l0 cc Ts own nL R0 X) (hd : decode cc pc = .ok (.lmul, 1)) (kk : ZW G X sh ad h k n lv (pc + 1) (.long (x * y) :: st)) : ZW G X sh ad h k n lv pc (.long y :: .long x :: st) := by
  obtain ⟨p, l, e, R, s, m, args, below, meth, c, A, Q⟩ := X
  obtain ⟨hx, hb, hml, hown, hts, hK, hA, hN, hl0, hR0, hlk, hO⟩ := hX
  exact fun H locs ls hP hD hS hl => lv_lmul hx hb hd (kk H locs ls hP hD hS hl)
theorem z_land {x y : Int64} (hX : ZC G l0 cc Ts own nL R0 X) (hd : decode cc pc = .ok (.land, 1)) (kk : ZW G X sh ad h k n lv (pc + 1) (.long (x &&& y) :: st)) : ZW G X sh ad h k n lv pc (.long y :: .long x :: st) := by
  obtain ⟨p, l, e, R, s, m, args, below, meth, c, A, Q⟩ := X
  obtain ⟨hx, hb, hml, hown, hts, hK, hA, hN, hl0, hR0, hlk, hO⟩ := hX
  exact fun H locs ls hP hD hS hl => lv_land hx hb hd (kk H locs ls hP hD hS hl)
theorem z_lor {x y : Int64} (hX : ZC G l0 cc Ts own nL R0 X) (hd : decode cc pc = .ok (.lor, 1)) (kk : ZW G X sh ad h k n lv (pc + 1) (.long (x ||| y) :: st)) : ZW G X sh ad h k n lv pc (.long y :: .long x :: st) := by
  obtain ⟨p, l, e, R, s, m, args, below, meth, c, A, Q⟩ := X
  obtain ⟨hx, hb, hml, hown, hts, hK, hA, hN, hl0, hR0, hlk, hO⟩ := hX
  exact fun H locs ls hP hD hS hl => lv_lor hx hb hd (kk H locs ls hP hD hS hl)
theorem z_i2l {x : Int} (hX : ZC G l0 cc Ts own nL R0 X) (hd : decode cc pc = .ok (.i2l, 1)) (kk : ZW G X sh ad h k n lv (pc + 1) (.long (iI x).toInt64 :: st)) : ZW G X sh ad h k n lv pc (.int (iI x) :: st) := by
  obtain ⟨p, l, e, R, s, m, args, below, meth, c, A, Q⟩ := X
  obtain ⟨hx, hb, hml, hown, hts, hK, hA, hN, hl0, hR0, hlk, hO⟩ := hX
  exact fun H locs ls hP hD hS hl => lv_i2l hx hb hd rfl (kk H locs ls hP hD hS hl)
def zshl (x : Int64) (y : Int) : Int64 := x <<< ((iI y).toInt64 &&& 63)
def zushr (x : Int64) (y : Int) : Int64 := (x.toUInt64 >>> ((iI y).toInt64.toUInt64 &&& Int64.toUInt64 63)).toInt64
def zcmp (x y : Int64) : Int := if y < x then 1 else if x = y then 0 else -1
theorem z_lshl {x : Int64} {y : Int} (hX : ZC G l0 cc Ts own nL R0 X) (hd : decode cc pc = .ok (.lshl, 1)) (kk : ZW G X sh ad h k n lv (pc + 1) (.long (zshl x y) :: st)) : ZW G X sh ad h k n lv pc (.int (iI y) :: .long x :: st) := by
  obtain ⟨p, l, e, R, s, m, args, below, meth, c, A, Q⟩ := X
  obtain ⟨hx, hb, hml, hown, hts, hK, hA, hN, hl0, hR0, hlk, hO⟩ := hX
  exact fun H locs ls hP hD hS hl => lv_lshl hx hb hd rfl (kk H locs ls hP hD hS hl)
theorem z_lushr {x : Int64} {y : Int} (hX : ZC G l0 cc Ts own nL R0 X) (hd : decode cc pc = .ok (.lushr, 1)) (kk : ZW G X sh ad h k n lv (pc + 1) (.long (zushr x y) :: st)) : ZW G X sh ad h k n lv pc (.int (iI y) :: .long x :: st) := by
  obtain ⟨p, l, e, R, s, m, args, below, meth, c, A, Q⟩ := X
  obtain ⟨hx, hb, hml, hown, hts, hK, hA, hN, hl0, hR0, hlk, hO⟩ := hX
  exact fun H locs ls hP hD hS hl => lv_lushr hx hb hd rfl (kk H locs ls hP hD hS hl)
theorem zcmp_lg (x y : Int64) : lg_cmp x y = iI (zcmp x y) := by
  unfold lg_cmp zcmp
  by_cases h1 : y < x
  · simp [h1]; rfl
  · by_cases h2 : x = y
    · subst h2; simp [h1]; rfl
    · simp [h1, h2]; rfl
theorem z_lcmp {x y : Int64} (hX : ZC G l0 cc Ts own nL R0 X) (hd : decode cc pc = .ok (.lcmp, 1)) (kk : ZW G X sh ad h k n lv (pc + 1) (.int (iI (zcmp x y)) :: st)) : ZW G X sh ad h k n lv pc (.long y :: .long x :: st) := by
  obtain ⟨p, l, e, R, s, m, args, below, meth, c, A, Q⟩ := X
  obtain ⟨hx, hb, hml, hown, hts, hK, hA, hN, hl0, hR0, hlk, hO⟩ := hX
  exact fun H locs ls hP hD hS hl => W.lcmp hx hb hd (by rw [zcmp_lg]; exact kk H locs ls hP hD hS hl)
theorem z_dup {va : Value} (hX : ZC G l0 cc Ts own nL R0 X) (hd : decode cc pc = .ok (.dup, 1)) (hc : va.category = 1) (kk : ZW G X sh ad h k n lv (pc + 1) (va :: va :: st)) : ZW G X sh ad h k n lv pc (va :: st) := by
  obtain ⟨p, l, e, R, s, m, args, below, meth, c, A, Q⟩ := X
  obtain ⟨hx, hb, hml, hown, hts, hK, hA, hN, hl0, hR0, hlk, hO⟩ := hX
  exact fun H locs ls hP hD hS hl => lv_dup hx hb hd hc (kk H locs ls hP hD hS hl)
theorem z_pop {va : Value} (hX : ZC G l0 cc Ts own nL R0 X) (hd : decode cc pc = .ok (.pop, 1)) (hc : va.category = 1) (kk : ZW G X sh ad h k n lv (pc + 1) (st)) : ZW G X sh ad h k n lv pc (va :: st) := by
  obtain ⟨p, l, e, R, s, m, args, below, meth, c, A, Q⟩ := X
  obtain ⟨hx, hb, hml, hown, hts, hK, hA, hN, hl0, hR0, hlk, hO⟩ := hX
  exact fun H locs ls hP hD hS hl => lv_pop hx hb hd hc (kk H locs ls hP hD hS hl)
theorem z_dup2 {va vb : Value} (hX : ZC G l0 cc Ts own nL R0 X) (hd : decode cc pc = .ok (.dup2, 1)) (hc : va.category = 1) (hc2 : vb.category = 1) (kk : ZW G X sh ad h k n lv (pc + 1) (va :: vb :: va :: vb :: st)) : ZW G X sh ad h k n lv pc (va :: vb :: st) := by
  obtain ⟨p, l, e, R, s, m, args, below, meth, c, A, Q⟩ := X
  obtain ⟨hx, hb, hml, hown, hts, hK, hA, hN, hl0, hR0, hlk, hO⟩ := hX
  exact fun H locs ls hP hD hS hl => lv_dup2_11 hx hb hd hc hc2 (kk H locs ls hP hD hS hl)
theorem z_goto {off : Int} {tgt : Nat} (hX : ZC G l0 cc Ts own nL R0 X) (hd : decode cc pc = .ok (.goto off, 3)) (ht : (pc : Int) + off = (tgt : Int)) (kk : ZW G X sh ad h k n lv tgt (st)) : ZW G X sh ad h k n lv pc (st) := by
  obtain ⟨p, l, e, R, s, m, args, below, meth, c, A, Q⟩ := X
  obtain ⟨hx, hb, hml, hown, hts, hK, hA, hN, hl0, hR0, hlk, hO⟩ := hX
  exact fun H locs ls hP hD hS hl => lv_goto hx hb hd ht (kk H locs ls hP hD hS hl)
theorem z_icmp_eq {x y x1 y1 : Int} {off : Int} {tgt : Nat} {α : Type} {B1 B2 : Option α} {o : α} (hX : ZC G l0 cc Ts own nL R0 X) (hd : decode cc pc = .ok (.if_icmp .eq off, 3)) (ht : (pc : Int) + off = (tgt : Int)) (h1 : wr x = x1) (h2 : wr y = y1) (hr : (if x1 = y1 then B1 else B2) = some o) (kt : B1 = some o → ZW G X sh ad h k n lv tgt (st)) (kf : B2 = some o → ZW G X sh ad h k n lv (pc + 3) (st)) : ZW G X sh ad h k n lv pc (.int (iI y) :: .int (iI x) :: st) := by
  obtain ⟨p, l, e, R, s, m, args, below, meth, c, A, Q⟩ := X
  obtain ⟨hx, hb, hml, hown, hts, hK, hA, hN, hl0, hR0, hlk, hO⟩ := hX
  subst h1; subst h2
  refine fun H locs ls hP hD hS hl => lv_icmp_eq hx hb hd ht (fun hc => ?_) (fun hc => ?_)
  · exact kt (by rw [if_pos (by simpa [iI_eq, iI_lt, iI_le] using hc)] at hr; exact hr) H locs ls hP hD hS hl
  · exact kf (by rw [if_neg (by simpa [iI_eq, iI_lt, iI_le] using hc)] at hr; exact hr) H locs ls hP hD hS hl
theorem z_if_eq {x x1 : Int} {off : Int} {tgt : Nat} {α : Type} {B1 B2 : Option α} {o : α} (hX : ZC G l0 cc Ts own nL R0 X) (hd : decode cc pc = .ok (.ifCond .eq off, 3)) (ht : (pc : Int) + off = (tgt : Int)) (h1 : wr x = x1) (hr : (if x1 = 0 then B1 else B2) = some o) (kt : B1 = some o → ZW G X sh ad h k n lv tgt (st)) (kf : B2 = some o → ZW G X sh ad h k n lv (pc + 3) (st)) : ZW G X sh ad h k n lv pc (.int (iI x) :: st) := by
  obtain ⟨p, l, e, R, s, m, args, below, meth, c, A, Q⟩ := X
  obtain ⟨hx, hb, hml, hown, hts, hK, hA, hN, hl0, hR0, hlk, hO⟩ := hX
  subst h1
  have e0 : (0 : Int32) = iI 0 := rfl
  have w0 : wr 0 = 0 := wr_of (by omega) (by omega)
  refine fun H locs ls hP hD hS hl => lv_if_eq hx hb hd ht (fun hc => ?_) (fun hc => ?_)
  · exact kt (by rw [if_pos (by simpa [e0, iI_eq, iI_lt, iI_le, w0] using hc)] at hr; exact hr) H locs ls hP hD hS hl
  · exact kf (by rw [if_neg (by simpa [e0, iI_eq, iI_lt, iI_le, w0] using hc)] at hr; exact hr) H locs ls hP hD hS hl
theorem z_icmp_ne {x y x1 y1 : Int} {off : Int} {tgt : Nat} {α : Type} {B1 B2 : Option α} {o : α} (hX : ZC G l0 cc Ts own nL R0 X) (hd : decode cc pc = .ok (.if_icmp .ne off, 3)) (ht : (pc : Int) + off = (tgt : Int)) (h1 : wr x = x1) (h2 : wr y = y1) (hr : (if x1 = y1 then B2 else B1) = some o) (kt : B1 = some o → ZW G X sh ad h k n lv tgt (st)) (kf : B2 = some o → ZW G X sh ad h k n lv (pc + 3) (st)) : ZW G X sh ad h k n lv pc (.int (iI y) :: .int (iI x) :: st) := by
  obtain ⟨p, l, e, R, s, m, args, below, meth, c, A, Q⟩ := X
  obtain ⟨hx, hb, hml, hown, hts, hK, hA, hN, hl0, hR0, hlk, hO⟩ := hX
  subst h1; subst h2
  refine fun H locs ls hP hD hS hl => lv_icmp_ne hx hb hd ht (fun hc => ?_) (fun hc => ?_)
  · exact kt (by rw [if_neg (by simpa [iI_eq, iI_lt, iI_le] using hc)] at hr; exact hr) H locs ls hP hD hS hl
  · exact kf (by rw [if_pos (by simpa [iI_eq, iI_lt, iI_le] using hc)] at hr; exact hr) H locs ls hP hD hS hl
theorem z_if_ne {x x1 : Int} {off : Int} {tgt : Nat} {α : Type} {B1 B2 : Option α} {o : α} (hX : ZC G l0 cc Ts own nL R0 X) (hd : decode cc pc = .ok (.ifCond .ne off, 3)) (ht : (pc : Int) + off = (tgt : Int)) (h1 : wr x = x1) (hr : (if x1 = 0 then B2 else B1) = some o) (kt : B1 = some o → ZW G X sh ad h k n lv tgt (st)) (kf : B2 = some o → ZW G X sh ad h k n lv (pc + 3) (st)) : ZW G X sh ad h k n lv pc (.int (iI x) :: st) := by
  obtain ⟨p, l, e, R, s, m, args, below, meth, c, A, Q⟩ := X
  obtain ⟨hx, hb, hml, hown, hts, hK, hA, hN, hl0, hR0, hlk, hO⟩ := hX
  subst h1
  have e0 : (0 : Int32) = iI 0 := rfl
  have w0 : wr 0 = 0 := wr_of (by omega) (by omega)
  refine fun H locs ls hP hD hS hl => lv_if_ne hx hb hd ht (fun hc => ?_) (fun hc => ?_)
  · exact kt (by rw [if_neg (by simpa [e0, iI_eq, iI_lt, iI_le, w0] using hc)] at hr; exact hr) H locs ls hP hD hS hl
  · exact kf (by rw [if_pos (by simpa [e0, iI_eq, iI_lt, iI_le, w0] using hc)] at hr; exact hr) H locs ls hP hD hS hl
theorem z_icmp_lt {x y x1 y1 : Int} {off : Int} {tgt : Nat} {α : Type} {B1 B2 : Option α} {o : α} (hX : ZC G l0 cc Ts own nL R0 X) (hd : decode cc pc = .ok (.if_icmp .lt off, 3)) (ht : (pc : Int) + off = (tgt : Int)) (h1 : wr x = x1) (h2 : wr y = y1) (hr : (if x1 < y1 then B1 else B2) = some o) (kt : B1 = some o → ZW G X sh ad h k n lv tgt (st)) (kf : B2 = some o → ZW G X sh ad h k n lv (pc + 3) (st)) : ZW G X sh ad h k n lv pc (.int (iI y) :: .int (iI x) :: st) := by
  obtain ⟨p, l, e, R, s, m, args, below, meth, c, A, Q⟩ := X
  obtain ⟨hx, hb, hml, hown, hts, hK, hA, hN, hl0, hR0, hlk, hO⟩ := hX
  subst h1; subst h2
  refine fun H locs ls hP hD hS hl => lv_icmp_lt hx hb hd ht (fun hc => ?_) (fun hc => ?_)
  · exact kt (by rw [if_pos (by simpa [iI_eq, iI_lt, iI_le] using hc)] at hr; exact hr) H locs ls hP hD hS hl
  · exact kf (by rw [if_neg (by simpa [iI_eq, iI_lt, iI_le] using hc)] at hr; exact hr) H locs ls hP hD hS hl
theorem z_if_lt {x x1 : Int} {off : Int} {tgt : Nat} {α : Type} {B1 B2 : Option α} {o : α} (hX : ZC G l0 cc Ts own nL R0 X) (hd : decode cc pc = .ok (.ifCond .lt off, 3)) (ht : (pc : Int) + off = (tgt : Int)) (h1 : wr x = x1) (hr : (if x1 < 0 then B1 else B2) = some o) (kt : B1 = some o → ZW G X sh ad h k n lv tgt (st)) (kf : B2 = some o → ZW G X sh ad h k n lv (pc + 3) (st)) : ZW G X sh ad h k n lv pc (.int (iI x) :: st) := by
  obtain ⟨p, l, e, R, s, m, args, below, meth, c, A, Q⟩ := X
  obtain ⟨hx, hb, hml, hown, hts, hK, hA, hN, hl0, hR0, hlk, hO⟩ := hX
  subst h1
  have e0 : (0 : Int32) = iI 0 := rfl
  have w0 : wr 0 = 0 := wr_of (by omega) (by omega)
  refine fun H locs ls hP hD hS hl => lv_if_lt hx hb hd ht (fun hc => ?_) (fun hc => ?_)
  · exact kt (by rw [if_pos (by simpa [e0, iI_eq, iI_lt, iI_le, w0] using hc)] at hr; exact hr) H locs ls hP hD hS hl
  · exact kf (by rw [if_neg (by simpa [e0, iI_eq, iI_lt, iI_le, w0] using hc)] at hr; exact hr) H locs ls hP hD hS hl
theorem z_icmp_ge {x y x1 y1 : Int} {off : Int} {tgt : Nat} {α : Type} {B1 B2 : Option α} {o : α} (hX : ZC G l0 cc Ts own nL R0 X) (hd : decode cc pc = .ok (.if_icmp .ge off, 3)) (ht : (pc : Int) + off = (tgt : Int)) (h1 : wr x = x1) (h2 : wr y = y1) (hr : (if y1 ≤ x1 then B1 else B2) = some o) (kt : B1 = some o → ZW G X sh ad h k n lv tgt (st)) (kf : B2 = some o → ZW G X sh ad h k n lv (pc + 3) (st)) : ZW G X sh ad h k n lv pc (.int (iI y) :: .int (iI x) :: st) := by
  obtain ⟨p, l, e, R, s, m, args, below, meth, c, A, Q⟩ := X
  obtain ⟨hx, hb, hml, hown, hts, hK, hA, hN, hl0, hR0, hlk, hO⟩ := hX
  subst h1; subst h2
  refine fun H locs ls hP hD hS hl => lv_icmp_ge hx hb hd ht (fun hc => ?_) (fun hc => ?_)
  · exact kt (by rw [if_pos (by simpa [iI_eq, iI_lt, iI_le] using hc)] at hr; exact hr) H locs ls hP hD hS hl
  · exact kf (by rw [if_neg (by simpa [iI_eq, iI_lt, iI_le] using hc)] at hr; exact hr) H locs ls hP hD hS hl
theorem z_if_ge {x x1 : Int} {off : Int} {tgt : Nat} {α : Type} {B1 B2 : Option α} {o : α} (hX : ZC G l0 cc Ts own nL R0 X) (hd : decode cc pc = .ok (.ifCond .ge off, 3)) (ht : (pc : Int) + off = (tgt : Int)) (h1 : wr x = x1) (hr : (if 0 ≤ x1 then B1 else B2) = some o) (kt : B1 = some o → ZW G X sh ad h k n lv tgt (st)) (kf : B2 = some o → ZW G X sh ad h k n lv (pc + 3) (st)) : ZW G X sh ad h k n lv pc (.int (iI x) :: st) := by
  obtain ⟨p, l, e, R, s, m, args, below, meth, c, A, Q⟩ := X
  obtain ⟨hx, hb, hml, hown, hts, hK, hA, hN, hl0, hR0, hlk, hO⟩ := hX
  subst h1
  have e0 : (0 : Int32) = iI 0 := rfl
  have w0 : wr 0 = 0 := wr_of (by omega) (by omega)
  refine fun H locs ls hP hD hS hl => lv_if_ge hx hb hd ht (fun hc => ?_) (fun hc => ?_)
  · exact kt (by rw [if_pos (by simpa [e0, iI_eq, iI_lt, iI_le, w0] using hc)] at hr; exact hr) H locs ls hP hD hS hl
  · exact kf (by rw [if_neg (by simpa [e0, iI_eq, iI_lt, iI_le, w0] using hc)] at hr; exact hr) H locs ls hP hD hS hl
theorem z_icmp_gt {x y x1 y1 : Int} {off : Int} {tgt : Nat} {α : Type} {B1 B2 : Option α} {o : α} (hX : ZC G l0 cc Ts own nL R0 X) (hd : decode cc pc = .ok (.if_icmp .gt off, 3)) (ht : (pc : Int) + off = (tgt : Int)) (h1 : wr x = x1) (h2 : wr y = y1) (hr : (if y1 < x1 then B1 else B2) = some o) (kt : B1 = some o → ZW G X sh ad h k n lv tgt (st)) (kf : B2 = some o → ZW G X sh ad h k n lv (pc + 3) (st)) : ZW G X sh ad h k n lv pc (.int (iI y) :: .int (iI x) :: st) := by
  obtain ⟨p, l, e, R, s, m, args, below, meth, c, A, Q⟩ := X
  obtain ⟨hx, hb, hml, hown, hts, hK, hA, hN, hl0, hR0, hlk, hO⟩ := hX
  subst h1; subst h2
  refine fun H locs ls hP hD hS hl => lv_icmp_gt hx hb hd ht (fun hc => ?_) (fun hc => ?_)
  · exact kt (by rw [if_pos (by simpa [iI_eq, iI_lt, iI_le] using hc)] at hr; exact hr) H locs ls hP hD hS hl
  · exact kf (by rw [if_neg (by simpa [iI_eq, iI_lt, iI_le] using hc)] at hr; exact hr) H locs ls hP hD hS hl
theorem z_if_gt {x x1 : Int} {off : Int} {tgt : Nat} {α : Type} {B1 B2 : Option α} {o : α} (hX : ZC G l0 cc Ts own nL R0 X) (hd : decode cc pc = .ok (.ifCond .gt off, 3)) (ht : (pc : Int) + off = (tgt : Int)) (h1 : wr x = x1) (hr : (if 0 < x1 then B1 else B2) = some o) (kt : B1 = some o → ZW G X sh ad h k n lv tgt (st)) (kf : B2 = some o → ZW G X sh ad h k n lv (pc + 3) (st)) : ZW G X sh ad h k n lv pc (.int (iI x) :: st) := by
  obtain ⟨p, l, e, R, s, m, args, below, meth, c, A, Q⟩ := X
  obtain ⟨hx, hb, hml, hown, hts, hK, hA, hN, hl0, hR0, hlk, hO⟩ := hX
  subst h1
  have e0 : (0 : Int32) = iI 0 := rfl
  have w0 : wr 0 = 0 := wr_of (by omega) (by omega)
  refine fun H locs ls hP hD hS hl => lv_if_gt hx hb hd ht (fun hc => ?_) (fun hc => ?_)
  · exact kt (by rw [if_pos (by simpa [e0, iI_eq, iI_lt, iI_le, w0] using hc)] at hr; exact hr) H locs ls hP hD hS hl
  · exact kf (by rw [if_neg (by simpa [e0, iI_eq, iI_lt, iI_le, w0] using hc)] at hr; exact hr) H locs ls hP hD hS hl
theorem z_icmp_le {x y x1 y1 : Int} {off : Int} {tgt : Nat} {α : Type} {B1 B2 : Option α} {o : α} (hX : ZC G l0 cc Ts own nL R0 X) (hd : decode cc pc = .ok (.if_icmp .le off, 3)) (ht : (pc : Int) + off = (tgt : Int)) (h1 : wr x = x1) (h2 : wr y = y1) (hr : (if x1 ≤ y1 then B1 else B2) = some o) (kt : B1 = some o → ZW G X sh ad h k n lv tgt (st)) (kf : B2 = some o → ZW G X sh ad h k n lv (pc + 3) (st)) : ZW G X sh ad h k n lv pc (.int (iI y) :: .int (iI x) :: st) := by
  obtain ⟨p, l, e, R, s, m, args, below, meth, c, A, Q⟩ := X
  obtain ⟨hx, hb, hml, hown, hts, hK, hA, hN, hl0, hR0, hlk, hO⟩ := hX
  subst h1; subst h2
  refine fun H locs ls hP hD hS hl => lv_icmp_le hx hb hd ht (fun hc => ?_) (fun hc => ?_)
  · exact kt (by rw [if_pos (by simpa [iI_eq, iI_lt, iI_le] using hc)] at hr; exact hr) H locs ls hP hD hS hl
  · exact kf (by rw [if_neg (by simpa [iI_eq, iI_lt, iI_le] using hc)] at hr; exact hr) H locs ls hP hD hS hl
theorem z_if_le {x x1 : Int} {off : Int} {tgt : Nat} {α : Type} {B1 B2 : Option α} {o : α} (hX : ZC G l0 cc Ts own nL R0 X) (hd : decode cc pc = .ok (.ifCond .le off, 3)) (ht : (pc : Int) + off = (tgt : Int)) (h1 : wr x = x1) (hr : (if x1 ≤ 0 then B1 else B2) = some o) (kt : B1 = some o → ZW G X sh ad h k n lv tgt (st)) (kf : B2 = some o → ZW G X sh ad h k n lv (pc + 3) (st)) : ZW G X sh ad h k n lv pc (.int (iI x) :: st) := by
  obtain ⟨p, l, e, R, s, m, args, below, meth, c, A, Q⟩ := X
  obtain ⟨hx, hb, hml, hown, hts, hK, hA, hN, hl0, hR0, hlk, hO⟩ := hX
  subst h1
  have e0 : (0 : Int32) = iI 0 := rfl
  have w0 : wr 0 = 0 := wr_of (by omega) (by omega)
  refine fun H locs ls hP hD hS hl => lv_if_le hx hb hd ht (fun hc => ?_) (fun hc => ?_)
  · exact kt (by rw [if_pos (by simpa [e0, iI_eq, iI_lt, iI_le, w0] using hc)] at hr; exact hr) H locs ls hP hD hS hl
  · exact kf (by rw [if_neg (by simpa [e0, iI_eq, iI_lt, iI_le, w0] using hc)] at hr; exact hr) H locs ls hP hD hS hl
theorem z_iaload {a N : Nat} {i b : Int} {α : Type} {B : Option α} {o : α} (hX : ZC G l0 cc Ts own nL R0 X) (hd : decode cc pc = .ok (.iaload, 1)) (q : Nat) (hq : sh[q]? = some (a, .inl N)) (hN0 : N < 2147483648) (hb0 : (N : Int) = b) (hr : (if 0 ≤ i ∧ i < b then B else none) = some o) (kk : B = some o → ZW G X sh ad h k n lv (pc + 1) (.int (iI (h a i)) :: st)) : ZW G X sh ad h k n lv pc (.int (iI i) :: .ref (ad a) :: st) := by
  obtain ⟨p, l, e, R, s, m, args, below, meth, c, A, Q⟩ := X
  obtain ⟨hx, hb, hml, hown, hts, hK, hA, hN, hl0, hR0, hlk, hO⟩ := hX
  by_cases hg : 0 ≤ i ∧ i < b
  · rw [if_pos hg] at hr
    have kk := kk hr
    subst hb0
    refine fun H locs ls hP hD hS hl => va_iald hx hb hK hP q 0 (wz_at hq) rfl (iI_in hg hN0) hd ?_
    show W p l e R s m args below meth c H locs k n Q (F0 m (pc + 1) ls (.int (iI (h a ((iI i).toNatClampNeg : Nat))) :: st))
    rw [iI_cl hg hN0, Int.toNat_of_nonneg hg.1]
    exact kk H locs ls hP hD hS hl
  · rw [if_neg hg] at hr
    cases hr
theorem z_upd {f : Int → Int} {i v : Int} (h0 : 0 ≤ i) : upd (fun j : Nat => iI (f (j : Int))) i.toNat (iI v) = fun j : Nat => iI (if (j : Int) = i then v else f (j : Int)) := by
  funext j
  unfold upd
  by_cases hj : j = i.toNat
  · rw [if_pos hj, if_pos (by omega)]
  · rw [if_neg hj, if_neg (by omega)]
theorem z_iastore {a N : Nat} {i v b : Int} {α : Type} {B : Option α} {o : α} (hX : ZC G l0 cc Ts own nL R0 X) (hd : decode cc pc = .ok (.iastore, 1)) (q : Nat) (hq : sh[q]? = some (a, .inl N)) (hN0 : N < 2147483648) (hb0 : (N : Int) = b) (hr : (if 0 ≤ i ∧ i < b then B else none) = some o) (kk : B = some o → ZW G X sh ad (hs h a i v) k n lv (pc + 1) (st)) : ZW G X sh ad h k n lv pc (.int (iI v) :: .int (iI i) :: .ref (ad a) :: st) := by
  obtain ⟨p, l, e, R, s, m, args, below, meth, c, A, Q⟩ := X
  obtain ⟨hx, hb, hml, hown, hts, hK, hA, hN, hl0, hR0, hlk, hO⟩ := hX
  by_cases hg : 0 ≤ i ∧ i < b
  · rw [if_pos hg] at hr
    have kk := kk hr
    subst hb0
    refine fun H locs ls hP hD hS hl => va_iast hx hb hK hP hD hS q 0 (wz_at hq) rfl (iI_in hg hN0) hd (fun H1 locs1 hP1 hD1 hS1 => ?_)
    have e1 : (wz G sh ad h).set q (ad a, .inl (G.2.1, N, .inl (upd (fun j : Nat => iI (h a (j : Int))) (iI i).toNatClampNeg (iI v)))) = wz G sh ad (hs h a i v) := by
      refine wz_set hD hq ?_ (fun j hj => hs_ne _ _ _ hj)
      rw [iI_cl hg hN0, z_upd hg.1]
      unfold ze
      simp only [hs_eq]
    have hP2 : va_P G.1 vwCl ((wz G sh ad h).set q (ad a, .inl (G.2.1, N, .inl (upd (fun j : Nat => iI (h a (j : Int))) (iI i).toNatClampNeg (iI v))))) H1 := hP1
    have hD2 : va_D A ((wz G sh ad h).set q (ad a, .inl (G.2.1, N, .inl (upd (fun j : Nat => iI (h a (j : Int))) (iI i).toNatClampNeg (iI v))))) := hD1
    rw [e1] at hP2 hD2
    exact kk H1 locs1 ls hP2 hD2 hS1 hl
  · rw [if_neg hg] at hr
    cases hr
theorem z_alen {a N : Nat} (hX : ZC G l0 cc Ts own nL R0 X) (hd : decode cc pc = .ok (.arraylength, 1)) (q : Nat) (hq : sh[q]? = some (a, .inl N)) (kk : ZW G X sh ad h k n lv (pc + 1) (.int (iI (N : Int)) :: st)) : ZW G X sh ad h k n lv pc (.ref (ad a) :: st) := by
  obtain ⟨p, l, e, R, s, m, args, below, meth, c, A, Q⟩ := X
  obtain ⟨hx, hb, hml, hown, hts, hK, hA, hN, hl0, hR0, hlk, hO⟩ := hX
  exact fun H locs ls hP hD hS hl => va_alen (v := iI (N : Int)) hx hb hK hP q 0 (wz_at hq) rfl rfl hd (kk H locs ls hP hD hS hl)
/-- a field of a class of ours, by the method's words: its link, its place -/
def zFld (Ts : List Cond) (own : String) (ix ci : Nat) (C : String) (T : u_T) (N f : Nat) : Prop := (∀ w ∈ u_ws C T N, w ∈ Ts) ∧ (Cond.fieldLink own ix (T f).1 (T f).2.1 (T f).2.2.1) ∈ Ts ∧ f < N ∧ vwCl[ci]? = some (C, T, N)
theorem z_getI {a ci N f ix : Nat} {C : String} {T : u_T} {fs : List Nat} (hX : ZC G l0 cc Ts own nL R0 X) (hd : decode cc pc = .ok (.getfield ix, 3)) (hF : zFld Ts own ix ci C T N f) (q : Nat) (hq : sh[q]? = some (a, .inr (.inr (ci, fs)))) (hf : fs[f]? = some 0) (kk : ZW G X sh ad h k n lv (pc + 3) (.int (iI (h a (f : Int))) :: st)) : ZW G X sh ad h k n lv pc (.ref (ad a) :: st) := by
  obtain ⟨p, l, e, R, s, m, args, below, meth, c, A, Q⟩ := X
  obtain ⟨hx, hb, hml, hown, hts, hK, hA, hN, hl0, hR0, hlk, hO⟩ := hX
  refine fun H locs ls hP hD hS hl => va_get (v := .int (iI (h a (f : Int)))) hx hb hts hF.1 hown hK hP q (wz_at hq) hF.2.2.2 f hF.2.2.1 (hts _ hF.2.1) (fun _ h9 => h9) ?_ hd (kk H locs ls hP hD hS hl)
  rw [zf_at ad (h a) fs 0 f 0 hf, Int.zero_add]
  rfl
theorem z_getR {a j ci N f ix : Nat} {C : String} {T : u_T} {fs : List Nat} (hX : ZC G l0 cc Ts own nL R0 X) (hd : decode cc pc = .ok (.getfield ix, 3)) (hF : zFld Ts own ix ci C T N f) (q : Nat) (hq : sh[q]? = some (a, .inr (.inr (ci, fs)))) (hf : fs[f]? = some (j + 2)) (kk : ZW G X sh ad h k n lv (pc + 3) (.ref (ad j) :: st)) : ZW G X sh ad h k n lv pc (.ref (ad a) :: st) := by
  obtain ⟨p, l, e, R, s, m, args, below, meth, c, A, Q⟩ := X
  obtain ⟨hx, hb, hml, hown, hts, hK, hA, hN, hl0, hR0, hlk, hO⟩ := hX
  refine fun H locs ls hP hD hS hl => va_get (v := .ref (ad j)) hx hb hts hF.1 hown hK hP q (wz_at hq) hF.2.2.2 f hF.2.2.1 (hts _ hF.2.1) (fun _ h9 => h9) ?_ hd (kk H locs ls hP hD hS hl)
  rw [zf_at ad (h a) fs 0 f (j + 2) hf]
  rfl
def zFldN (Ts : List Cond) (own : String) (ix ci : Nat) (C : String) (T : u_T) (N f : Nat) (host : String) : Prop := (∀ w ∈ u_ws C T N, w ∈ Ts) ∧ (∀ U, zN U → va_Nw (Cond.fieldLinkNest own ix (T f).1 (T f).2.1 (T f).2.2.1 host) U) ∧ f < N ∧ vwCl[ci]? = some (C, T, N)
theorem z_getIN {a ci N f ix : Nat} {C host : String} {T : u_T} {fs : List Nat} (hX : ZC G l0 cc Ts own nL R0 X) (hd : decode cc pc = .ok (.getfield ix, 3)) (hF : zFldN Ts own ix ci C T N f host) (q : Nat) (hq : sh[q]? = some (a, .inr (.inr (ci, fs)))) (hf : fs[f]? = some 0) (kk : ZW G X sh ad h k n lv (pc + 3) (.int (iI (h a (f : Int))) :: st)) : ZW G X sh ad h k n lv pc (.ref (ad a) :: st) := by
  obtain ⟨p, l, e, R, s, m, args, below, meth, c, A, Q⟩ := X
  obtain ⟨hx, hb, hml, hown, hts, hK, hA, hN, hl0, hR0, hlk, hO⟩ := hX
  refine fun H locs ls hP hD hS hl => va_getN (v := .int (iI (h a (f : Int)))) hx hb hts hF.1 hown hK hP q (wz_at hq) hF.2.2.2 f hF.2.2.1 (va_Nw.use rfl (hF.2.1 _ hN)) (fun _ h9 => h9) ?_ hd (kk H locs ls hP hD hS hl)
  rw [zf_at ad (h a) fs 0 f 0 hf, Int.zero_add]
  rfl
theorem z_getRN {a j ci N f ix : Nat} {C host : String} {T : u_T} {fs : List Nat} (hX : ZC G l0 cc Ts own nL R0 X) (hd : decode cc pc = .ok (.getfield ix, 3)) (hF : zFldN Ts own ix ci C T N f host) (q : Nat) (hq : sh[q]? = some (a, .inr (.inr (ci, fs)))) (hf : fs[f]? = some (j + 2)) (kk : ZW G X sh ad h k n lv (pc + 3) (.ref (ad j) :: st)) : ZW G X sh ad h k n lv pc (.ref (ad a) :: st) := by
  obtain ⟨p, l, e, R, s, m, args, below, meth, c, A, Q⟩ := X
  obtain ⟨hx, hb, hml, hown, hts, hK, hA, hN, hl0, hR0, hlk, hO⟩ := hX
  refine fun H locs ls hP hD hS hl => va_getN (v := .ref (ad j)) hx hb hts hF.1 hown hK hP q (wz_at hq) hF.2.2.2 f hF.2.2.1 (va_Nw.use rfl (hF.2.1 _ hN)) (fun _ h9 => h9) ?_ hd (kk H locs ls hP hD hS hl)
  rw [zf_at ad (h a) fs 0 f (j + 2) hf]
  rfl
/-- a field that may be written: its types, no two of one name, not final -/
def zPut (T : u_T) (N f : Nat) (ty0 : Nat → FieldType) (ty : FieldType) : Prop := (∀ k, k < N → parseFieldDescriptor (T k).2.2.1 = some (ty0 k)) ∧ (∀ a, a < N → ∀ b, b < N → a ≠ b → (T a).2.1 ≠ (T b).2.1) ∧ (T f).2.2.2 = false ∧ parseFieldDescriptor (T f).2.2.1 = some ty
theorem z_putG {a ci N f ix : Nat} {C : String} {T : u_T} {fs : List Nat} {v : Int} {ty0 : Nat → FieldType} {ty : FieldType} (hX : ZC G l0 cc Ts own nL R0 X) (hd : decode cc pc = .ok (.putfield ix, 3)) (hF : zFld Ts own ix ci C T N f) (hU : zPut T N f ty0 ty) (hn : narrow ty (.int (iI v)) = .int (iI v)) (hfit : fits ty (.int (iI v)) = true) (q : Nat) (hq : sh[q]? = some (a, .inr (.inr (ci, fs)))) (hf : fs[f]? = some 0) (kk : ZW G X sh ad (hs h a (f : Int) v) k n lv (pc + 3) (st)) : ZW G X sh ad h k n lv pc (.int (iI v) :: .ref (ad a) :: st) := by
  obtain ⟨p, l, e, R, s, m, args, below, meth, c, A, Q⟩ := X
  obtain ⟨hx, hb, hml, hown, hts, hK, hA, hN, hl0, hR0, hlk, hO⟩ := hX
  have hl0 : f < fs.length := (List.getElem?_eq_some_iff.mp hf).1
  refine fun H locs ls hP hD hS hl => va_put (v := .int (iI v)) (ty := ty) hx hb hts hF.1 ty0 hU.1 hU.2.1 hown hK hP hD hS q (wz_at hq) hF.2.2.2 f hF.2.2.1 (hts _ hF.2.1) (fun _ h9 => h9) hU.2.2.1 hU.2.2.2 hn hfit (by rw [zf_len]; exact hl0) hd (fun H1 locs1 hP1 hD1 hS1 => ?_)
  have e1 : (wz G sh ad h).set q (ad a, .inr (ci, (zf ad (h a) 0 fs).set f (.int (iI v)))) = wz G sh ad (hs h a (f : Int) v) := by
    refine wz_set hD hq ?_ (fun j hj => hs_ne _ _ _ hj)
    unfold ze
    simp only
    rw [zf_set ad (g := h a) (g1 := hs h a (f : Int) v a) v fs 0 f hf (by rw [hs_eq]; simp) (fun j hj => by rw [hs_eq]; simp only; rw [if_neg (by simpa using hj)])]
  have hP2 : va_P G.1 vwCl ((wz G sh ad h).set q (ad a, .inr (ci, (zf ad (h a) 0 fs).set f (.int (iI v))))) H1 := hP1
  have hD2 : va_D A ((wz G sh ad h).set q (ad a, .inr (ci, (zf ad (h a) 0 fs).set f (.int (iI v))))) := hD1
  rw [e1] at hP2 hD2
  exact kk H1 locs1 ls hP2 hD2 hS1 hl
theorem z_putI {a ci N f ix : Nat} {C : String} {T : u_T} {fs : List Nat} {v : Int} {ty0 : Nat → FieldType} (hX : ZC G l0 cc Ts own nL R0 X) (hd : decode cc pc = .ok (.putfield ix, 3)) (hF : zFld Ts own ix ci C T N f) (hU : zPut T N f ty0 .int) (q : Nat) (hq : sh[q]? = some (a, .inr (.inr (ci, fs)))) (hf : fs[f]? = some 0) (kk : ZW G X sh ad (hs h a (f : Int) v) k n lv (pc + 3) (st)) : ZW G X sh ad h k n lv pc (.int (iI v) :: .ref (ad a) :: st) := z_putG hX hd hF hU rfl rfl q hq hf kk
theorem z_putZ {a ci N f ix : Nat} {C : String} {T : u_T} {fs : List Nat} {v : Int} {ty0 : Nat → FieldType} {α : Type} {B : Option α} {o : α} (hX : ZC G l0 cc Ts own nL R0 X) (hd : decode cc pc = .ok (.putfield ix, 3)) (hF : zFld Ts own ix ci C T N f) (hU : zPut T N f ty0 .boolean) (q : Nat) (hq : sh[q]? = some (a, .inr (.inr (ci, fs)))) (hf : fs[f]? = some 0) (hr : (if v = 0 ∨ v = 1 then B else none) = some o) (kk : B = some o → ZW G X sh ad (hs h a (f : Int) v) k n lv (pc + 3) (st)) : ZW G X sh ad h k n lv pc (.int (iI v) :: .ref (ad a) :: st) := by
  by_cases hv : v = 0 ∨ v = 1
  · rw [if_pos hv] at hr
    refine z_putG hX hd hF hU ?_ ?_ q hq hf (kk hr)
    · rcases hv with rfl | rfl <;> rfl
    · rcases hv with rfl | rfl <;> rfl
  · rw [if_neg hv] at hr
    cases hr
theorem z_widen {k1 n1 : Nat} (h1 : k ≤ k1) (h2 : n ≤ n1) (kk : ZW G X sh ad h k1 n1 lv pc (st)) : ZW G X sh ad h k n lv pc (st) := by
  obtain ⟨p, l, e, R, s, m, args, below, meth, c, A, Q⟩ := X
  exact fun H locs ls hP hD hS hl => W.widen h1 h2 (kk H locs ls hP hD hS hl)
theorem z_lv {lv1 : List (Nat × Value)} (ks : List Nat) (he : lv_pick lv ks = lv1) (kk : ZW G X sh ad h k n lv1 pc (st)) : ZW G X sh ad h k n lv pc (st) := by
  obtain ⟨p, l, e, R, s, m, args, below, meth, c, A, Q⟩ := X
  exact fun H locs ls hP hD hS hl => kk H locs ls hP hD hS (lv_sub hl ks he)
theorem z_none {α : Type} {o : α} {P : Prop} (h : (none : Option α) = some o) : P := by cases h
theorem z_bind {α β : Type} {x : Option α} {f : α → Option β} {o : β} (h : x.bind f = some o) : ∃ a, x = some a ∧ f a = some o := Option.bind_eq_some_iff.mp h
theorem z_ifp {α : Type} {c : Prop} {A B : Option α} {o : α} {i : Decidable c} (hr : (@ite _ c i A B) = some o) (hc : c) : A = some o := by rw [if_pos hc] at hr; exact hr
theorem z_ifn {α : Type} {c : Prop} {A B : Option α} {o : α} {i : Decidable c} (hr : (@ite _ c i A B) = some o) (hc : ¬ c) : B = some o := by rw [if_neg hc] at hr; exact hr
theorem z_ifg {α : Type} {c : Prop} {A : Option α} {o : α} {i : Decidable c} (hr : (@ite _ c i A none) = some o) : c ∧ A = some o := by
  by_cases hc : c
  · exact ⟨hc, z_ifp hr hc⟩
  · have := z_ifn hr hc
    cases this
theorem z_tableIn {x v dflt lo hi off : Int} {offs : Array Int} {len tgt : Nat} (hX : ZC G l0 cc Ts own nL R0 X) (hd : decode cc pc = .ok (.tableswitch dflt lo hi offs, len)) (hv : wr x = v) (h1 : ¬ v < lo) (h2 : ¬ hi < v) (ho : offs[(v - lo).toNat]? = some off) (ht : (pc : Int) + off = (tgt : Int)) (kk : ZW G X sh ad h k n lv tgt (st)) : ZW G X sh ad h k n lv pc (.int (iI x) :: st) := by
  obtain ⟨p, l, e, R, s, m, args, below, meth, c, A, Q⟩ := X
  obtain ⟨hx, hb, hml, hown, hts, hK, hA, hN, hl0, hR0, hlk, hO⟩ := hX
  subst hv
  exact fun H locs ls hP hD hS hl => lv_tableIn hx hb hd h1 h2 ho ht (kk H locs ls hP hD hS hl)
theorem z_tableOut {x dflt lo hi : Int} {offs : Array Int} {len tgt : Nat} (hX : ZC G l0 cc Ts own nL R0 X) (hd : decode cc pc = .ok (.tableswitch dflt lo hi offs, len)) (hv : wr x < lo ∨ hi < wr x) (ht : (pc : Int) + dflt = (tgt : Int)) (kk : ZW G X sh ad h k n lv tgt (st)) : ZW G X sh ad h k n lv pc (.int (iI x) :: st) := by
  obtain ⟨p, l, e, R, s, m, args, below, meth, c, A, Q⟩ := X
  obtain ⟨hx, hb, hml, hown, hts, hK, hA, hN, hl0, hR0, hlk, hO⟩ := hX
  exact fun H locs ls hP hD hS hl => lv_tableOut hx hb hd hv ht (kk H locs ls hP hD hS hl)
def zor (x y : Int) : Int := (iI x ||| iI y).toInt
def zmin (x y : Int) : Int := if wr y < wr x then y else x
theorem z_ior {x y : Int} (hX : ZC G l0 cc Ts own nL R0 X) (hd : decode cc pc = .ok (.ior, 1)) (kk : ZW G X sh ad h k n lv (pc + 1) (.int (iI (zor x y)) :: st)) : ZW G X sh ad h k n lv pc (.int (iI y) :: .int (iI x) :: st) := by
  obtain ⟨p, l, e, R, s, m, args, below, meth, c, A, Q⟩ := X
  obtain ⟨hx, hb, hml, hown, hts, hK, hA, hN, hl0, hR0, hlk, hO⟩ := hX
  have e : iI (zor x y) = iI x ||| iI y := iI_as _
  exact fun H locs ls hP hD hS hl => lv_ior hx hb hd (by rw [← e]; exact kk H locs ls hP hD hS hl)
theorem z_mmin {x y : Int} {ix : Nat} (hX : ZC G l0 cc Ts own nL R0 X) (hd : decode cc pc = .ok (.invokestatic ix, 3)) (hw1 : (Cond.methodLink own ix Lib.Math.min.name) ∈ Ts) (hw2 : (Cond.static Lib.Math.min.name) ∈ Ts) (hw3 : (Cond.initialized "java/lang/Math") ∈ Ts) (hw4 : (Cond.code Lib.Math.min.name Lib.Math.min.code 2 (some .int)) ∈ Ts) (hfr : 1 ≤ R0.frames) (hlo : (st.map fun v => v.category).sum + 13 ≤ R0.locals) (hc : k ≤ R0.cells) (hs : n ≤ R0.slots) (kk : ZW G X sh ad h k n lv (pc + 3) (.int (iI (zmin x y)) :: st)) : ZW G X sh ad h k n lv pc (.int (iI y) :: .int (iI x) :: st) := by
  obtain ⟨p, l, e, R, s, m, args, below, meth, c, A, Q⟩ := X
  obtain ⟨hx, hb, hml, hown, hts, hK, hA, hN, hl0, hR0, hlk, hO⟩ := hX
  subst hR0
  have e : iI (zmin x y) = if iI y < iI x then iI y else iI x := by
    unfold zmin
    by_cases hc : wr y < wr x
    · rw [if_pos hc, if_pos ((iI_lt y x).mpr hc)]
    · rw [if_neg hc, if_neg (fun h => hc ((iI_lt y x).mp h))]
  exact fun H locs ls hP hD hS hl => va_mmin hx hb hl.1.symm hown (hts _ hw1) (hts _ hw2) (hts _ hw3) (hts _ hw4) hfr hlo hc hs hd (by rw [← e]; exact kk H locs ls hP hD hS hl)
def hcp (h : HS) (a0 : Nat) (sp : Int) (a : Nat) (dp n : Int) : HS := fun c => if c = a then (fun b => if dp ≤ b ∧ b < dp + n then h a0 (sp + (b - dp)) else h a b) else h c
theorem hcp_ne (h : HS) (a0 : Nat) (sp : Int) {a c : Nat} (dp n : Int) (e : c ≠ a) : hcp h a0 sp a dp n c = h c := by
  unfold hcp
  rw [if_neg e]
theorem hcp_eq (h : HS) (a0 : Nat) (sp : Int) (a : Nat) (dp n : Int) : hcp h a0 sp a dp n a = fun b => if dp ≤ b ∧ b < dp + n then h a0 (sp + (b - dp)) else h a b := by
  unfold hcp
  rw [if_pos rfl]
theorem zfr_hcp {Wr : List Nat} {h h1 : HS} {a0 a : Nat} {sp dp n : Int} (hf : zfr Wr h h1) (hi : a ∈ Wr) : zfr Wr h (hcp h1 a0 sp a dp n) := fun j hj => by
  have hne : j ≠ a := fun e => hj (by rw [e]; exact hi)
  rw [hcp_ne _ _ _ _ _ hne]
  exact hf j hj
theorem iI_nneg {x : Int} (h : 0 ≤ x) (h2 : x < 2147483648) : ¬ iI x < 0 := by
  intro e
  have e2 : iI x < iI 0 := e
  rw [iI_lt, wr_of (by omega) (by omega), wr_of (by omega) (by omega)] at e2
  omega
theorem iI_clN {x : Int} (h : 0 ≤ x) (h2 : x < 2147483648) : (iI x).toNatClampNeg = x.toNat := by
  rw [iI_of0 h]
  exact nI_clamp (by omega)
theorem z_copyi {a0 a N0 N1 : Nat} {sp dp mm b0 b1 : Int} {ix : Nat} {α : Type} {B : Option α} {o : α} (hX : ZC G l0 cc Ts own nL R0 X) (hd : decode cc pc = .ok (.invokestatic ix, 3)) (q0 q1 : Nat) (hq0 : sh[q0]? = some (a0, .inl N0)) (hq1 : sh[q1]? = some (a, .inl N1)) (hN0 : N0 < 2147483648) (hN1 : N1 < 2147483648) (hb0 : (N0 : Int) = b0) (hb1 : (N1 : Int) = b1) (hw1 : (Cond.methodLink own ix arraycopyName) ∈ Ts) (hw2 : (Cond.native arraycopyName) ∈ Ts) (hw3 : (Cond.static arraycopyName) ∈ Ts) (hw4 : (Cond.initialized "java/lang/System") ∈ Ts) (hfr : 1 ≤ R0.frames) (hlo : (st.map fun v => v.category).sum + (nativeFrameWords "java/lang/System" "arraycopy" 5 + 11) ≤ R0.locals) (hr : (if 0 ≤ sp ∧ 0 ≤ dp ∧ 0 ≤ mm ∧ sp + mm ≤ b0 ∧ dp + mm ≤ b1 then B else none) = some o) (kk : B = some o → ZW G X sh ad (hcp h a0 sp a dp mm) k n lv (pc + 3) (st)) : ZW G X sh ad h k n lv pc (.int (iI mm) :: .int (iI dp) :: .ref (ad a) :: .int (iI sp) :: .ref (ad a0) :: st) := by
  obtain ⟨p, l, e, R, s, m, args, below, meth, c, A, Q⟩ := X
  obtain ⟨hx, hb, hml, hown, hts, hK, hA, hN, hl0, hR0, hlk, hO⟩ := hX
  by_cases hg : 0 ≤ sp ∧ 0 ≤ dp ∧ 0 ≤ mm ∧ sp + mm ≤ b0 ∧ dp + mm ≤ b1
  · rw [if_pos hg] at hr
    have kk := kk hr
    subst hb0
    subst hb1
    subst hR0
    obtain ⟨g1, g2, g3, g4, g5⟩ := hg
    have c1 := iI_clN g1 (by omega)
    have c2 := iI_clN g2 (by omega)
    have c3 := iI_clN g3 (by omega)
    refine fun H locs ls hP hD hS hl => va_copyi (ty := .int) (c0 := G.2.1) (c1 := G.2.1) (n0 := N0) (n1 := N1) (f := fun j : Nat => iI (h a0 (j : Int))) (g := fun j : Nat => iI (h a (j : Int))) hx hb hl.1.symm hown (hts _ hw1) (hts _ hw2) (hts _ hw3) (hts _ hw4) hK hP hD hS q0 q1 0 0 (wz_at hq0) (wz_at hq1) rfl rfl rfl (iI_nneg g1 (by omega)) (iI_nneg g2 (by omega)) (iI_nneg g3 (by omega)) (by rw [c1, c3]; omega) (by rw [c2, c3]; omega) (fun _ _ => rfl) hfr hlo hd (fun H1 locs1 hP1 hD1 hS1 => ?_)
    have e1 : (wz G sh ad h).set q1 (ad a, .inl (G.2.1, N1, .inl (va_cpy (fun j : Nat => iI (h a0 (j : Int))) (fun j : Nat => iI (h a (j : Int))) (iI sp).toNatClampNeg (iI dp).toNatClampNeg (iI mm).toNatClampNeg))) = wz G sh ad (hcp h a0 sp a dp mm) := by
      refine wz_set hD hq1 ?_ (fun j hj => hcp_ne _ _ _ _ _ hj)
      rw [c1, c2, c3]
      unfold ze
      simp only [hcp_eq]
      congr 4
      funext j
      unfold va_cpy
      by_cases hj : dp.toNat ≤ j ∧ j < dp.toNat + mm.toNat
      · rw [if_pos hj, if_pos (by omega)]
        congr 2
        omega
      · rw [if_neg hj, if_neg (by omega)]
    have hP2 : va_P G.1 vwCl ((wz G sh ad h).set q1 (ad a, .inl (G.2.1, N1, .inl (va_cpy (fun j : Nat => iI (h a0 (j : Int))) (fun j : Nat => iI (h a (j : Int))) (iI sp).toNatClampNeg (iI dp).toNatClampNeg (iI mm).toNatClampNeg)))) H1 := hP1
    have hD2 : va_D A ((wz G sh ad h).set q1 (ad a, .inl (G.2.1, N1, .inl (va_cpy (fun j : Nat => iI (h a0 (j : Int))) (fun j : Nat => iI (h a (j : Int))) (iI sp).toNatClampNeg (iI dp).toNatClampNeg (iI mm).toNatClampNeg)))) := hD1
    rw [e1] at hP2 hD2
    exact kk H1 locs1 ls hP2 hD2 hS1 hl
  · rw [if_neg hg] at hr
    cases hr
end ZROWS
