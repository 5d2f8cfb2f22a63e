section ZSTR
variable {G : ZG} {l0 : Launch} {cc : ByteArray} {Ts : List Cond} {own : String} {nL : Nat} {R0 : Room} {X : ZX} {sh : ZS} {ad : Nat → Nat} {h : HS} {k n : Nat} {lv : List (Nat × Value)} {pc : Nat} {st : List Value}
theorem z_getF {ix : Nat} (hX : ZC G l0 cc Ts own nL R0 X) (hd : decode cc pc = .ok (.getstatic ix, 3)) (hw : (Cond.fieldLink own ix "BoardNotationModel" "FORMS" "[Ljava/lang/String;") ∈ Ts) (kk : ZW G X sh ad h k n lv (pc + 3) (.ref (G.2.2.2 3000) :: st)) : ZW G X sh ad h k n lv pc (st) := by
  obtain ⟨p, l, e, R, s, m, args, below, meth, c, A, Q⟩ := X
  obtain ⟨hx, hb, hml, hown, hts, hK, hA, hN, hl0, hR0, hlk, hO⟩ := hX
  exact fun H locs ls hP hD hS hl => va_gets hx hb hO.1 hS hown (hts _ hw) (fun _ h9 => h9) hd (kk H locs ls hP hD hS hl)
theorem z_getCS {ix : Nat} (hX : ZC G l0 cc Ts own nL R0 X) (hd : decode cc pc = .ok (.getstatic ix, 3)) (hw : (Cond.fieldLink own ix "java/lang/String" "COMPACT_STRINGS" "Z") ∈ Ts) (kk : ZW G X sh ad h k n lv (pc + 3) (.int (iI 1) :: st)) : ZW G X sh ad h k n lv pc (st) := by
  obtain ⟨p, l, e, R, s, m, args, below, meth, c, A, Q⟩ := X
  obtain ⟨hx, hb, hml, hown, hts, hK, hA, hN, hl0, hR0, hlk, hO⟩ := hX
  exact fun H locs ls hP hD hS hl => va_gets hx hb hO.2.2.2.1 hS hown (hts _ hw) (fun _ h9 => h9) hd (kk H locs ls hP hD hS hl)
theorem z_getQ {ix : Nat} (hX : ZC G l0 cc Ts own nL R0 X) (hd : decode cc pc = .ok (.getstatic ix, 3)) (hw : (Cond.fieldLink own ix "jdk/internal/util/Preconditions" "SIOOBE_FORMATTER" "Ljava/util/function/BiFunction;") ∈ Ts) (k1 : ZW G X sh ad h k n lv (pc + 3) (.null :: st)) (k2 : ∀ t0 : Nat, ZW G X sh ad h k n lv (pc + 3) (.ref t0 :: st)) : ZW G X sh ad h k n lv pc (st) := by
  obtain ⟨p, l, e, R, s, m, args, below, meth, c, A, Q⟩ := X
  obtain ⟨hx, hb, hml, hown, hts, hK, hA, hN, hl0, hR0, hlk, hO⟩ := hX
  rcases hO.2.2.2.2.2.2 with hz | ⟨t0, hz⟩
  · exact fun H locs ls hP hD hS hl => va_gets hx hb hz hS hown (hts _ hw) (fun _ h9 => h9) hd (k1 H locs ls hP hD hS hl)
  · exact fun H locs ls hP hD hS hl => va_gets hx hb hz hS hown (hts _ hw) (fun _ h9 => h9) hd (k2 t0 H locs ls hP hD hS hl)
theorem z_aaldF {i : Int} {α : Type} {B : Option α} {o : α} (hX : ZC G l0 cc Ts own nL R0 X) (hd : decode cc pc = .ok (.aaload, 1)) (hr : (if 0 ≤ i ∧ i < 16 then B else none) = some o) (kk : B = some o → ZW G X sh ad h k n lv (pc + 1) (.ref (G.2.2.2 (1000 + i.toNat)) :: st)) : ZW G X sh ad h k n lv pc (.int (iI i) :: .ref (G.2.2.2 3000) :: st) := by
  obtain ⟨p, l, e, R, s, m, args, below, meth, c, A, Q⟩ := X
  obtain ⟨hx, hb, hml, hown, hts, hK, hA, hN, hl0, hR0, hlk, hO⟩ := hX
  by_cases hg : 0 ≤ i ∧ i < 16
  · rw [if_pos hg] at hr
    have kk := kk hr
    exact fun H locs ls hP hD hS hl => vb_tq hx hb hO.2.1 hS (iI_in (n := 16) hg (by decide)) (by rw [iI_cl (n := 16) hg (by decide)]) hd (kk H locs ls hP hD hS hl)
  · rw [if_neg hg] at hr
    cases hr
theorem z_coder {i ix : Nat} {α : Type} {B : Option α} {o : α} (hX : ZC G l0 cc Ts own nL R0 X) (hd : decode cc pc = .ok (.getfield ix, 3)) (hw : (Cond.fieldLink own ix "java/lang/String" "coder" "B") ∈ Ts) (hr : (if i < 16 then B else none) = some o) (kk : B = some o → ZW G X sh ad h k n lv (pc + 3) (.int (iI 0) :: st)) : ZW G X sh ad h k n lv pc (.ref (G.2.2.2 (1000 + i)) :: st) := by
  obtain ⟨p, l, e, R, s, m, args, below, meth, c, A, Q⟩ := X
  obtain ⟨hx, hb, hml, hown, hts, hK, hA, hN, hl0, hR0, hlk, hO⟩ := hX
  by_cases hg : i < 16
  · rw [if_pos hg] at hr
    have kk := kk hr
    exact fun H locs ls hP hD hS hl => vk_getf (v := .int (iI 0)) hx hb (hO.2.2.1.1 i hg).2.1 hS hown (hts _ hw) (fun _ h9 => h9) hd (kk H locs ls hP hD hS hl)
  · rw [if_neg hg] at hr
    cases hr
theorem z_value {i ix : Nat} {α : Type} {B : Option α} {o : α} (hX : ZC G l0 cc Ts own nL R0 X) (hd : decode cc pc = .ok (.getfield ix, 3)) (hw : (Cond.fieldLink own ix "java/lang/String" "value" "[B") ∈ Ts) (hr : (if i < 16 then B else none) = some o) (kk : B = some o → ZW G X sh ad h k n lv (pc + 3) (.ref (G.2.2.2 (2000 + i)) :: st)) : ZW G X sh ad h k n lv pc (.ref (G.2.2.2 (1000 + i)) :: st) := by
  obtain ⟨p, l, e, R, s, m, args, below, meth, c, A, Q⟩ := X
  obtain ⟨hx, hb, hml, hown, hts, hK, hA, hN, hl0, hR0, hlk, hO⟩ := hX
  by_cases hg : i < 16
  · rw [if_pos hg] at hr
    have kk := kk hr
    exact fun H locs ls hP hD hS hl => vk_getf (v := .ref (G.2.2.2 (2000 + i))) hx hb (hO.2.2.1.1 i hg).2.2.1 hS hown (hts _ hw) (fun _ h9 => h9) hd (kk H locs ls hP hD hS hl)
  · rw [if_neg hg] at hr
    cases hr
theorem z_flen  (hX : ZC G l0 cc Ts own nL R0 X) (hd : decode cc pc = .ok (.arraylength, 1)) (kk : ZW G X sh ad h k n lv (pc + 1) (.int (iI 16) :: st)) : ZW G X sh ad h k n lv pc (.ref (G.2.2.2 3000) :: st) := by
  obtain ⟨p, l, e, R, s, m, args, below, meth, c, A, Q⟩ := X
  obtain ⟨hx, hb, hml, hown, hts, hK, hA, hN, hl0, hR0, hlk, hO⟩ := hX
  exact fun H locs ls hP hD hS hl => va_tlen (v := iI 16) hx hb hO.2.1 hS rfl hd (kk H locs ls hP hD hS hl)
theorem z_narC {v : Int} (h : 0 ≤ v ∧ v < 65536) : narrow .char (.int (iI v)) = .int (iI v) := by
  rw [iI_of0 h.1]
  exact (pk_charN (by omega)).1
def zln (i : Nat) : Int := (zLen.getD i 0 : Nat)
def zbt (i : Nat) (j : Int) : Int := ((zByt.getD i []).getD j.toNat 0).toInt
theorem zln_lt : ∀ i, i < 16 → zLen.getD i 0 < 2147483648 := by decide +kernel
theorem z_blen {i : Nat} {α : Type} {B : Option α} {o : α} (hX : ZC G l0 cc Ts own nL R0 X) (hd : decode cc pc = .ok (.arraylength, 1)) (hr : (if i < 16 then B else none) = some o) (kk : B = some o → ZW G X sh ad h k n lv (pc + 1) (.int (iI (zln i)) :: st)) : ZW G X sh ad h k n lv pc (.ref (G.2.2.2 (2000 + i)) :: st) := by
  obtain ⟨p, l, e, R, s, m, args, below, meth, c, A, Q⟩ := X
  obtain ⟨hx, hb, hml, hown, hts, hK, hA, hN, hl0, hR0, hlk, hO⟩ := hX
  by_cases hg : i < 16
  · rw [if_pos hg] at hr
    have kk := kk hr
    exact fun H locs ls hP hD hS hl => va_tlen (v := iI (zln i)) hx hb (hO.2.2.1.1 i hg).2.2.2 hS rfl hd (kk H locs ls hP hD hS hl)
  · rw [if_neg hg] at hr
    cases hr
theorem z_bald {i : Nat} {j : Int} {α : Type} {B : Option α} {o : α} (hX : ZC G l0 cc Ts own nL R0 X) (hd : decode cc pc = .ok (.baload, 1)) (hr : (if i < 16 ∧ 0 ≤ j ∧ j < zln i then B else none) = some o) (kk : B = some o → ZW G X sh ad h k n lv (pc + 1) (.int (iI (zbt i j)) :: st)) : ZW G X sh ad h k n lv pc (.int (iI j) :: .ref (G.2.2.2 (2000 + i)) :: st) := by
  obtain ⟨p, l, e, R, s, m, args, below, meth, c, A, Q⟩ := X
  obtain ⟨hx, hb, hml, hown, hts, hK, hA, hN, hl0, hR0, hlk, hO⟩ := hX
  by_cases hg : i < 16 ∧ 0 ≤ j ∧ j < zln i
  · rw [if_pos hg] at hr
    have kk := kk hr
    exact fun H locs ls hP hD hS hl => va_tb (v := .int (iI (zbt i j))) hx hb (hO.2.2.1.1 i hg.1).2.2.2 hS (iI_in (n := zLen.getD i 0) hg.2 (zln_lt i hg.1)) (by rw [iI_cl (n := zLen.getD i 0) hg.2 (zln_lt i hg.1)]; unfold zbt; rw [iI_as]) hd (kk H locs ls hP hD hS hl)
  · rw [if_neg hg] at hr
    cases hr
def zand (x y : Int) : Int := (iI x &&& iI y).toInt
def zi2c (x : Int) : Int := ((iI x).toUInt32 % 65536).toInt32.toInt
def zi2b (x : Int) : Int := (iI x).toInt8.toInt32.toInt
def zshr (x y : Int) : Int := (iI x >>> (iI y &&& 31)).toInt
def zmax (x y : Int) : Int := if wr x < wr y then y else x
theorem z_iand {x y : Int} (hX : ZC G l0 cc Ts own nL R0 X) (hd : decode cc pc = .ok (.iand, 1)) (kk : ZW G X sh ad h k n lv (pc + 1) (.int (iI (zand x y)) :: st)) : ZW G X sh ad h k n lv pc (.int (iI y) :: .int (iI x) :: st) := by
  obtain ⟨p, l, e, R, s, m, args, below, meth, c, A, Q⟩ := X
  obtain ⟨hx, hb, hml, hown, hts, hK, hA, hN, hl0, hR0, hlk, hO⟩ := hX
  have e : iI (zand x y) = iI x &&& iI y := iI_as _
  exact fun H locs ls hP hD hS hl => lv_iand hx hb hd (by rw [← e]; exact kk H locs ls hP hD hS hl)
theorem z_i2c {x : Int} (hX : ZC G l0 cc Ts own nL R0 X) (hd : decode cc pc = .ok (.i2c, 1)) (kk : ZW G X sh ad h k n lv (pc + 1) (.int (iI (zi2c x)) :: st)) : ZW G X sh ad h k n lv pc (.int (iI x) :: st) := by
  obtain ⟨p, l, e, R, s, m, args, below, meth, c, A, Q⟩ := X
  obtain ⟨hx, hb, hml, hown, hts, hK, hA, hN, hl0, hR0, hlk, hO⟩ := hX
  exact fun H locs ls hP hD hS hl => lv_i2c (v := iI (zi2c x)) hx hb hd (iI_as _).symm (kk H locs ls hP hD hS hl)
theorem z_i2b {x : Int} (hX : ZC G l0 cc Ts own nL R0 X) (hd : decode cc pc = .ok (.i2b, 1)) (kk : ZW G X sh ad h k n lv (pc + 1) (.int (iI (zi2b x)) :: st)) : ZW G X sh ad h k n lv pc (.int (iI x) :: st) := by
  obtain ⟨p, l, e, R, s, m, args, below, meth, c, A, Q⟩ := X
  obtain ⟨hx, hb, hml, hown, hts, hK, hA, hN, hl0, hR0, hlk, hO⟩ := hX
  exact fun H locs ls hP hD hS hl => lv_i2b (v := iI (zi2b x)) hx hb hd (iI_as _).symm (kk H locs ls hP hD hS hl)
theorem z_ishr {x y : Int} (hX : ZC G l0 cc Ts own nL R0 X) (hd : decode cc pc = .ok (.ishr, 1)) (kk : ZW G X sh ad h k n lv (pc + 1) (.int (iI (zshr x y)) :: st)) : ZW G X sh ad h k n lv pc (.int (iI y) :: .int (iI x) :: st) := by
  obtain ⟨p, l, e, R, s, m, args, below, meth, c, A, Q⟩ := X
  obtain ⟨hx, hb, hml, hown, hts, hK, hA, hN, hl0, hR0, hlk, hO⟩ := hX
  have e : iI (zshr x y) = iI x >>> (iI y &&& 31) := iI_as _
  exact fun H locs ls hP hD hS hl => lv_ishr hx hb hd (by rw [← e]; exact kk H locs ls hP hD hS hl)
theorem z_mmax {x y : Int} {ix : Nat} (hX : ZC G l0 cc Ts own nL R0 X) (hd : decode cc pc = .ok (.invokestatic ix, 3)) (hw1 : (Cond.methodLink own ix Lib.Math.max.name) ∈ Ts) (hw2 : (Cond.static Lib.Math.max.name) ∈ Ts) (hw3 : (Cond.initialized "java/lang/Math") ∈ Ts) (hw4 : (Cond.code Lib.Math.max.name Lib.Math.max.code 2 (some .int)) ∈ Ts) (hfr : 1 ≤ R0.frames) (hlo : (st.map fun v => v.category).sum + 13 ≤ R0.locals) (hc : k ≤ R0.cells) (hs : n ≤ R0.slots) (kk : ZW G X sh ad h k n lv (pc + 3) (.int (iI (zmax x y)) :: st)) : ZW G X sh ad h k n lv pc (.int (iI y) :: .int (iI x) :: st) := by
  obtain ⟨p, l, e, R, s, m, args, below, meth, c, A, Q⟩ := X
  obtain ⟨hx, hb, hml, hown, hts, hK, hA, hN, hl0, hR0, hlk, hO⟩ := hX
  subst hR0
  have e : iI (zmax x y) = if iI x < iI y then iI y else iI x := by
    unfold zmax
    by_cases hc : wr x < wr y
    · rw [if_pos hc, if_pos ((iI_lt x y).mpr hc)]
    · rw [if_neg hc, if_neg (fun h => hc ((iI_lt x y).mp h))]
  exact fun H locs ls hP hD hS hl => va_mmax hx hb hl.1.symm hown (hts _ hw1) (hts _ hw2) (hts _ hw3) (hts _ hw4) hfr hlo hc hs hd (by rw [← e]; exact kk H locs ls hP hD hS hl)
theorem z_callT_i {y : MethodName} {ws ws1 : List Cond} {rm : Room} {shc : ZS} {Wr : List Nat} {z1 : Int} {h1 : HS} {index maxL nA k1 n1 : Nat} {bytes : ByteArray} {ret : Option FieldType} {stk : List Value} {As : List Value} {i : Nat} (hX : ZC G l0 cc Ts own nL R0 X) (hi : i < 16) (hM : ZMi G l0 y ws rm (.ref (G.2.2.2 (1000 + i)) :: As) shc ad h Wr z1 h1) (hd : decode cc pc = .ok (.invokevirtual index, 3)) (hg : GoodIn Ts (wsV own index "java/lang/String" y ws)) (hw : ws = Cond.code y bytes maxL ret :: ws1) (hy : y.cls = "java/lang/String" ∧ y.cls ≠ "java/lang/invoke/MethodHandle" ∧ y.cls ≠ "java/lang/invoke/VarHandle" ∧ (parseMethodDescriptor y.desc).map (fun d => d.parameters.length) = some nA) (hroom : rm.frames + 1 ≤ R0.frames ∧ 8 + (maxL + 11) + rm.locals ≤ R0.locals) (hcs : k + rm.cells ≤ R0.cells ∧ n + rm.slots ≤ R0.slots) (hn : As.length = nA) (hs : stk = As.reverse ++ .ref (G.2.2.2 (1000 + i)) :: st) (hcat : (st.map fun v => v.category).sum ≤ 8) (hsub0 : zsubB sh shc Wr = true) (hk1 : k + rm.cells = k1) (hn1 : n + rm.slots = n1) (kk : zfr Wr h h1 → ZW G X sh ad h1 k1 n1 lv (pc + 3) (.int (iI z1) :: st)) : ZW G X sh ad h k n lv pc stk := by
  obtain ⟨p, l, e, R, s, m, args, below, meth, c, A, Q⟩ := X
  obtain ⟨hx, hb, hml, hown, hts, hK, hA, hN, hl0, hR0, hlk, hO⟩ := hX
  subst hl0
  subst hR0
  subst hs
  have hsub := zsub_of hsub0
  subst hk1
  subst hn1
  refine fun H locs ls hP hD hS hl => ?_
  have hF := z_free hsub hD hS hA
  refine va_calli (va_runV (As := As) (rest := st) ⟨hx, hb, hml, hown, hts⟩ (hM H.size) (cwV nA hts hg hw rfl rfl hy hroom) ⟨zP_blind, vk_recv hO.2.2.1 hi hS, fun U hU hW => ⟨rfl, by rw [hU], by rw [hU]; exact z_sub hsub.1 hP, va_K.moved hW.alike hK, z_subD hsub.1 hsub.2.2 (fun _ _ => trivial) hD, hN.warm hW, by rw [hU]; exact ((hO.kept hS.2.1).narrow hF).moved hW.alike⟩⟩ rfl hn (hl.1.trans hml) rfl (lv_room hcat) hd hcs) hS (fun q _ h => hF q h) hF (fun r u t H1 locs1 ht hvm hp hB hz1 hk1 hS1 => ?_)
  obtain ⟨rfl, hf⟩ := hp
  have hB2 : va_P G.1 vwCl (wz G shc ad h1) H1 := by rw [← ht]; exact hB
  exact kk hf H1 locs1 ls (z_join hP hD hsub hf hk1 hB2) (wzD hD) hS1 hl
end ZSTR
