section ZLAW
variable {G : ZG} {l0 : Launch} {cc : ByteArray} {Ts : List Cond} {own : String} {nL : Nat} {R0 : Room} {X : ZX} {sh : ZS} {ad : Nat → Nat} {h : HS} {k n : Nat} {lv : List (Nat × Value)} {pc : Nat} {st : List Value}
/-! rows of longs -/
theorem z_updL {f : Int → Int} {i : Int} {x : Int64} (h0 : 0 ≤ i) : vp_updL (fun j : Nat => Int64.ofInt (f (j : Int))) i.toNat x = fun j : Nat => Int64.ofInt (if (j : Int) = i then x.toInt else f (j : Int)) := by
  funext j
  unfold vp_updL
  by_cases hj : j = i.toNat
  · rw [if_pos hj, if_pos (by omega), Int64.ofInt_toInt]
  · rw [if_neg hj, if_neg (by omega)]
theorem z_laload {a N : Nat} {i b : Int} {α : Type} {B : Option α} {o : α} (hX : ZC G l0 cc Ts own nL R0 X) (hd : decode cc pc = .ok (.laload, 1)) (q : Nat) (hq : sh[q]? = some (a, .inr (.inl N))) (hN0 : N < 2147483648) (hb0 : (N : Int) = b) (hr : (if 0 ≤ i ∧ i < b then B else none) = some o) (kk : B = some o → ZW G X sh ad h k n lv (pc + 1) (.long (Int64.ofInt (h a i)) :: st)) : ZW G X sh ad h k n lv pc (.int (iI i) :: .ref (ad a) :: st) := by
  obtain ⟨p, l, e, R, s, m, args, below, meth, c, A, Q⟩ := X
  obtain ⟨hx, hb, hml, hown, hts, hK, hA, hN, hl0, hR0, hlk, hO⟩ := hX
  obtain ⟨hg, hr⟩ := z_ifg hr
  have kk := kk hr
  subst hb0
  refine fun H locs ls hP hD hS hl => va_lald hx hb hK hP q 1 (wz_at hq) rfl (iI_in hg hN0) hd ?_
  show W p l e R s m args below meth c H locs k n Q (F0 m (pc + 1) ls (.long (Int64.ofInt (h a ((iI i).toNatClampNeg : Nat))) :: st))
  rw [iI_cl hg hN0, Int.toNat_of_nonneg hg.1]
  exact kk H locs ls hP hD hS hl
theorem z_lastore {a N : Nat} {i b : Int} {x : Int64} {α : Type} {B : Option α} {o : α} (hX : ZC G l0 cc Ts own nL R0 X) (hd : decode cc pc = .ok (.lastore, 1)) (q : Nat) (hq : sh[q]? = some (a, .inr (.inl N))) (hN0 : N < 2147483648) (hb0 : (N : Int) = b) (hr : (if 0 ≤ i ∧ i < b then B else none) = some o) (kk : B = some o → ZW G X sh ad (hs h a i x.toInt) k n lv (pc + 1) st) : ZW G X sh ad h k n lv pc (.long x :: .int (iI i) :: .ref (ad a) :: st) := by
  obtain ⟨p, l, e, R, s, m, args, below, meth, c, A, Q⟩ := X
  obtain ⟨hx, hb, hml, hown, hts, hK, hA, hN, hl0, hR0, hlk, hO⟩ := hX
  obtain ⟨hg, hr⟩ := z_ifg hr
  have kk := kk hr
  subst hb0
  refine fun H locs ls hP hD hS hl => va_last hx hb hK hP hD hS q 1 (wz_at hq) rfl (iI_in hg hN0) hd (fun H1 locs1 hP1 hD1 hS1 => ?_)
  have e1 : (wz G sh ad h).set q (ad a, .inl (G.2.2.1, N, .inr (.inl (vp_updL (fun j : Nat => Int64.ofInt (h a (j : Int))) (iI i).toNatClampNeg x)))) = wz G sh ad (hs h a i x.toInt) := by
    refine wz_set hD hq ?_ (fun j hj => hs_ne _ _ _ hj)
    rw [iI_cl hg hN0, z_updL hg.1]
    unfold ze
    simp only [hs_eq]
  have hP2 : va_P G.1 vwCl ((wz G sh ad h).set q (ad a, .inl (G.2.2.1, N, .inr (.inl (vp_updL (fun j : Nat => Int64.ofInt (h a (j : Int))) (iI i).toNatClampNeg x))))) H1 := hP1
  have hD2 : va_D A ((wz G sh ad h).set q (ad a, .inl (G.2.2.1, N, .inr (.inl (vp_updL (fun j : Nat => Int64.ofInt (h a (j : Int))) (iI i).toNatClampNeg x))))) := hD1
  rw [e1] at hP2 hD2
  exact kk H1 locs1 ls hP2 hD2 hS1 hl
/-! the law's helpers: they catch what the face throws -/
def zTab (hh : List (Nat × Nat × Nat × Nat)) : ZX → Prop
  | (_, _, _, _, _, _, _, _, _, c, _, _) => c.exceptionTable.toList = tableOf hh
def ZHi (G : ZG) (l : Launch) (y : MethodName) (ws : List Cond) (rm : Room) (av : List Value) (sh : ZS) (ad ad1 : Nat → Nat) (h : HS) (Wr : List Nat) (z1 : Int) (h1 : HS) : Prop := ∀ sz : Nat, vx_Met l y ws rm (va_Pc av (zP G sh ad h sz)) (va_Qi (fun (r : Int32) (_ : Unit) => r = iI z1 ∧ zfr Wr h h1) (fun _ t => zB G sh ad1 h1 t) (va_A (wz G sh ad h) sz)) (vx_X (fun (_ : Unit) => False) (fun _ _ _ => False) (va_A (wz G sh ad h) sz)) rm.cells rm.slots (va_A (wz G sh ad h) sz)
theorem ZHi.of {y : MethodName} {ws ws1 : List Cond} {rm : Room} {av : List Value} {ad1 : Nat → Nat} {Wr : List Nat} {z1 : Int} {h1 : HS} {maxL : Nat} {ret : Option FieldType} {hh : List (Nat × Nat × Nat × Nat)} {lv0 : List (Nat × Value)} (hy : plainName y.cls = true) (hw : ws = Cond.codeWith y cc maxL ret hh :: ws1) (hret : ret = some .int) (hc : y.cls = own) (hlen : (lg_sl av).length ≤ maxL) (hlv : lv_args 0 av = lv0)
    (body : ∀ X : ZX, ZC G l0 cc ws own maxL rm X → zTab hh X → (∀ (lv : List (Nat × Value)) (pc : Nat), decode cc pc = .ok (.ireturn, 1) → zfr Wr h h1 → ZW G X sh ad1 h1 rm.cells rm.slots lv pc [.int (iI z1)]) → ZW G X sh ad h 0 0 lv0 0 []) : ZHi G l0 y ws rm av sh ad ad1 h Wr z1 h1 := by
  intro sz
  refine vx_ofWH (cc := cc) (maxL := maxL) (ret := ret) (hh := hh) hy hw ?_
  intro p e s m args below meth c s₁ B hml hv
  obtain ⟨rfl, hsz, hP, hK, hD0, hN, hO⟩ := hv
  have hx := B.exec
  have hb := B.bytes
  have hr := B.returns
  have hts := atoms_spec (ws := ws) B.pre
  have hown : s.vm.findClass own = some m.cls := hc ▸ findClass_of_methodNamed B.named
  have hlocks := B.notSynchronized
  have htab := vx_table (x := y) B (hts (Cond.codeWith y cc maxL ret hh) (by rw [hw]; exact List.mem_cons_self))
  subst hsz
  have hD := hD0.self (sz := s.heap.size)
  have hA : ∀ q : Nat, s.heap.size ≤ q → va_A (wz G sh ad h) s.heap.size q := fun q h => Or.inr h
  rw [lg_entry_eq]
  refine body (p, l0, e, rm, s, m, av.toArray, below, meth, c, va_A (wz G sh ad h) s.heap.size, _) ⟨hx, hb, hml, hown, hts, hK, hA, hN, rfl, rfl, hlocks, hO⟩ htab (fun lv pc hd hf H locs ls hP1 hD1 hS1 hl1 => ?_) s.heap [] _ hP hD va_S.rf (by rw [hml]; exact hlv ▸ lv_entry av hlen)
  refine vx_ret ?_
  exact W.iret hx hb (hr.trans hret) (fun t ht hW => ⟨⟨iI z1, (), rfl, ⟨rfl, hf⟩, by show va_P G.1 vwCl (wz G sh ad1 h1) t.heap; rw [ht]; exact hP1⟩, hS1.F ht⟩) hS1.2.2 hd
theorem z_freeA {A : Nat → Prop} {rest shc : ZS} {H0 H : Heap} {locs : List Loc} (hD : va_D A (wz G (rest ++ shc) ad h)) (hS : va_S A H0 H locs) (hA : ∀ q, H0.size ≤ q → A q) : ∀ q, va_A (wz G shc ad h) H.size q → A q := by
  intro q hq
  rcases hq with ⟨k, e, hk⟩ | hq
  · obtain ⟨x, hx, e2⟩ := wz_of hk
    obtain ⟨i, hi⟩ := List.getElem?_of_mem (List.mem_append_right rest (List.mem_of_getElem? hx))
    have h3 := hD.2 i _ (wz_at (h := h) hi)
    cases e2
    exact h3
  · exact hA q (Nat.le_trans hS.1 hq)
/-- the same cells at the same addresses -/
theorem wz_keep {rest : ZS} {ad1 : Nat → Nat} {h1 : HS} (ha : ∀ x ∈ rest, ad1 x.1 = ad x.1 ∧ (∀ o, x.2 = .inr (.inr o) → ∀ j, o.2.contains (j + 2) = true → ad1 j = ad j)) (hh : ∀ x ∈ rest, h1 x.1 = h x.1) : wz G rest ad1 h1 = wz G rest ad h := by
  unfold wz
  apply List.map_congr_left
  intro x hx
  rw [(ha x hx).1, ze_congr (h := h) (h1 := h1) (hh x hx)]
  congr 1
  have h2 := (ha x hx).2
  obtain ⟨j, a | a | o⟩ := x
  · rfl
  · rfl
  · unfold ze
    simp only
    have h3 := h2 o rfl
    have key : ∀ (fs : List Nat) (k0 : Int), (∀ j, fs.contains (j + 2) = true → ad1 j = ad j) → zf ad1 (h j) k0 fs = zf ad (h j) k0 fs := by
      intro fs
      induction fs with
      | nil => intro _ _; rfl
      | cons f fs ih =>
        intro k0 hc
        simp only [zf]
        rw [ih (k0 + 1) (fun t ht => hc t (by rw [List.contains_cons, ht, Bool.or_true]))]
        congr 1
        match f, hc with
        | 0, _ => rfl
        | 1, _ => rfl
        | t + 2, hc =>
          show Value.ref (ad1 t) = Value.ref (ad t)
          rw [hc t (by simp)]
    rw [key o.2 0 h3]
/-- a call of the face, with its handlers -/
theorem z_callC {y : MethodName} {ws ws1 : List Cond} {rm : Room} {rest shc : ZS} {ad1 : Nat → Nat} {Wr : List Nat} {t0 z1 : Int} {h1 : HS} {index maxL nA k1 n1 : Nat} {bytes : ByteArray} {ret : Option FieldType} {stk : List Value} {As : List Value} {b ci N : Nat} {C : String} {T : u_T} {fs : List Nat} {hh : List (Nat × Nat × Nat × Nat)} (hX : ZC G l0 cc Ts own nL R0 X) (htab : zTab hh X) (hM : ZTi G l0 y ws rm (.ref (ad b) :: As) shc ad ad1 h Wr t0 z1 h1) (hd : decode cc pc = .ok (.invokevirtual index, 3)) (hg : GoodIn Ts (wsV own index C y ws)) (hw : ws = Cond.code y bytes maxL ret :: ws1) (hy : y.cls = C ∧ y.cls ≠ "java/lang/invoke/MethodHandle" ∧ y.cls ≠ "java/lang/invoke/VarHandle" ∧ (parseMethodDescriptor y.desc).map (fun d => d.parameters.length) = some nA) (hroom : rm.frames + 1 ≤ R0.frames ∧ 8 + (maxL + 11) + rm.locals ≤ R0.locals) (hcs : k + rm.cells ≤ R0.cells ∧ n + rm.slots ≤ R0.slots) (q : Nat) (hq : sh[q]? = some (b, .inr (.inr (ci, fs)))) (hcl : vwCl[ci]? = some (C, T, N)) (hn : As.length = nA) (hs : stk = As.reverse ++ .ref (ad b) :: st) (hcat : (st.map fun v => v.category).sum ≤ 8) (hsh : sh = rest ++ shc) (hnd : va_nd (shc.map (fun x => x.1)) = true) (hD1a : ∀ A : Nat → Prop, va_D A (wz G shc ad h) → va_D A (wz G shc ad1 h1)) (hr1 : zfr Wr h h1 → wz G rest ad1 h1 = wz G rest ad h) (hr0 : zfr Wr h h1 → wz G rest ad h1 = wz G rest ad h) (hk1 : k + rm.cells = k1) (hn1 : n + rm.slots = n1)
    (kx : t0 ≠ 0 → zfr Wr h h1 → ∃ (pre suf : List ExceptionTableEntry) (x : ExceptionTableEntry), tableOf hh = pre ++ x :: suf ∧ (∀ z ∈ pre, covers z pc = false ∨ (z.catchType ≠ 0 ∧ ∃ nm : String, (Cond.classLink own z.catchType nm) ∈ Ts ∧ ∀ U, zN U → va_Nc (zExc t0) nm U)) ∧ covers x pc = true ∧ x.catchType ≠ 0 ∧ (Cond.classLink own x.catchType (zExc t0)) ∈ Ts ∧ (∀ U, zN U → va_Nw (.castable (zExc t0) (zExc t0)) U) ∧ ∀ q9 : Nat, ZW G X sh ad h1 k1 n1 lv x.handlerPc [.ref q9])
    (kk : t0 = 0 → zfr Wr h h1 → ZW G X sh ad1 h1 k1 n1 lv (pc + 3) (.int (iI z1) :: st)) : ZW G X sh ad h k n lv pc stk := by
  obtain ⟨p, l, e, R, s, m, args, below, meth, c, A, Q⟩ := X
  obtain ⟨hx, hb, hml, hown, hts, hK, hA, hN, hll, hR0, hlk, hO⟩ := hX
  subst hll
  subst hR0
  subst hs
  subst hsh
  subst hk1
  subst hn1
  have hs1 : ∀ x ∈ shc, x ∈ rest ++ shc := fun x hx => List.mem_append_right _ hx
  refine fun H locs ls hP hD hS hl => ?_
  have hF := z_freeA hD hS hA
  refine vx_calli (vx_runV (As := As) (rest := st) ⟨hx, hb, hml, hown, hts⟩ (hM H.size) (cwV nA hts hg hw rfl rfl hy hroom) ⟨zP_blind, va_recv hK hP hcl (wz_at hq), fun U hU hW => ⟨rfl, by rw [hU], by rw [hU]; exact z_sub hs1 hP, va_K.moved hW.alike hK, z_subD hs1 hnd (fun _ _ => trivial) hD, hN.warm hW, by rw [hU]; exact ((hO.kept hS.2.1).narrow hF).moved hW.alike⟩⟩ rfl hn (hl.1.trans hml) rfl (lv_room hcat) hd hcs) hS (fun q _ h => hF q h) hF (fun q _ h => hF q h) (fun E ce q9 u t H1 locs1 ht hvm hp hB hz1 hk1 hS1 hce hvn hcl9 => ?_) (fun r u t H1 locs1 ht hvm hp hB hz1 hk1 hS1 => ?_)
  · obtain ⟨h00, hf⟩ := hp
    obtain ⟨rfl, hB⟩ := hB
    have hB2 : va_P G.1 vwCl (wz G shc ad h1) H1 := by rw [← ht]; exact hB
    have hD2 : va_D (va_A (wz G shc ad h) H.size) (wz G shc ad h1) := wzD ((z_subD hs1 hnd (fun _ _ => trivial) hD (B := fun _ => True) (h1 := h)).self)
    obtain ⟨hP3, hD3⟩ := z_joinA hP hD hF hk1 hB2 hD2 (hr0 hf)
    obtain ⟨pre, suf, x, e1, e2, e3, e4, e5, e6, e7⟩ := kx h00 hf
    refine vx_catch hown pre x suf (htab.trans e1) (fun z hz => ?_) e3 e4 (hts _ e5) (va_Nw.use rfl (e6 _ hN)) hce hvn hcl9 (e7 q9 H1 locs1 ls hP3 hD3 hS1 hl)
    rcases e2 z hz with g | ⟨g1, nm, g2, g3⟩
    · exact Or.inl g
    · exact Or.inr ⟨g1, nm, hts _ g2, g3 _ hN⟩
  · obtain ⟨h00, rfl, hf⟩ := hp
    have hB2 : va_P G.1 vwCl (wz G shc ad1 h1) H1 := by rw [← ht]; exact hB
    have hD2 : va_D (va_A (wz G shc ad h) H.size) (wz G shc ad1 h1) := hD1a _ ((z_subD hs1 hnd (fun _ _ => trivial) hD (B := fun _ => True) (h1 := h)).self)
    obtain ⟨hP3, hD3⟩ := z_joinA hP hD hF hk1 hB2 hD2 (hr1 hf)
    exact kk h00 hf H1 locs1 ls hP3 hD3 hS1 hl
theorem z_Drf {shc : ZS} {h1 : HS} : ∀ A : Nat → Prop, va_D A (wz G shc ad h) → va_D A (wz G shc ad h1) := fun _ hD => wzD hD
theorem zsw_sw (i : Nat) : zsw (zsw i) = i := by
  unfold zsw
  by_cases a : i = 19
  · subst a; rfl
  by_cases b : i = 20
  · subst b; rfl
  by_cases c : i = 21
  · subst c; rfl
  by_cases d : i = 22
  · subst d; rfl
  simp only [a, b, c, d, if_false]
theorem z_Dsw {shc : ZS} {h1 : HS} (hc : shc.all (fun x => shc.any (fun y : ZE => y.1 == zsw x.1)) = true) (hnd : va_nd (shc.map (fun x => x.1)) = true) : ∀ A : Nat → Prop, va_D A (wz G shc ad h) → va_D A (wz G shc (asw ad) h1) := by
  intro A hD
  have hc2 : ∀ {i : Nat} {x : ZE}, shc[i]? = some x → ∃ (a : Nat) (y : ZE), shc[a]? = some y ∧ y.1 = zsw x.1 := by
    intro i x hx
    have h1 := List.all_eq_true.mp hc x (List.mem_of_getElem? hx)
    obtain ⟨y, hy, e⟩ := List.any_eq_true.mp h1
    obtain ⟨a, ha⟩ := List.getElem?_of_mem hy
    exact ⟨a, y, ha, by simpa using e⟩
  refine ⟨fun i j p q hp hq e => ?_, fun k q hq => ?_⟩
  · obtain ⟨x, hx, rfl⟩ := wz_of hp
    obtain ⟨y, hy, rfl⟩ := wz_of hq
    obtain ⟨a, x1, ha, ea⟩ := hc2 hx
    obtain ⟨b, y1, hb, eb⟩ := hc2 hy
    have e2 := hD.1 a b _ _ (wz_at (h := h) ha) (wz_at (h := h) hb) (by show ad x1.1 = ad y1.1; rw [ea, eb]; exact e)
    subst e2
    rw [ha] at hb
    cases hb
    have e3 : x.1 = y.1 := by rw [← zsw_sw x.1, ← zsw_sw y.1, ← ea, ← eb]
    exact va_nd_inj _ hnd i j x.1 (by rw [List.getElem?_map, hx]; rfl) (by rw [List.getElem?_map, hy, e3]; rfl)
  · obtain ⟨x, hx, rfl⟩ := wz_of hq
    obtain ⟨a, x1, ha, ea⟩ := hc2 hx
    have h3 := hD.2 a _ (wz_at (h := h) ha)
    show A (ad (zsw x.1))
    rw [← ea]
    exact h3
def sh_h : ZS := [(50, .inr (.inl 1))] ++ sh_7
theorem z_h50 {ad1 : Nat → Nat} {h1 : HS} {Wr : List Nat} (ha : ad1 50 = ad 50) (hw : 50 ∉ Wr) (hf : zfr Wr h h1) : wz G [(50, .inr (.inl 1))] ad1 h1 = wz G [(50, .inr (.inl 1))] ad h :=
  wz_keep (fun x hx => by
    obtain rfl := List.mem_singleton.mp hx
    exact ⟨ha, fun o ho => by cases ho⟩) (fun x hx => by
    obtain rfl := List.mem_singleton.mp hx
    exact hf 50 hw)
theorem z_i64 (x : Int) : ((iI x).toInt64).toInt = wr x := Int32.toInt_toInt64 (iI x)
end ZLAW
