section ZLIB
abbrev vwCl : List vw_C := [(RX0, TX0, 2), (RX1, TX1, 6), (RX2, TX2, 8), (RX3, TX3, 3), (RX4, TX4, 9), (RX5, TX5, 16), (RX6, TX6, 26)]
/-! numbers: an int of the machine is iI z of an integer z; wr z is its value -/
def iI (z : Int) : Int32 := Int32.ofInt z
def wr (z : Int) : Int := (iI z).toInt
theorem wr_of {z : Int} (h1 : -2147483648 ≤ z) (h2 : z < 2147483648) : wr z = z := by
  unfold wr iI
  have e : z.bmod (2 ^ 32) = z := Int.bmod_eq_of_le (by omega) (by omega)
  rw [Int32.toInt_ofInt]
  exact e
theorem iI_add (a b : Int) : iI a + iI b = iI (a + b) := (Int32.ofInt_add a b).symm
theorem iI_sub (a b : Int) : iI a - iI b = iI (a - b) := (Int32.ofInt_sub a b).symm
theorem iI_mul (a b : Int) : iI a * iI b = iI (a * b) := (Int32.ofInt_mul a b).symm
theorem iI_neg (a : Int) : -iI a = iI (-a) := (Int32.ofInt_neg a).symm
theorem iI_nat (n : Nat) : iI (n : Int) = nI n := rfl
theorem iI_lt (a b : Int) : iI a < iI b ↔ wr a < wr b := Int32.lt_iff_toInt_lt
theorem iI_le (a b : Int) : iI a ≤ iI b ↔ wr a ≤ wr b := Int32.le_iff_toInt_le
theorem iI_eq (a b : Int) : iI a = iI b ↔ wr a = wr b := Int32.toInt_inj.symm
theorem iI_as (x : Int32) : iI x.toInt = x := Int32.ofInt_toInt x
theorem iI_of0 {x : Int} (h : 0 ≤ x) : iI x = nI x.toNat := by
  rw [← iI_nat, Int.toNat_of_nonneg h]
theorem iI_div {x d : Int} (h : 0 ≤ x ∧ x < 2147483648) (hd : 0 < d ∧ d < 2147483648) : iI x / iI d = iI (x / d) := by
  rw [iI_of0 h.1, iI_of0 (x := d) (by omega), pk_div (by omega) (by omega) (by omega), ← iI_nat]
  congr 1
  rw [Int.natCast_ediv, Int.toNat_of_nonneg h.1, Int.toNat_of_nonneg (by omega)]
theorem iI_rem {x d : Int} (h : 0 ≤ x ∧ x < 2147483648) (hd : 0 < d ∧ d < 2147483648) : iI x - iI x / iI d * iI d = iI (x % d) := by
  rw [iI_of0 h.1, iI_of0 (x := d) (by omega), pk_rem (by omega) (by omega) (by omega), ← iI_nat]
  congr 1
  rw [Int.natCast_emod, Int.toNat_of_nonneg h.1, Int.toNat_of_nonneg (by omega)]
theorem iI_in {i : Int} {n : Nat} (h : 0 ≤ i ∧ i < (n : Int)) (hn : n < 2 ^ 31) : vp_in (iI i) n := by
  rw [iI_of0 h.1]
  exact vp_in_nI (by omega) hn
theorem iI_cl {i : Int} {n : Nat} (h : 0 ≤ i ∧ i < (n : Int)) (hn : n < 2 ^ 31) : (iI i).toNatClampNeg = i.toNat := by
  rw [iI_of0 h.1]
  exact nI_clamp (by omega)
/-! states: numbers by cell and place; shapes: int array of n, long array of n, object (its place among the classes; 0 a number, 1 null, j + 2 the cell j) -/
abbrev HS : Type := Nat → Int → Int
abbrev ZE : Type := Nat × (Nat ⊕ (Nat ⊕ (Nat × List Nat)))
abbrev ZS : Type := List ZE
abbrev ZG : Type := va_G × ClassId × ClassId × (Nat → Nat)
def zv (ad : Nat → Nat) (v : Int) (f : Nat) : Value := match f with
  | 0 => .int (iI v)
  | 1 => .null
  | j + 2 => .ref (ad j)
def zf (ad : Nat → Nat) (g : Int → Int) : Int → List Nat → List Value
  | _, [] => []
  | k, f :: fs => zv ad (g k) f :: zf ad g (k + 1) fs
def ze (G : ZG) (ad : Nat → Nat) (h : HS) (x : ZE) : va_E := match x.2 with
  | .inl n => .inl (G.2.1, n, .inl (fun j => iI (h x.1 (j : Int))))
  | .inr (.inl n) => .inl (G.2.2.1, n, .inr (.inl (fun j => Int64.ofInt (h x.1 (j : Int)))))
  | .inr (.inr o) => .inr (o.1, zf ad (h x.1) 0 o.2)
def wz (G : ZG) (sh : ZS) (ad : Nat → Nat) (h : HS) : va_W := sh.map (fun x => (ad x.1, ze G ad h x))
def hs (h : HS) (i : Nat) (k v : Int) : HS := fun a => if a = i then (fun b => if b = k then v else h i b) else h a
theorem hs_ne (h : HS) {i j : Nat} (k v : Int) (e : j ≠ i) : hs h i k v j = h j := by
  unfold hs
  rw [if_neg e]
theorem hs_eq (h : HS) (i : Nat) (k v : Int) : hs h i k v i = fun b => if b = k then v else h i b := by
  unfold hs
  rw [if_pos rfl]
theorem wz_at {G : ZG} {sh : ZS} {ad : Nat → Nat} {h : HS} {q : Nat} {x : ZE} (e : sh[q]? = some x) : (wz G sh ad h)[q]? = some (ad x.1, ze G ad h x) := by
  unfold wz
  rw [List.getElem?_map, e]
  rfl
theorem wz_of {G : ZG} {sh : ZS} {ad : Nat → Nat} {h : HS} {q : Nat} {y : Nat × va_E} (e : (wz G sh ad h)[q]? = some y) : ∃ x, sh[q]? = some x ∧ y = (ad x.1, ze G ad h x) := by
  unfold wz at e
  rw [List.getElem?_map] at e
  cases hx : sh[q]? with
  | none => rw [hx] at e; cases e
  | some x => rw [hx] at e; cases e; exact ⟨x, rfl, rfl⟩
theorem ze_congr {G : ZG} {ad : Nat → Nat} {h h1 : HS} {x : ZE} (e : h1 x.1 = h x.1) : ze G ad h1 x = ze G ad h x := by
  unfold ze
  rw [e]
theorem zf_len (ad : Nat → Nat) (g : Int → Int) : ∀ (fs : List Nat) (k : Int), (zf ad g k fs).length = fs.length
  | [], _ => rfl
  | _ :: fs, k => by simp [zf, zf_len ad g fs (k + 1)]
theorem zf_at (ad : Nat → Nat) (g : Int → Int) : ∀ (fs : List Nat) (k0 : Int) (k f : Nat), fs[k]? = some f → (zf ad g k0 fs)[k]? = some (zv ad (g (k0 + k)) f)
  | [], _, k, f, h => by simp at h
  | f0 :: fs, k0, 0, f, h => by
    have e : f0 = f := by simpa using h
    subst e
    simp [zf]
  | f0 :: fs, k0, k + 1, f, h => by
    have e := zf_at ad g fs (k0 + 1) k f (by simpa using h)
    simp only [zf, List.getElem?_cons_succ, e]
    congr 3
    omega
theorem zf_same (ad : Nat → Nat) {g g1 : Int → Int} : ∀ (fs : List Nat) (k0 : Int), (∀ j, k0 ≤ j → g1 j = g j) → zf ad g1 k0 fs = zf ad g k0 fs
  | [], _, _ => rfl
  | f :: fs, k0, h => by
    simp only [zf]
    rw [h k0 (Int.le_refl _), zf_same ad fs (k0 + 1) (fun j hj => h j (by omega))]
theorem zf_set (ad : Nat → Nat) {g g1 : Int → Int} (v : Int) : ∀ (fs : List Nat) (k0 : Int) (k : Nat), fs[k]? = some 0 → g1 (k0 + k) = v → (∀ j, j ≠ k0 + k → g1 j = g j) → (zf ad g k0 fs).set k (.int (iI v)) = zf ad g1 k0 fs
  | [], _, k, h, _, _ => by simp at h
  | f0 :: fs, k0, 0, h, hv, ho => by
    have e : f0 = 0 := by simpa using h
    subst e
    have hv' : g1 k0 = v := by simpa using hv
    simp only [zf, List.set_cons_zero, zv, hv']
    rw [zf_same ad fs (k0 + 1) (fun j hj => ho j (by simp; omega))]
  | f0 :: fs, k0, k + 1, h, hv, ho => by
    have e := zf_set ad (g := g) (g1 := g1) v fs (k0 + 1) k (by simpa using h) (by rw [← hv]; congr 1; omega) (fun j hj => ho j (by omega))
    simp only [zf, List.set_cons_succ, e]
    rw [ho k0 (by omega)]
theorem wzD {G : ZG} {A : Nat → Prop} {sh : ZS} {ad : Nat → Nat} {h h1 : HS} (hD : va_D A (wz G sh ad h)) : va_D A (wz G sh ad h1) := by
  refine ⟨fun i j p q hp hq e => ?_, fun k q hq => ?_⟩
  · obtain ⟨x, hx, rfl⟩ := wz_of hp
    obtain ⟨y, hy, rfl⟩ := wz_of hq
    exact hD.1 i j _ _ (wz_at (h := h) hx) (wz_at (h := h) hy) e
  · obtain ⟨x, hx, rfl⟩ := wz_of hq
    have h3 := hD.2 k (ad x.1, ze G ad h x) (wz_at hx)
    exact h3
theorem wz_set {G : ZG} {A : Nat → Prop} {sh : ZS} {ad : Nat → Nat} {h h1 : HS} {q : Nat} {x : ZE} {e : va_E} (hD : va_D A (wz G sh ad h)) (hq : sh[q]? = some x) (he : ze G ad h1 x = e) (ho : ∀ i, i ≠ x.1 → h1 i = h i) : (wz G sh ad h).set q (ad x.1, e) = wz G sh ad h1 := by
  apply List.ext_getElem?
  intro r
  by_cases hr : r = q
  · subst hr
    rw [wz_at hq, he]
    have hl : r < (wz G sh ad h).length := (List.getElem?_eq_some_iff.mp (wz_at (G := G) (ad := ad) (h := h) hq)).1
    rw [List.getElem?_set_self hl]
  · rw [List.getElem?_set_ne (fun z => hr z.symm)]
    unfold wz
    rw [List.getElem?_map, List.getElem?_map]
    cases hy : sh[r]? with
    | none => rfl
    | some y =>
      have hne : y.1 ≠ x.1 := fun z => hr (hD.1 r q _ _ (wz_at hy) (wz_at hq) (by show ad y.1 = ad x.1; rw [z]))
      simp only [Option.map_some]
      rw [ze_congr (h := h) (h1 := h1) (ho _ hne)]
/-- the constants that go with what is thrown -/
def zMsg : List (Nat × String) := [(88, "the letter is not 65 to 90, or a kind has it"), (100, "there are 6 kinds, or other nodes than node 0"), (112, "there is no such kind"), (119, "this is no step, or the reach is not 1 to 7"), (124, "the kind has 8 steps, or there are other nodes than node 0"), (133, "there is no such square, or no such kind"), (135, "the side is not 0 or 1"), (137, "there are other nodes than node 0"), (143, "there is no such square"), (158, "what is not 0 to 6"), (163, "this is no legal move"), (168, "there would be more than 200 nodes"), (173, "this is no byte"), (178, "there would be more than 2000 bytes"), (196, "what is not 0 to 2"), (202, "there is no such place on the tape"), (208, "there is no such node, or what is not 0 to 4"), (216, "there is no such node or continuation"), (221, "there is no such node"), (226, "there is no such node, or it is node 0")]
def zMs (U : State) : Prop := ∀ q ∈ zMsg, ∃ a : Nat, vk_R RX5 q.1 q.2 a U
/-- the exceptions of the face, by number -/
def zExc (t : Int) : String := if t = 1 then "java/lang/IndexOutOfBoundsException" else if t = 2 then "java/lang/IllegalArgumentException" else "java/lang/IllegalStateException"
def zCa (U : State) : Prop := va_Nw (.castable (zExc 1) (zExc 1)) U ∧ va_Nw (.castable (zExc 2) (zExc 2)) U ∧ va_Nw (.castable (zExc 3) (zExc 3)) U ∧ va_Nc (zExc 2) (zExc 1) U ∧ va_Nc (zExc 3) (zExc 1) U ∧ va_Nc (zExc 3) (zExc 2) U ∧ va_Nw (.declares (Bundle.initS "java/lang/RuntimeException")) U ∧ va_Nw (.declares (Bundle.initS "java/lang/Exception")) U ∧ va_Nw (.declares (Bundle.initS Bundle.tN)) U
theorem zCa.warm {s U : State} (hW : s.WarmedH U.vm) (h : zCa s) : zCa U := ⟨h.1.warmC hW, h.2.1.warmC hW, h.2.2.1.warmC hW, h.2.2.2.1.moved hW.alike, h.2.2.2.2.1.moved hW.alike, h.2.2.2.2.2.1.moved hW.alike, h.2.2.2.2.2.2.1.warmD hW, h.2.2.2.2.2.2.2.1.warmD hW, h.2.2.2.2.2.2.2.2.warmD hW⟩
theorem zCa.same {u U : State} (e : u.vm = U.vm) (h : zCa u) : zCa U := ⟨h.1.same rfl e, h.2.1.same rfl e, h.2.2.1.same rfl e, h.2.2.2.1.moved (by rw [e]; exact Vm.Alike.refl _), h.2.2.2.2.1.moved (by rw [e]; exact Vm.Alike.refl _), h.2.2.2.2.2.1.moved (by rw [e]; exact Vm.Alike.refl _), h.2.2.2.2.2.2.1.same rfl e, h.2.2.2.2.2.2.2.1.same rfl e, h.2.2.2.2.2.2.2.2.same rfl e⟩
/-- the links of private members among nest mates -/
def zN (U : State) : Prop := va_Nw (.fieldLinkNest RX0 40 RX1 "size" "I" RX5) U ∧ va_Nw (.fieldLinkNest RX0 46 RX1 "stepCounts" "[I" RX5) U ∧ va_Nw (.fieldLinkNest RX0 49 RX1 "stepX" "[I" RX5) U ∧ va_Nw (.fieldLinkNest RX0 52 RX1 "stepY" "[I" RX5) U ∧ va_Nw (.fieldLinkNest RX0 55 RX1 "stepReach" "[I" RX5) U ∧ va_Nw (.methodLinkNest RX5 11 yX1_init RX5) U ∧ va_Nw (.methodLinkNest RX5 34 yX2_init RX5) U ∧ va_Nw (.methodLinkNest RX5 48 yX3_init RX5) U ∧ va_Nw (.methodLinkNest RX0 25 yX5_isSquare RX5) U ∧ zMs U ∧ zCa U
theorem zN.warm {s U : State} (hW : s.WarmedH U.vm) (h : zN s) : zN U := by
  obtain ⟨h1, h2, h3, h4, h5, h6, h7, h8, h9, hm, hc⟩ := h
  exact ⟨h1.warmF hW, h2.warmF hW, h3.warmF hW, h4.warmF hW, h5.warmF hW, h6.warmM hW, h7.warmM hW, h8.warmM hW, h9.warmM hW, fun q hq => (hm q hq).elim fun a ha => ⟨a, vk_R.warm hW ha⟩, hc.warm hW⟩
theorem zN.same {u U : State} (e : u.vm = U.vm) (h : zN u) : zN U := by
  obtain ⟨h1, h2, h3, h4, h5, h6, h7, h8, h9, hm, hc⟩ := h
  exact ⟨h1.same rfl e, h2.same rfl e, h3.same rfl e, h4.same rfl e, h5.same rfl e, h6.same rfl e, h7.same rfl e, h8.same rfl e, h9.same rfl e, fun q hq => (hm q hq).elim fun a ha => ⟨a, vk_R.same e.symm ha⟩, hc.same e⟩
def zK (G : ZG) (U : State) : Prop := va_K G.1 vwCl [(G.2.1, .int), (G.2.2.1, .long)] U
/-! what nobody writes: the forms, some statics of the JDK; addresses by G's last part: 3000 the row of forms, 1000 + i the i-th, 2000 + i its bytes -/
def zLen : List Nat := [2, 3, 3, 4, 3, 4, 4, 5, 3, 4, 4, 5, 4, 5, 5, 6]
def zByt : List (List Int32) := [[102, 114], [102, 102, 114], [114, 102, 114], [102, 114, 102, 114], [120, 102, 114], [102, 120, 102, 114], [114, 120, 102, 114], [102, 114, 120, 102, 114], [102, 114, 115], [102, 102, 114, 115], [114, 102, 114, 115], [102, 114, 102, 114, 115], [120, 102, 114, 115], [102, 120, 102, 114, 115], [114, 120, 102, 114, 115], [102, 114, 120, 102, 114, 115]]
def zRO (G : ZG) (A : Nat → Prop) (U : State) (H : Heap) : Prop := va_Z "BoardNotationModel" "FORMS" "[Ljava/lang/String;" (.ref (G.2.2.2 3000)) A U H ∧ va_T (.object "java/lang/String") (G.2.2.2 3000) 16 (fun j => .ref (G.2.2.2 (1000 + j))) A U H ∧ vk_S 16 zLen zByt (fun i => G.2.2.2 (1000 + i)) (fun i => G.2.2.2 (2000 + i)) A U H ∧ va_Z "java/lang/String" "COMPACT_STRINGS" "Z" (.int 1) A U H ∧ vx_Zq Bundle.tN "UNASSIGNED_STACK" Bundle.steD A U H ∧ vx_Zq Bundle.tN "SUPPRESSED_SENTINEL" Bundle.listD A U H ∧ va_Zq "jdk/internal/util/Preconditions" "SIOOBE_FORMATTER" "Ljava/util/function/BiFunction;" A U H
theorem zRO.moved {G : ZG} {A : Nat → Prop} {u U : State} {H : Heap} (hvm : u.vm.Alike U.vm) (h : zRO G A u H) : zRO G A U H :=
  ⟨h.1.moved hvm, h.2.1.moved hvm, h.2.2.1.moved hvm, h.2.2.2.1.moved hvm, h.2.2.2.2.1.moved hvm, h.2.2.2.2.2.1.moved hvm, h.2.2.2.2.2.2.moved hvm⟩
theorem zRO.kept {G : ZG} {A : Nat → Prop} {U : State} {H H1 : Heap} (h : zRO G A U H) (hq : ∀ a : Nat, a < H.size → ¬ A a → H1[a]? = H[a]?) : zRO G A U H1 :=
  ⟨h.1.kept hq, h.2.1.kept hq, h.2.2.1.kept hq, h.2.2.2.1.kept hq, h.2.2.2.2.1.kept hq, h.2.2.2.2.2.1.kept hq, h.2.2.2.2.2.2.kept hq⟩
theorem zRO.narrow {G : ZG} {A B : Nat → Prop} {U : State} {H : Heap} (h : zRO G A U H) (hAB : ∀ q, B q → A q) : zRO G B U H :=
  ⟨h.1.narrow hAB, h.2.1.narrow hAB, h.2.2.1.narrow hAB, h.2.2.2.1.narrow hAB, h.2.2.2.2.1.narrow hAB, h.2.2.2.2.2.1.narrow hAB, h.2.2.2.2.2.2.narrow hAB⟩
/-! the walk's own data: program, launch, environment, room, start, method, arguments, frames below, its rows, its code, what it may write, its end -/
abbrev ZX : Type := Program × Launch × Env × Room × State × MethodId × Array Value × List Frame × Method × Code × (Nat → Prop) × (State → Prop)
def ZW (G : ZG) : ZX → ZS → (Nat → Nat) → HS → Nat → Nat → List (Nat × Value) → Nat → List Value → Prop
  | (p, l, e, R, s, m, args, below, meth, c, A, Q), sh, ad, h, k, n, lv, pc, st => ∀ (H : Heap) (locs : List Loc) (ls : Array Slot), va_P G.1 vwCl (wz G sh ad h) H → va_D A (wz G sh ad h) → va_S A s.heap H locs → lv_has ls c.maxLocals lv → W p l e R s m args below meth c H locs k n Q (F0 m pc ls st)
def ZC (G : ZG) (l0 : Launch) (cc : ByteArray) (Ts : List Cond) (own : String) (nL : Nat) (R0 : Room) : ZX → Prop
  | (p, l, _, R, s, m, args, _, meth, c, A, _) => p.tables.exec = Jvm.exec ∧ c.code = cc ∧ c.maxLocals = nL ∧ s.vm.findClass own = some m.cls ∧ (∀ w ∈ Ts, w.before args s = true) ∧ zK G s ∧ (∀ q, s.heap.size ≤ q → A q) ∧ zN s ∧ l = l0 ∧ R = R0 ∧ meth.locks = false ∧ zRO G A s s.heap
def zfr (Wr : List Nat) (h h1 : HS) : Prop := ∀ i, i ∉ Wr → h1 i = h i
theorem zfr_rf {Wr : List Nat} {h : HS} : zfr Wr h h := fun _ _ => rfl
theorem zfr_hs {Wr : List Nat} {h h1 : HS} {i : Nat} {k v : Int} (hf : zfr Wr h h1) (hi : i ∈ Wr) : zfr Wr h (hs h1 i k v) := fun j hj => by
  have hne : j ≠ i := fun e => hj (by rw [e]; exact hi)
  rw [hs_ne _ _ _ hne]
  exact hf j hj
theorem zfr_tr {Wr W1 : List Nat} {h h1 h2 : HS} (hf : zfr Wr h h1) (hs : ∀ i ∈ W1, i ∈ Wr) (hg : zfr W1 h1 h2) : zfr Wr h h2 := fun j hj => (hg j (fun e => hj (hs j e))).trans (hf j hj)
/-! what a call finds and leaves -/
def zP (G : ZG) (sh : ZS) (ad : Nat → Nat) (h : HS) (sz : Nat) (U : State) : Prop := U.heap.size = sz ∧ va_P G.1 vwCl (wz G sh ad h) U.heap ∧ zK G U ∧ va_D (fun _ => True) (wz G sh ad h) ∧ zN U ∧ zRO G (va_A (wz G sh ad h) sz) U U.heap
def zB (G : ZG) (sh : ZS) (ad : Nat → Nat) (h : HS) (t : State) : Prop := va_P G.1 vwCl (wz G sh ad h) t.heap
abbrev zsub (sh shc : ZS) (Wr : List Nat) : Prop := (∀ x ∈ shc, x ∈ sh) ∧ (∀ x ∈ sh, x ∈ shc ∨ x.1 ∉ Wr) ∧ va_nd (shc.map (fun x => x.1)) = true
def zeqE : ZE → ZE → Bool
  | (i, .inl n), (j, .inl m) => i == j && n == m
  | (i, .inr (.inl n)), (j, .inr (.inl m)) => i == j && n == m
  | (i, .inr (.inr (c, f))), (j, .inr (.inr (d, g))) => i == j && c == d && f == g
  | _, _ => false
theorem zeqE_eq : ∀ x y : ZE, zeqE x y = true → x = y
  | (i, .inl n), (j, .inl m), h => by simp [zeqE] at h; simp [h.1, h.2]
  | (i, .inr (.inl n)), (j, .inr (.inl m)), h => by simp [zeqE] at h; simp [h.1, h.2]
  | (i, .inr (.inr (c, f))), (j, .inr (.inr (d, g))), h => by simp [zeqE] at h; simp [h.1.1, h.1.2, h.2]
  | (i, .inl n), (j, .inr (.inl m)), h => by simp [zeqE] at h
  | (i, .inl n), (j, .inr (.inr m)), h => by simp [zeqE] at h
  | (i, .inr (.inl n)), (j, .inl m), h => by simp [zeqE] at h
  | (i, .inr (.inl n)), (j, .inr (.inr m)), h => by simp [zeqE] at h
  | (i, .inr (.inr n)), (j, .inl m), h => by simp [zeqE] at h
  | (i, .inr (.inr n)), (j, .inr (.inl m)), h => by simp [zeqE] at h
def zsubB (sh shc : ZS) (Wr : List Nat) : Bool := shc.all (fun x => sh.any (zeqE x)) && (sh.all (fun x => shc.any (zeqE x) || !(Wr.contains x.1)) && va_nd (shc.map (fun x => x.1)))
theorem zsub_of {sh shc : ZS} {Wr : List Nat} (h : zsubB sh shc Wr = true) : zsub sh shc Wr := by
  unfold zsubB at h
  simp only [Bool.and_eq_true, List.all_eq_true, List.any_eq_true, Bool.or_eq_true, Bool.not_eq_true'] at h
  refine ⟨fun x hx => ?_, fun x hx => ?_, h.2.2⟩
  · obtain ⟨y, hy, e⟩ := h.1 x hx
    rw [zeqE_eq x y e]; exact hy
  · rcases h.2.1 x hx with ⟨y, hy, e⟩ | e
    · left; rw [zeqE_eq x y e]; exact hy
    · right
      intro hm
      rw [List.contains_iff_mem.mpr hm] at e
      cases e
theorem zP_blind {G : ZG} {sh : ZS} {ad : Nat → Nat} {h : HS} {sz : Nat} {av : List Value} : FrameBlind (va_Pc av (zP G sh ad h sz)) := by
  intro a U g mk q
  obtain ⟨q0, q1, qP, qK, qD, qN, qO⟩ := q
  exact ⟨q0, q1, qP, va_K.moved (u := U) (U := U.calling g mk a) (Vm.Alike.refl U.vm) qK, qD, zN.same (u := U) (U := U.calling g mk a) rfl qN, zRO.moved (u := U) (U := U.calling g mk a) (Vm.Alike.refl U.vm) qO⟩
theorem z_free {G : ZG} {A : Nat → Prop} {sh shc : ZS} {ad : Nat → Nat} {h : HS} {H0 H : Heap} {locs : List Loc} {Wr : List Nat} (hsub : zsub sh shc Wr) (hD : va_D A (wz G sh ad h)) (hS : va_S A H0 H locs) (hA : ∀ q, H0.size ≤ q → A q) : ∀ q, va_A (wz G shc ad h) H.size q → A q := by
  intro q hq
  rcases hq with ⟨k, e, hk⟩ | hq
  · obtain ⟨x, hx, e2⟩ := wz_of hk
    obtain ⟨i, hi⟩ := List.getElem?_of_mem (hsub.1 x (List.mem_of_getElem? hx))
    have := hD.2 i _ (wz_at (h := h) hi)
    cases e2
    exact this
  · exact hA q (Nat.le_trans hS.1 hq)
theorem z_join {G : ZG} {A : Nat → Prop} {sh shc : ZS} {ad : Nat → Nat} {h h1 : HS} {H H1 : Heap} {Wr : List Nat} (hP : va_P G.1 vwCl (wz G sh ad h) H) (hD : va_D A (wz G sh ad h)) (hsub : zsub sh shc Wr) (hf : zfr Wr h h1) (hk : ∀ q, q < H.size → ¬ va_A (wz G shc ad h) H.size q → H1[q]? = H[q]?) (hP1 : va_P G.1 vwCl (wz G shc ad h1) H1) : va_P G.1 vwCl (wz G sh ad h1) H1 := by
  intro k q hq
  obtain ⟨x, hx, rfl⟩ := wz_of hq
  by_cases hc : x ∈ shc
  · obtain ⟨i, hi⟩ := List.getElem?_of_mem hc
    exact hP1 i _ (wz_at hi)
  · have hw : x.1 ∉ Wr := (hsub.2.1 x (List.mem_of_getElem? hx)).resolve_left hc
    rw [ze_congr (h := h) (h1 := h1) (hf _ hw)]
    have h0 := hP k _ (wz_at hx)
    refine h0.kept (hk _ h0.lt ?_)
    rintro (⟨k2, e, h2⟩ | h2)
    · obtain ⟨y, hy, e2⟩ := wz_of h2
      obtain ⟨i, hi⟩ := List.getElem?_of_mem (hsub.1 y (List.mem_of_getElem? hy))
      have e3 : ad x.1 = ad y.1 := congrArg Prod.fst e2
      have e4 := hD.1 k i _ _ (wz_at (h := h) hx) (wz_at (h := h) hi) e3
      subst e4
      rw [hx] at hi
      cases hi
      exact hc (List.mem_of_getElem? hy)
    · exact absurd h0.lt (by omega)
theorem z_sub {G : ZG} {sh shc : ZS} {ad : Nat → Nat} {h : HS} {H : Heap} (hs : ∀ x ∈ shc, x ∈ sh) (hP : va_P G.1 vwCl (wz G sh ad h) H) : va_P G.1 vwCl (wz G shc ad h) H := by
  intro k q hq
  obtain ⟨x, hx, rfl⟩ := wz_of hq
  obtain ⟨i, hi⟩ := List.getElem?_of_mem (hs x (List.mem_of_getElem? hx))
  exact hP i _ (wz_at hi)
theorem z_subD {G : ZG} {A B : Nat → Prop} {sh shc : ZS} {ad : Nat → Nat} {h h1 : HS} (hs : ∀ x ∈ shc, x ∈ sh) (hn : va_nd (shc.map (fun x => x.1)) = true) (hB : ∀ q, A q → B q) (hD : va_D A (wz G sh ad h)) : va_D B (wz G shc ad h1) := by
  refine ⟨fun i j p q hp hq e => ?_, fun k q hq => ?_⟩
  · obtain ⟨x, hx, rfl⟩ := wz_of hp
    obtain ⟨y, hy, rfl⟩ := wz_of hq
    obtain ⟨a, ha⟩ := List.getElem?_of_mem (hs x (List.mem_of_getElem? hx))
    obtain ⟨b, hb⟩ := List.getElem?_of_mem (hs y (List.mem_of_getElem? hy))
    have e2 := hD.1 a b _ _ (wz_at (h := h) ha) (wz_at (h := h) hb) e
    subst e2
    rw [ha] at hb
    cases hb
    exact va_nd_inj _ hn i j x.1 (by rw [List.getElem?_map, hx]; rfl) (by rw [List.getElem?_map, hy]; rfl)
  · obtain ⟨x, hx, rfl⟩ := wz_of hq
    obtain ⟨a, ha⟩ := List.getElem?_of_mem (hs x (List.mem_of_getElem? hx))
    have h3 := hD.2 a (ad x.1, ze G ad h x) (wz_at ha)
    exact hB _ h3
end ZLIB
