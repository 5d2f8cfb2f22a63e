def fX6_isIn (p1 : Int) (p2 : Int) (p3 : Int) (h : HS) : Option (Int) := if wr p1 < wr p2 then some 0 else if wr p3 < wr p1 then some 0 else some 1
set_option maxRecDepth 100000 in
set_option maxHeartbeats 4000000 in
theorem mX6_isIn {G : ZG} {l0 : Launch} {ad : Nat → Nat} {h0 : HS} {p1 : Int} {p2 : Int} {p3 : Int} {o : Int} (hr : fX6_isIn p1 p2 p3 h0 = some o) : ZMi G l0 yX6_isIn wsX6_isIn ({ frames := 0, cells := 0, slots := 0, locals := 0 }) [.int (iI p1), .int (iI p2), .int (iI p3)] [] ad h0 [] o h0 := by
  refine ZMi.ofZ (cc := cX6_isIn) (maxL := 3) (ret := (some .boolean)) (own := RX6) (lv0 := [(0, .int (iI p1)), (1, .int (iI p2)), (2, .int (iI p3))]) (by decide) rfl rfl rfl (Nat.le_of_ble_eq_true rfl) rfl ?_
  intro X hX hQ
  have hf : zfr [] h0 h0 := zfr_rf
  unfold fX6_isIn at hr
  refine z_iload_n hX dX6_isIn_0 0 rfl ?_
  refine z_iload_n hX dX6_isIn_1 1 rfl ?_
  refine z_icmp_lt (tgt := 14) hX dX6_isIn_2 (by decide) rfl rfl hr (fun hr => ?_) (fun hr => ?_)
  · refine z_iconst hX dX6_isIn_14 ?_
    obtain rfl := Option.some.inj hr
    exact hQ _ _ dX6_isIn_15 hf (Or.inl rfl)
  · refine z_iload_n hX dX6_isIn_5 0 rfl ?_
    refine z_iload_n hX dX6_isIn_6 2 rfl ?_
    refine z_icmp_gt (tgt := 14) hX dX6_isIn_7 (by decide) rfl rfl hr (fun hr => ?_) (fun hr => ?_)
    · refine z_iconst hX dX6_isIn_14 ?_
      obtain rfl := Option.some.inj hr
      exact hQ _ _ dX6_isIn_15 hf (Or.inl rfl)
    · refine z_iconst hX dX6_isIn_10 ?_
      refine z_goto (tgt := 15) hX dX6_isIn_11 (by decide) ?_
      obtain rfl := Option.some.inj hr
      exact hQ _ _ dX6_isIn_15 hf (Or.inr rfl)

def fX6_isSquare (p1 : Int) (h : HS) : Option (Int) := (fX6_isIn p1 0 63 h).bind fun r1 => if r1 = 0 ∨ r1 = 1 then some r1 else none
set_option maxRecDepth 100000 in
set_option maxHeartbeats 4000000 in
theorem mX6_isSquare {G : ZG} {l0 : Launch} {ad : Nat → Nat} {h0 : HS} {p1 : Int} {o : Int} (hr : fX6_isSquare p1 h0 = some o) : ZMi G l0 yX6_isSquare wsX6_isSquare ({ frames := 1, cells := 0, slots := 0, locals := 22 }) [.int (iI p1)] [] ad h0 [] o h0 := by
  refine ZMi.ofZ (cc := cX6_isSquare) (maxL := 1) (ret := (some .boolean)) (own := RX6) (lv0 := [(0, .int (iI p1))]) (by decide) rfl rfl rfl (Nat.le_of_ble_eq_true rfl) rfl ?_
  intro X hX hQ
  have hf : zfr [] h0 h0 := zfr_rf
  unfold fX6_isSquare at hr
  refine z_iload_n hX dX6_isSquare_0 0 rfl ?_
  refine z_iconst hX dX6_isSquare_1 ?_
  refine z_bipush hX dX6_isSquare_2 (by decide +kernel) ?_
  obtain ⟨r1, hc1, hr⟩ := z_bind hr
  refine z_callS_i (As := [.int (iI p1), .int (iI 0), .int (iI 63)]) (k1 := 0) (n1 := 0) (nA := 3) hX (mX6_isIn hc1) dX6_isSquare_4 gX6_isSquare_X6_isIn rfl ⟨by decide, by decide, by decide +kernel⟩ ⟨by decide, by decide⟩ ⟨by decide, by decide⟩ rfl rfl (Nat.le_of_ble_eq_true rfl) (by decide +kernel) rfl rfl (fun hg1 => ?_)
  obtain ⟨hz, hr⟩ := z_ifg hr
  obtain rfl := Option.some.inj hr
  exact hQ _ _ dX6_isSquare_7 hf hz

def fX6_thrown (h : HS) : Option (Int) := some (h 30 0)
set_option maxRecDepth 100000 in
set_option maxHeartbeats 4000000 in
theorem mX6_thrown {G : ZG} {l0 : Launch} {ad : Nat → Nat} {h0 : HS} {o : Int} (hr : fX6_thrown h0 = some o) : ZMi G l0 yX6_thrown wsX6_thrown ({ frames := 0, cells := 0, slots := 0, locals := 0 }) [.ref (ad 30)] sh_8 ad h0 [] o h0 := by
  refine ZMi.of (cc := cX6_thrown) (maxL := 1) (ret := (some .int)) (own := RX6) (lv0 := [(0, .ref (ad 30))]) (by decide) rfl rfl rfl (Nat.le_of_ble_eq_true rfl) rfl ?_
  intro X hX hQ
  have hf : zfr [] h0 h0 := zfr_rf
  have fl_66 : zFld wsX6_thrown RX6 66 6 RX6 TX6 26 0 := ⟨by decide +kernel, by decide +kernel, by decide, rfl⟩
  unfold fX6_thrown at hr
  refine z_aload_n hX dX6_thrown_0 0 rfl ?_
  refine z_getI hX dX6_thrown_1 fl_66 0 rfl rfl ?_
  obtain rfl := Option.some.inj hr
  exact hQ _ _ dX6_thrown_4 hf

def fX6_fail (p1 : Int) (h : HS) : Option (Int × HS) := some (0, (hs h 30 0 p1))
set_option maxRecDepth 100000 in
set_option maxHeartbeats 4000000 in
theorem mX6_fail {G : ZG} {l0 : Launch} {ad : Nat → Nat} {h0 : HS} {p1 : Int} {o : Int × HS} (hr : fX6_fail p1 h0 = some o) : ZMi G l0 yX6_fail wsX6_fail ({ frames := 0, cells := 0, slots := 0, locals := 0 }) [.ref (ad 30), .int (iI p1)] sh_8 ad h0 [30] o.1 o.2 := by
  refine ZMi.of (cc := cX6_fail) (maxL := 2) (ret := (some .int)) (own := RX6) (lv0 := [(0, .ref (ad 30)), (1, .int (iI p1))]) (by decide) rfl rfl rfl (Nat.le_of_ble_eq_true rfl) rfl ?_
  intro X hX hQ
  have hf : zfr [30] h0 h0 := zfr_rf
  have fl_66 : zFld wsX6_fail RX6 66 6 RX6 TX6 26 0 := ⟨by decide +kernel, by decide +kernel, by decide, rfl⟩
  have pu_X6_0 : zPut TX6 26 0 tyX6 .int := ⟨tyX6_ok, nmX6, rfl, by decide +kernel⟩
  unfold fX6_fail at hr
  refine z_aload_n hX dX6_fail_0 0 rfl ?_
  refine z_iload_n hX dX6_fail_1 1 rfl ?_
  refine z_putI hX dX6_fail_2 fl_66 pu_X6_0 0 rfl rfl ?_
  have hf : zfr [30] h0 (hs h0 30 0 p1) := zfr_hs hf (by decide)
  refine z_iconst hX dX6_fail_5 ?_
  obtain rfl := Option.some.inj hr
  exact hQ _ _ dX6_fail_6 hf

def fX6_isNode (p1 : Int) (h : HS) : Option (Int) := (fX6_isIn p1 0 ((h 30 8) - 1) h).bind fun r1 => if r1 = 0 ∨ r1 = 1 then some r1 else none
set_option maxRecDepth 100000 in
set_option maxHeartbeats 4000000 in
theorem mX6_isNode {G : ZG} {l0 : Launch} {ad : Nat → Nat} {h0 : HS} {p1 : Int} {o : Int} (hr : fX6_isNode p1 h0 = some o) : ZMi G l0 yX6_isNode wsX6_isNode ({ frames := 1, cells := 0, slots := 0, locals := 22 }) [.ref (ad 30), .int (iI p1)] sh_8 ad h0 [] o h0 := by
  refine ZMi.ofZ (cc := cX6_isNode) (maxL := 2) (ret := (some .boolean)) (own := RX6) (lv0 := [(0, .ref (ad 30)), (1, .int (iI p1))]) (by decide) rfl rfl rfl (Nat.le_of_ble_eq_true rfl) rfl ?_
  intro X hX hQ
  have hf : zfr [] h0 h0 := zfr_rf
  have fl_28 : zFld wsX6_isNode RX6 28 6 RX6 TX6 26 8 := ⟨by decide +kernel, by decide +kernel, by decide, rfl⟩
  unfold fX6_isNode at hr
  refine z_iload_n hX dX6_isNode_0 1 rfl ?_
  refine z_iconst hX dX6_isNode_1 ?_
  refine z_aload_n hX dX6_isNode_2 0 rfl ?_
  refine z_getI hX dX6_isNode_3 fl_28 0 rfl rfl ?_
  refine z_iconst hX dX6_isNode_6 ?_
  refine z_isub hX dX6_isNode_7 ?_
  obtain ⟨r1, hc1, hr⟩ := z_bind hr
  refine z_callS_i (As := [.int (iI p1), .int (iI 0), .int (iI ((h0 30 8) - 1))]) (k1 := 0) (n1 := 0) (nA := 3) hX (mX6_isIn hc1) dX6_isNode_8 gX6_isNode_X6_isIn rfl ⟨by decide, by decide, by decide +kernel⟩ ⟨by decide, by decide⟩ ⟨by decide, by decide⟩ rfl rfl (Nat.le_of_ble_eq_true rfl) (by decide +kernel) rfl rfl (fun hg1 => ?_)
  obtain ⟨hz, hr⟩ := z_ifg hr
  obtain rfl := Option.some.inj hr
  exact hQ _ _ dX6_isNode_11 hf hz

def fX6_kindOf_L2 : Nat → Int → Int → HS → Option (Int)
  | 0, _, _, _ => none
  | nf + 1, x1, x2, h => if wr (h 30 1) ≤ wr x2 then some (-1) else if (0 : Int) ≤ x2 ∧ x2 < 6 then if wr (h 31 x2) = wr x1 then some x2 else fX6_kindOf_L2 nf x1 (x2 + 1) h else none
def fX6_kindOf (p1 : Int) (h : HS) : Option (Int) := fX6_kindOf_L2 zF p1 0 h
set_option maxRecDepth 100000 in
set_option maxHeartbeats 4000000 in
theorem mX6_kindOf {G : ZG} {l0 : Launch} {ad : Nat → Nat} {h0 : HS} {p1 : Int} {o : Int} (hr : fX6_kindOf p1 h0 = some o) : ZMi G l0 yX6_kindOf wsX6_kindOf ({ frames := 0, cells := 0, slots := 0, locals := 0 }) [.ref (ad 30), .int (iI p1)] sh_8 ad h0 [] o h0 := by
  refine ZMi.of (cc := cX6_kindOf) (maxL := 3) (ret := (some .int)) (own := RX6) (lv0 := [(0, .ref (ad 30)), (1, .int (iI p1))]) (by decide) rfl rfl rfl (Nat.le_of_ble_eq_true rfl) rfl ?_
  intro X hX hQ
  have hf : zfr [] h0 h0 := zfr_rf
  have fl_80 : zFld wsX6_kindOf RX6 80 6 RX6 TX6 26 1 := ⟨by decide +kernel, by decide +kernel, by decide, rfl⟩
  have fl_9 : zFld wsX6_kindOf RX6 9 6 RX6 TX6 26 2 := ⟨by decide +kernel, by decide +kernel, by decide, rfl⟩
  have B2 : ∀ (nf : Nat) (x1 : Int) (x2 : Int), fX6_kindOf_L2 nf x1 x2 h0 = some o → ZW G X sh_8 ad h0 0 0 [(0, .ref (ad 30)), (1, .int (iI x1)), (2, .int (iI x2))] 2 [] := by
    intro nf
    induction nf with
    | zero => intro x1 x2 hr; exact z_none hr
    | succ n2 ih2 =>
      intro x1 x2 hr
      unfold fX6_kindOf_L2 at hr
      refine z_iload_n hX dX6_kindOf_2 2 rfl ?_
      refine z_aload_n hX dX6_kindOf_3 0 rfl ?_
      refine z_getI hX dX6_kindOf_4 fl_80 0 rfl rfl ?_
      refine z_icmp_ge (tgt := 28) hX dX6_kindOf_7 (by decide) rfl rfl hr (fun hr => ?_) (fun hr => ?_)
      · refine z_iconst hX dX6_kindOf_28 ?_
        obtain rfl := Option.some.inj hr
        exact hQ _ _ dX6_kindOf_29 hf
      · refine z_aload_n hX dX6_kindOf_10 0 rfl ?_
        refine z_getR (j := 31) hX dX6_kindOf_11 fl_9 0 rfl rfl ?_
        refine z_iload_n hX dX6_kindOf_14 2 rfl ?_
        refine z_iaload (b := 6) hX dX6_kindOf_15 1 rfl (by decide) rfl hr (fun hr => ?_)
        refine z_iload_n hX dX6_kindOf_16 1 rfl ?_
        refine z_icmp_ne (tgt := 22) hX dX6_kindOf_17 (by decide) rfl rfl hr (fun hr => ?_) (fun hr => ?_)
        · refine z_iinc (lv1 := [(2, .int (iI (x2 + 1))), (0, .ref (ad 30)), (1, .int (iI x1))]) hX dX6_kindOf_22 2 rfl (by decide) rfl ?_
          refine z_goto (tgt := 2) hX dX6_kindOf_25 (by decide) ?_
          refine z_lv [1, 2, 0] rfl ?_
          exact ih2 x1 (x2 + 1) hr
        · refine z_iload_n hX dX6_kindOf_20 2 rfl ?_
          obtain rfl := Option.some.inj hr
          exact hQ _ _ dX6_kindOf_21 hf
  unfold fX6_kindOf at hr
  refine z_iconst hX dX6_kindOf_0 ?_
  refine z_istore_n (lv1 := [(2, .int (iI 0)), (0, .ref (ad 30)), (1, .int (iI p1))]) hX dX6_kindOf_1 (by decide) rfl ?_
  refine z_lv [1, 2, 0] rfl ?_
  exact B2 zF p1 0 hr

def fX6_addKind_b25 (h : HS) : Option (Int × HS) := (fX6_fail 1 h).bind fun r1 => some (r1.1, r1.2)
def fX6_addKind_b48 (h : HS) : Option (Int × HS) := (fX6_fail 2 h).bind fun r2 => some (r2.1, r2.2)
def fX6_addKind (p1 : Int) (h : HS) : Option (Int × HS) := (fX6_isIn p1 65 90 (hs h 30 0 0)).bind fun r3 => if wr r3 = 0 then fX6_addKind_b25 (hs h 30 0 0) else (fX6_kindOf p1 (hs h 30 0 0)).bind fun r4 => if wr r4 = ((-1) : Int) then if wr (((hs h 30 0 0)) 30 1) = (6 : Int) then fX6_addKind_b48 (hs h 30 0 0) else if wr (((hs h 30 0 0)) 30 8) ≤ (1 : Int) then if (0 : Int) ≤ (((hs h 30 0 0)) 30 1) ∧ (((hs h 30 0 0)) 30 1) < 6 then some (((((hs (hs (hs h 30 0 0) 31 (((hs h 30 0 0)) 30 1) p1) 30 1 ((((hs (hs h 30 0 0) 31 (((hs h 30 0 0)) 30 1) p1)) 30 1) + 1))) 30 1) - 1), (hs (hs (hs h 30 0 0) 31 (((hs h 30 0 0)) 30 1) p1) 30 1 ((((hs (hs h 30 0 0) 31 (((hs h 30 0 0)) 30 1) p1)) 30 1) + 1))) else none else fX6_addKind_b48 (hs h 30 0 0) else fX6_addKind_b25 (hs h 30 0 0)
set_option maxRecDepth 100000 in
set_option maxHeartbeats 4000000 in
theorem mX6_addKind {G : ZG} {l0 : Launch} {ad : Nat → Nat} {h0 : HS} {p1 : Int} {o : Int × HS} (hr : fX6_addKind p1 h0 = some o) : ZMi G l0 yX6_addKind wsX6_addKind ({ frames := 1, cells := 0, slots := 0, locals := 22 }) [.ref (ad 30), .int (iI p1)] sh_8 ad h0 [30, 31] o.1 o.2 := by
  refine ZMi.of (cc := cX6_addKind) (maxL := 2) (ret := (some .int)) (own := RX6) (lv0 := [(0, .ref (ad 30)), (1, .int (iI p1))]) (by decide) rfl rfl rfl (Nat.le_of_ble_eq_true rfl) rfl ?_
  intro X hX hQ
  have hf : zfr [30, 31] h0 h0 := zfr_rf
  have fl_28 : zFld wsX6_addKind RX6 28 6 RX6 TX6 26 8 := ⟨by decide +kernel, by decide +kernel, by decide, rfl⟩
  have fl_66 : zFld wsX6_addKind RX6 66 6 RX6 TX6 26 0 := ⟨by decide +kernel, by decide +kernel, by decide, rfl⟩
  have fl_80 : zFld wsX6_addKind RX6 80 6 RX6 TX6 26 1 := ⟨by decide +kernel, by decide +kernel, by decide, rfl⟩
  have fl_9 : zFld wsX6_addKind RX6 9 6 RX6 TX6 26 2 := ⟨by decide +kernel, by decide +kernel, by decide, rfl⟩
  have pu_X6_0 : zPut TX6 26 0 tyX6 .int := ⟨tyX6_ok, nmX6, rfl, by decide +kernel⟩
  have pu_X6_1 : zPut TX6 26 1 tyX6 .int := ⟨tyX6_ok, nmX6, rfl, by decide +kernel⟩
  have B25 : ∀ (h : HS), zfr [30, 31] h0 h → fX6_addKind_b25 h = some o → ZW G X sh_8 ad h 0 0 [(0, .ref (ad 30))] 25 [] := by
    intro h hf hr
    unfold fX6_addKind_b25 at hr
    refine z_aload_n hX dX6_addKind_25 0 rfl ?_
    refine z_iconst hX dX6_addKind_26 ?_
    obtain ⟨r1, hc1, hr⟩ := z_bind hr
    refine z_callV_i (As := [.int (iI 1)]) (k1 := 0) (n1 := 0) (nA := 1) hX (mX6_fail hc1) dX6_addKind_27 gX6_addKind_X6_fail rfl ⟨rfl, by decide, by decide, by decide +kernel⟩ ⟨by decide, by decide⟩ ⟨by decide, by decide⟩ 0 rfl rfl rfl rfl (Nat.le_of_ble_eq_true rfl) (by decide +kernel) rfl rfl (fun hg1 => ?_)
    have hf : zfr [30, 31] h0 r1.2 := zfr_tr hf (by decide) hg1
    obtain rfl := Option.some.inj hr
    exact hQ _ _ dX6_addKind_30 hf
  have B48 : ∀ (h : HS), zfr [30, 31] h0 h → fX6_addKind_b48 h = some o → ZW G X sh_8 ad h 0 0 [(0, .ref (ad 30))] 48 [] := by
    intro h hf hr
    unfold fX6_addKind_b48 at hr
    refine z_aload_n hX dX6_addKind_48 0 rfl ?_
    refine z_iconst hX dX6_addKind_49 ?_
    obtain ⟨r2, hc2, hr⟩ := z_bind hr
    refine z_callV_i (As := [.int (iI 2)]) (k1 := 0) (n1 := 0) (nA := 1) hX (mX6_fail hc2) dX6_addKind_50 gX6_addKind_X6_fail rfl ⟨rfl, by decide, by decide, by decide +kernel⟩ ⟨by decide, by decide⟩ ⟨by decide, by decide⟩ 0 rfl rfl rfl rfl (Nat.le_of_ble_eq_true rfl) (by decide +kernel) rfl rfl (fun hg2 => ?_)
    have hf : zfr [30, 31] h0 r2.2 := zfr_tr hf (by decide) hg2
    obtain rfl := Option.some.inj hr
    exact hQ _ _ dX6_addKind_53 hf
  unfold fX6_addKind at hr
  refine z_aload_n hX dX6_addKind_0 0 rfl ?_
  refine z_iconst hX dX6_addKind_1 ?_
  refine z_putI hX dX6_addKind_2 fl_66 pu_X6_0 0 rfl rfl ?_
  have hf : zfr [30, 31] h0 (hs h0 30 0 0) := zfr_hs hf (by decide)
  refine z_iload_n hX dX6_addKind_5 1 rfl ?_
  refine z_bipush hX dX6_addKind_6 (by decide +kernel) ?_
  refine z_bipush hX dX6_addKind_8 (by decide +kernel) ?_
  obtain ⟨r3, hc3, hr⟩ := z_bind hr
  refine z_callS_i (As := [.int (iI p1), .int (iI 65), .int (iI 90)]) (k1 := 0) (n1 := 0) (nA := 3) hX (mX6_isIn hc3) dX6_addKind_10 gX6_addKind_X6_isIn rfl ⟨by decide, by decide, by decide +kernel⟩ ⟨by decide, by decide⟩ ⟨by decide, by decide⟩ rfl rfl (Nat.le_of_ble_eq_true rfl) (by decide +kernel) rfl rfl (fun hg3 => ?_)
  refine z_if_eq (tgt := 25) hX dX6_addKind_13 (by decide) rfl hr (fun hr => ?_) (fun hr => ?_)
  · refine z_lv [0] rfl ?_
    exact B25 (hs h0 30 0 0) hf hr
  · refine z_aload_n hX dX6_addKind_16 0 rfl ?_
    refine z_iload_n hX dX6_addKind_17 1 rfl ?_
    obtain ⟨r4, hc4, hr⟩ := z_bind hr
    refine z_callV_i (As := [.int (iI p1)]) (k1 := 0) (n1 := 0) (nA := 1) hX (mX6_kindOf hc4) dX6_addKind_18 gX6_addKind_X6_kindOf rfl ⟨rfl, by decide, by decide, by decide +kernel⟩ ⟨by decide, by decide⟩ ⟨by decide, by decide⟩ 0 rfl rfl rfl rfl (Nat.le_of_ble_eq_true rfl) (by decide +kernel) rfl rfl (fun hg4 => ?_)
    refine z_iconst hX dX6_addKind_21 ?_
    refine z_icmp_eq (tgt := 31) hX dX6_addKind_22 (by decide) rfl (wr_of (by decide) (by decide)) hr (fun hr => ?_) (fun hr => ?_)
    · refine z_aload_n hX dX6_addKind_31 0 rfl ?_
      refine z_getI hX dX6_addKind_32 fl_80 0 rfl rfl ?_
      refine z_bipush hX dX6_addKind_35 (by decide +kernel) ?_
      refine z_icmp_eq (tgt := 48) hX dX6_addKind_37 (by decide) rfl (wr_of (by decide) (by decide)) hr (fun hr => ?_) (fun hr => ?_)
      · refine z_lv [0] rfl ?_
        exact B48 (hs h0 30 0 0) hf hr
      · refine z_aload_n hX dX6_addKind_40 0 rfl ?_
        refine z_getI hX dX6_addKind_41 fl_28 0 rfl rfl ?_
        refine z_iconst hX dX6_addKind_44 ?_
        refine z_icmp_le (tgt := 54) hX dX6_addKind_45 (by decide) rfl (wr_of (by decide) (by decide)) hr (fun hr => ?_) (fun hr => ?_)
        · refine z_aload_n hX dX6_addKind_54 0 rfl ?_
          refine z_getR (j := 31) hX dX6_addKind_55 fl_9 0 rfl rfl ?_
          refine z_aload_n hX dX6_addKind_58 0 rfl ?_
          refine z_getI hX dX6_addKind_59 fl_80 0 rfl rfl ?_
          refine z_iload_n hX dX6_addKind_62 1 rfl ?_
          refine z_iastore (b := 6) hX dX6_addKind_63 1 rfl (by decide) rfl hr (fun hr => ?_)
          have hf : zfr [30, 31] h0 (hs (hs h0 30 0 0) 31 (((hs h0 30 0 0)) 30 1) p1) := zfr_hs hf (by decide)
          refine z_aload_n hX dX6_addKind_64 0 rfl ?_
          refine z_dup hX dX6_addKind_65 rfl ?_
          refine z_getI hX dX6_addKind_66 fl_80 0 rfl rfl ?_
          refine z_iconst hX dX6_addKind_69 ?_
          refine z_iadd hX dX6_addKind_70 ?_
          refine z_putI hX dX6_addKind_71 fl_80 pu_X6_1 0 rfl rfl ?_
          have hf : zfr [30, 31] h0 (hs (hs (hs h0 30 0 0) 31 (((hs h0 30 0 0)) 30 1) p1) 30 1 ((((hs (hs h0 30 0 0) 31 (((hs h0 30 0 0)) 30 1) p1)) 30 1) + 1)) := zfr_hs hf (by decide)
          refine z_aload_n hX dX6_addKind_74 0 rfl ?_
          refine z_getI hX dX6_addKind_75 fl_80 0 rfl rfl ?_
          refine z_iconst hX dX6_addKind_78 ?_
          refine z_isub hX dX6_addKind_79 ?_
          obtain rfl := Option.some.inj hr
          exact hQ _ _ dX6_addKind_80 hf
        · refine z_lv [0] rfl ?_
          exact B48 (hs h0 30 0 0) hf hr
    · refine z_lv [0] rfl ?_
      exact B25 (hs h0 30 0 0) hf hr

def fX6_addStep_b64 (h : HS) : Option (Int × HS) := (fX6_fail 2 h).bind fun r1 => some (r1.1, r1.2)
def fX6_addStep_b89 (h : HS) : Option (Int × HS) := (fX6_fail 3 h).bind fun r2 => some (r2.1, r2.2)
def fX6_addStep_b53 (x1 : Int) (x2 : Int) (x3 : Int) (x4 : Int) (h : HS) : Option (Int × HS) := (fX6_isIn x4 1 7 h).bind fun r3 => if wr r3 = 0 then fX6_addStep_b64 h else if (0 : Int) ≤ x1 ∧ x1 < 6 then if wr (h 32 x1) = (8 : Int) then fX6_addStep_b89 h else if wr (h 30 8) ≤ (1 : Int) then if (0 : Int) ≤ x1 ∧ x1 < 6 then if (0 : Int) ≤ (3 * ((8 * x1) + (h 32 x1))) ∧ (3 * ((8 * x1) + (h 32 x1))) < 144 then if (0 : Int) ≤ ((3 * ((8 * x1) + (h 32 x1))) + 1) ∧ ((3 * ((8 * x1) + (h 32 x1))) + 1) < 144 then if (0 : Int) ≤ ((3 * ((8 * x1) + (h 32 x1))) + 2) ∧ ((3 * ((8 * x1) + (h 32 x1))) + 2) < 144 then if (0 : Int) ≤ x1 ∧ x1 < 6 then if (0 : Int) ≤ x1 ∧ x1 < 6 then if (0 : Int) ≤ x1 ∧ x1 < 6 then some ((((hs (hs (hs (hs h 33 (3 * ((8 * x1) + (h 32 x1))) x2) 33 ((3 * ((8 * x1) + (h 32 x1))) + 1) x3) 33 ((3 * ((8 * x1) + (h 32 x1))) + 2) x4) 32 x1 ((((hs (hs (hs h 33 (3 * ((8 * x1) + (h 32 x1))) x2) 33 ((3 * ((8 * x1) + (h 32 x1))) + 1) x3) 33 ((3 * ((8 * x1) + (h 32 x1))) + 2) x4)) 32 x1) + 1))) 32 x1), (hs (hs (hs (hs h 33 (3 * ((8 * x1) + (h 32 x1))) x2) 33 ((3 * ((8 * x1) + (h 32 x1))) + 1) x3) 33 ((3 * ((8 * x1) + (h 32 x1))) + 2) x4) 32 x1 ((((hs (hs (hs h 33 (3 * ((8 * x1) + (h 32 x1))) x2) 33 ((3 * ((8 * x1) + (h 32 x1))) + 1) x3) 33 ((3 * ((8 * x1) + (h 32 x1))) + 2) x4)) 32 x1) + 1))) else none else none else none else none else none else none else none else fX6_addStep_b89 h else none
def fX6_addStep (p1 : Int) (p2 : Int) (p3 : Int) (p4 : Int) (h : HS) : Option (Int × HS) := (fX6_isIn p1 0 ((((hs h 30 0 0)) 30 1) - 1) (hs h 30 0 0)).bind fun r4 => if wr r4 = 0 then (fX6_fail 1 (hs h 30 0 0)).bind fun r7 => some (r7.1, r7.2) else (fX6_isIn p2 (-3) 3 (hs h 30 0 0)).bind fun r5 => if wr r5 = 0 then fX6_addStep_b64 (hs h 30 0 0) else (fX6_isIn p3 (-3) 3 (hs h 30 0 0)).bind fun r6 => if wr r6 = 0 then fX6_addStep_b64 (hs h 30 0 0) else if wr p2 = 0 then if wr p3 = 0 then fX6_addStep_b64 (hs h 30 0 0) else fX6_addStep_b53 p1 p2 p3 p4 (hs h 30 0 0) else fX6_addStep_b53 p1 p2 p3 p4 (hs h 30 0 0)
set_option maxRecDepth 100000 in
set_option maxHeartbeats 4000000 in
theorem mX6_addStep {G : ZG} {l0 : Launch} {ad : Nat → Nat} {h0 : HS} {p1 : Int} {p2 : Int} {p3 : Int} {p4 : Int} {o : Int × HS} (hr : fX6_addStep p1 p2 p3 p4 h0 = some o) : ZMi G l0 yX6_addStep wsX6_addStep ({ frames := 1, cells := 0, slots := 0, locals := 22 }) [.ref (ad 30), .int (iI p1), .int (iI p2), .int (iI p3), .int (iI p4)] sh_8 ad h0 [30, 32, 33] o.1 o.2 := by
  refine ZMi.of (cc := cX6_addStep) (maxL := 6) (ret := (some .int)) (own := RX6) (lv0 := [(0, .ref (ad 30)), (1, .int (iI p1)), (2, .int (iI p2)), (3, .int (iI p3)), (4, .int (iI p4))]) (by decide) rfl rfl rfl (Nat.le_of_ble_eq_true rfl) rfl ?_
  intro X hX hQ
  have hf : zfr [30, 32, 33] h0 h0 := zfr_rf
  have fl_13 : zFld wsX6_addStep RX6 13 6 RX6 TX6 26 3 := ⟨by decide +kernel, by decide +kernel, by decide, rfl⟩
  have fl_16 : zFld wsX6_addStep RX6 16 6 RX6 TX6 26 4 := ⟨by decide +kernel, by decide +kernel, by decide, rfl⟩
  have fl_28 : zFld wsX6_addStep RX6 28 6 RX6 TX6 26 8 := ⟨by decide +kernel, by decide +kernel, by decide, rfl⟩
  have fl_66 : zFld wsX6_addStep RX6 66 6 RX6 TX6 26 0 := ⟨by decide +kernel, by decide +kernel, by decide, rfl⟩
  have fl_80 : zFld wsX6_addStep RX6 80 6 RX6 TX6 26 1 := ⟨by decide +kernel, by decide +kernel, by decide, rfl⟩
  have pu_X6_0 : zPut TX6 26 0 tyX6 .int := ⟨tyX6_ok, nmX6, rfl, by decide +kernel⟩
  have B64 : ∀ (h : HS), zfr [30, 32, 33] h0 h → fX6_addStep_b64 h = some o → ZW G X sh_8 ad h 0 0 [(0, .ref (ad 30))] 64 [] := by
    intro h hf hr
    unfold fX6_addStep_b64 at hr
    refine z_aload_n hX dX6_addStep_64 0 rfl ?_
    refine z_iconst hX dX6_addStep_65 ?_
    obtain ⟨r1, hc1, hr⟩ := z_bind hr
    refine z_callV_i (As := [.int (iI 2)]) (k1 := 0) (n1 := 0) (nA := 1) hX (mX6_fail hc1) dX6_addStep_66 gX6_addStep_X6_fail rfl ⟨rfl, by decide, by decide, by decide +kernel⟩ ⟨by decide, by decide⟩ ⟨by decide, by decide⟩ 0 rfl rfl rfl rfl (Nat.le_of_ble_eq_true rfl) (by decide +kernel) rfl rfl (fun hg1 => ?_)
    have hf : zfr [30, 32, 33] h0 r1.2 := zfr_tr hf (by decide) hg1
    obtain rfl := Option.some.inj hr
    exact hQ _ _ dX6_addStep_69 hf
  have B89 : ∀ (h : HS), zfr [30, 32, 33] h0 h → fX6_addStep_b89 h = some o → ZW G X sh_8 ad h 0 0 [(0, .ref (ad 30))] 89 [] := by
    intro h hf hr
    unfold fX6_addStep_b89 at hr
    refine z_aload_n hX dX6_addStep_89 0 rfl ?_
    refine z_iconst hX dX6_addStep_90 ?_
    obtain ⟨r2, hc2, hr⟩ := z_bind hr
    refine z_callV_i (As := [.int (iI 3)]) (k1 := 0) (n1 := 0) (nA := 1) hX (mX6_fail hc2) dX6_addStep_91 gX6_addStep_X6_fail rfl ⟨rfl, by decide, by decide, by decide +kernel⟩ ⟨by decide, by decide⟩ ⟨by decide, by decide⟩ 0 rfl rfl rfl rfl (Nat.le_of_ble_eq_true rfl) (by decide +kernel) rfl rfl (fun hg2 => ?_)
    have hf : zfr [30, 32, 33] h0 r2.2 := zfr_tr hf (by decide) hg2
    obtain rfl := Option.some.inj hr
    exact hQ _ _ dX6_addStep_94 hf
  have B53 : ∀ (x1 : Int) (x2 : Int) (x3 : Int) (x4 : Int) (h : HS), zfr [30, 32, 33] h0 h → fX6_addStep_b53 x1 x2 x3 x4 h = some o → ZW G X sh_8 ad h 0 0 [(0, .ref (ad 30)), (1, .int (iI x1)), (2, .int (iI x2)), (3, .int (iI x3)), (4, .int (iI x4))] 53 [] := by
    intro x1 x2 x3 x4 h hf hr
    unfold fX6_addStep_b53 at hr
    refine z_iload hX dX6_addStep_53 4 rfl ?_
    refine z_iconst hX dX6_addStep_55 ?_
    refine z_bipush hX dX6_addStep_56 (by decide +kernel) ?_
    obtain ⟨r3, hc3, hr⟩ := z_bind hr
    refine z_callS_i (As := [.int (iI x4), .int (iI 1), .int (iI 7)]) (k1 := 0) (n1 := 0) (nA := 3) hX (mX6_isIn hc3) dX6_addStep_58 gX6_addStep_X6_isIn rfl ⟨by decide, by decide, by decide +kernel⟩ ⟨by decide, by decide⟩ ⟨by decide, by decide⟩ rfl rfl (Nat.le_of_ble_eq_true rfl) (by decide +kernel) rfl rfl (fun hg3 => ?_)
    refine z_if_ne (tgt := 70) hX dX6_addStep_61 (by decide) rfl hr (fun hr => ?_) (fun hr => ?_)
    · refine z_aload_n hX dX6_addStep_70 0 rfl ?_
      refine z_getR (j := 32) hX dX6_addStep_71 fl_13 0 rfl rfl ?_
      refine z_iload_n hX dX6_addStep_74 1 rfl ?_
      refine z_iaload (b := 6) hX dX6_addStep_75 2 rfl (by decide) rfl hr (fun hr => ?_)
      refine z_bipush hX dX6_addStep_76 (by decide +kernel) ?_
      refine z_icmp_eq (tgt := 89) hX dX6_addStep_78 (by decide) rfl (wr_of (by decide) (by decide)) hr (fun hr => ?_) (fun hr => ?_)
      · refine z_lv [0] rfl ?_
        exact B89 h hf hr
      · refine z_aload_n hX dX6_addStep_81 0 rfl ?_
        refine z_getI hX dX6_addStep_82 fl_28 0 rfl rfl ?_
        refine z_iconst hX dX6_addStep_85 ?_
        refine z_icmp_le (tgt := 95) hX dX6_addStep_86 (by decide) rfl (wr_of (by decide) (by decide)) hr (fun hr => ?_) (fun hr => ?_)
        · refine z_iconst hX dX6_addStep_95 ?_
          refine z_bipush hX dX6_addStep_96 (by decide +kernel) ?_
          refine z_iload_n hX dX6_addStep_98 1 rfl ?_
          refine z_imul hX dX6_addStep_99 ?_
          refine z_aload_n hX dX6_addStep_100 0 rfl ?_
          refine z_getR (j := 32) hX dX6_addStep_101 fl_13 0 rfl rfl ?_
          refine z_iload_n hX dX6_addStep_104 1 rfl ?_
          refine z_iaload (b := 6) hX dX6_addStep_105 2 rfl (by decide) rfl hr (fun hr => ?_)
          refine z_iadd hX dX6_addStep_106 ?_
          refine z_imul hX dX6_addStep_107 ?_
          refine z_istore (lv1 := [(5, .int (iI (3 * ((8 * x1) + (h 32 x1))))), (0, .ref (ad 30)), (1, .int (iI x1)), (2, .int (iI x2)), (3, .int (iI x3)), (4, .int (iI x4))]) hX dX6_addStep_108 (by decide) rfl ?_
          refine z_aload_n hX dX6_addStep_110 1 rfl ?_
          refine z_getR (j := 33) hX dX6_addStep_111 fl_16 0 rfl rfl ?_
          refine z_iload hX dX6_addStep_114 0 rfl ?_
          refine z_iload_n hX dX6_addStep_116 3 rfl ?_
          refine z_iastore (b := 144) hX dX6_addStep_117 3 rfl (by decide) rfl hr (fun hr => ?_)
          have hf : zfr [30, 32, 33] h0 (hs h 33 (3 * ((8 * x1) + (h 32 x1))) x2) := zfr_hs hf (by decide)
          refine z_aload_n hX dX6_addStep_118 1 rfl ?_
          refine z_getR (j := 33) hX dX6_addStep_119 fl_16 0 rfl rfl ?_
          refine z_iload hX dX6_addStep_122 0 rfl ?_
          refine z_iconst hX dX6_addStep_124 ?_
          refine z_iadd hX dX6_addStep_125 ?_
          refine z_iload_n hX dX6_addStep_126 4 rfl ?_
          refine z_iastore (b := 144) hX dX6_addStep_127 3 rfl (by decide) rfl hr (fun hr => ?_)
          have hf : zfr [30, 32, 33] h0 (hs (hs h 33 (3 * ((8 * x1) + (h 32 x1))) x2) 33 ((3 * ((8 * x1) + (h 32 x1))) + 1) x3) := zfr_hs hf (by decide)
          refine z_aload_n hX dX6_addStep_128 1 rfl ?_
          refine z_getR (j := 33) hX dX6_addStep_129 fl_16 0 rfl rfl ?_
          refine z_iload hX dX6_addStep_132 0 rfl ?_
          refine z_iconst hX dX6_addStep_134 ?_
          refine z_iadd hX dX6_addStep_135 ?_
          refine z_iload hX dX6_addStep_136 5 rfl ?_
          refine z_iastore (b := 144) hX dX6_addStep_138 3 rfl (by decide) rfl hr (fun hr => ?_)
          have hf : zfr [30, 32, 33] h0 (hs (hs (hs h 33 (3 * ((8 * x1) + (h 32 x1))) x2) 33 ((3 * ((8 * x1) + (h 32 x1))) + 1) x3) 33 ((3 * ((8 * x1) + (h 32 x1))) + 2) x4) := zfr_hs hf (by decide)
          refine z_aload_n hX dX6_addStep_139 1 rfl ?_
          refine z_getR (j := 32) hX dX6_addStep_140 fl_13 0 rfl rfl ?_
          refine z_iload_n hX dX6_addStep_143 2 rfl ?_
          refine z_dup2 hX dX6_addStep_144 rfl rfl ?_
          refine z_iaload (b := 6) hX dX6_addStep_145 2 rfl (by decide) rfl hr (fun hr => ?_)
          refine z_iconst hX dX6_addStep_146 ?_
          refine z_iadd hX dX6_addStep_147 ?_
          refine z_iastore (b := 6) hX dX6_addStep_148 2 rfl (by decide) rfl hr (fun hr => ?_)
          have hf : zfr [30, 32, 33] h0 (hs (hs (hs (hs h 33 (3 * ((8 * x1) + (h 32 x1))) x2) 33 ((3 * ((8 * x1) + (h 32 x1))) + 1) x3) 33 ((3 * ((8 * x1) + (h 32 x1))) + 2) x4) 32 x1 ((((hs (hs (hs h 33 (3 * ((8 * x1) + (h 32 x1))) x2) 33 ((3 * ((8 * x1) + (h 32 x1))) + 1) x3) 33 ((3 * ((8 * x1) + (h 32 x1))) + 2) x4)) 32 x1) + 1)) := zfr_hs hf (by decide)
          refine z_aload_n hX dX6_addStep_149 1 rfl ?_
          refine z_getR (j := 32) hX dX6_addStep_150 fl_13 0 rfl rfl ?_
          refine z_iload_n hX dX6_addStep_153 2 rfl ?_
          refine z_iaload (b := 6) hX dX6_addStep_154 2 rfl (by decide) rfl hr (fun hr => ?_)
          obtain rfl := Option.some.inj hr
          exact hQ _ _ dX6_addStep_155 hf
        · refine z_lv [0] rfl ?_
          exact B89 h hf hr
    · refine z_lv [0] rfl ?_
      exact B64 h hf hr
  unfold fX6_addStep at hr
  refine z_aload_n hX dX6_addStep_0 0 rfl ?_
  refine z_iconst hX dX6_addStep_1 ?_
  refine z_putI hX dX6_addStep_2 fl_66 pu_X6_0 0 rfl rfl ?_
  have hf : zfr [30, 32, 33] h0 (hs h0 30 0 0) := zfr_hs hf (by decide)
  refine z_iload_n hX dX6_addStep_5 1 rfl ?_
  refine z_iconst hX dX6_addStep_6 ?_
  refine z_aload_n hX dX6_addStep_7 0 rfl ?_
  refine z_getI hX dX6_addStep_8 fl_80 0 rfl rfl ?_
  refine z_iconst hX dX6_addStep_11 ?_
  refine z_isub hX dX6_addStep_12 ?_
  obtain ⟨r4, hc4, hr⟩ := z_bind hr
  refine z_callS_i (As := [.int (iI p1), .int (iI 0), .int (iI ((((hs h0 30 0 0)) 30 1) - 1))]) (k1 := 0) (n1 := 0) (nA := 3) hX (mX6_isIn hc4) dX6_addStep_13 gX6_addStep_X6_isIn rfl ⟨by decide, by decide, by decide +kernel⟩ ⟨by decide, by decide⟩ ⟨by decide, by decide⟩ rfl rfl (Nat.le_of_ble_eq_true rfl) (by decide +kernel) rfl rfl (fun hg4 => ?_)
  refine z_if_ne (tgt := 25) hX dX6_addStep_16 (by decide) rfl hr (fun hr => ?_) (fun hr => ?_)
  · refine z_iload_n hX dX6_addStep_25 2 rfl ?_
    refine z_bipush hX dX6_addStep_26 (by decide +kernel) ?_
    refine z_iconst hX dX6_addStep_28 ?_
    obtain ⟨r5, hc5, hr⟩ := z_bind hr
    refine z_callS_i (As := [.int (iI p2), .int (iI (-3)), .int (iI 3)]) (k1 := 0) (n1 := 0) (nA := 3) hX (mX6_isIn hc5) dX6_addStep_29 gX6_addStep_X6_isIn rfl ⟨by decide, by decide, by decide +kernel⟩ ⟨by decide, by decide⟩ ⟨by decide, by decide⟩ rfl rfl (Nat.le_of_ble_eq_true rfl) (by decide +kernel) rfl rfl (fun hg5 => ?_)
    refine z_if_eq (tgt := 64) hX dX6_addStep_32 (by decide) rfl hr (fun hr => ?_) (fun hr => ?_)
    · refine z_lv [0] rfl ?_
      exact B64 (hs h0 30 0 0) hf hr
    · refine z_iload_n hX dX6_addStep_35 3 rfl ?_
      refine z_bipush hX dX6_addStep_36 (by decide +kernel) ?_
      refine z_iconst hX dX6_addStep_38 ?_
      obtain ⟨r6, hc6, hr⟩ := z_bind hr
      refine z_callS_i (As := [.int (iI p3), .int (iI (-3)), .int (iI 3)]) (k1 := 0) (n1 := 0) (nA := 3) hX (mX6_isIn hc6) dX6_addStep_39 gX6_addStep_X6_isIn rfl ⟨by decide, by decide, by decide +kernel⟩ ⟨by decide, by decide⟩ ⟨by decide, by decide⟩ rfl rfl (Nat.le_of_ble_eq_true rfl) (by decide +kernel) rfl rfl (fun hg6 => ?_)
      refine z_if_eq (tgt := 64) hX dX6_addStep_42 (by decide) rfl hr (fun hr => ?_) (fun hr => ?_)
      · refine z_lv [0] rfl ?_
        exact B64 (hs h0 30 0 0) hf hr
      · refine z_iload_n hX dX6_addStep_45 2 rfl ?_
        refine z_if_ne (tgt := 53) hX dX6_addStep_46 (by decide) rfl hr (fun hr => ?_) (fun hr => ?_)
        · exact B53 p1 p2 p3 p4 (hs h0 30 0 0) hf hr
        · refine z_iload_n hX dX6_addStep_49 3 rfl ?_
          refine z_if_eq (tgt := 64) hX dX6_addStep_50 (by decide) rfl hr (fun hr => ?_) (fun hr => ?_)
          · refine z_lv [0] rfl ?_
            exact B64 (hs h0 30 0 0) hf hr
          · exact B53 p1 p2 p3 p4 (hs h0 30 0 0) hf hr
  · refine z_aload_n hX dX6_addStep_19 0 rfl ?_
    refine z_iconst hX dX6_addStep_20 ?_
    obtain ⟨r7, hc7, hr⟩ := z_bind hr
    refine z_callV_i (As := [.int (iI 1)]) (k1 := 0) (n1 := 0) (nA := 1) hX (mX6_fail hc7) dX6_addStep_21 gX6_addStep_X6_fail rfl ⟨rfl, by decide, by decide, by decide +kernel⟩ ⟨by decide, by decide⟩ ⟨by decide, by decide⟩ 0 rfl rfl rfl rfl (Nat.le_of_ble_eq_true rfl) (by decide +kernel) rfl rfl (fun hg7 => ?_)
    have hf : zfr [30, 32, 33] h0 r7.2 := zfr_tr hf (by decide) hg7
    obtain rfl := Option.some.inj hr
    exact hQ _ _ dX6_addStep_24 hf

def fX6_put_b31 (h : HS) : Option (Int × HS) := (fX6_fail 1 h).bind fun r1 => some (r1.1, r1.2)
def fX6_put_b93 (x1 : Int) (x4 : Int) (s1 : Int) (s2 : Int) (h : HS) : Option (Int × HS) := if (0 : Int) ≤ s1 ∧ s1 < 64 then if (0 : Int) ≤ x1 ∧ x1 < 64 then if (0 : Int) ≤ x1 ∧ x1 < 64 then some (x4, (hs (hs h 34 s1 s2) 35 x1 (((hs h 34 s1 s2)) 34 x1))) else none else none else none
def fX6_put_b37 (x1 : Int) (x2 : Int) (x3 : Int) (h : HS) : Option (Int × HS) := (fX6_isIn x3 0 1 h).bind fun r2 => if wr r2 = 0 then (fX6_fail 2 h).bind fun r4 => some (r4.1, r4.2) else if wr (h 30 8) ≤ (1 : Int) then if (0 : Int) ≤ x1 ∧ x1 < 64 then if wr x2 = ((-1) : Int) then fX6_put_b93 x1 (h 34 x1) x1 (-1) h else fX6_put_b93 x1 (h 34 x1) x1 ((2 * x2) + x3) h else none else (fX6_fail 3 h).bind fun r3 => some (r3.1, r3.2)
def fX6_put (p1 : Int) (p2 : Int) (p3 : Int) (h : HS) : Option (Int × HS) := (fX6_isSquare p1 (hs h 30 0 0)).bind fun r5 => if wr r5 = 0 then fX6_put_b31 (hs h 30 0 0) else if wr p2 = ((-1) : Int) then fX6_put_b37 p1 p2 p3 (hs h 30 0 0) else (fX6_isIn p2 0 ((((hs h 30 0 0)) 30 1) - 1) (hs h 30 0 0)).bind fun r6 => if wr r6 = 0 then fX6_put_b31 (hs h 30 0 0) else fX6_put_b37 p1 p2 p3 (hs h 30 0 0)
set_option maxRecDepth 100000 in
set_option maxHeartbeats 4000000 in
theorem mX6_put {G : ZG} {l0 : Launch} {ad : Nat → Nat} {h0 : HS} {p1 : Int} {p2 : Int} {p3 : Int} {o : Int × HS} (hr : fX6_put p1 p2 p3 h0 = some o) : ZMi G l0 yX6_put wsX6_put ({ frames := 2, cells := 0, slots := 0, locals := 42 }) [.ref (ad 30), .int (iI p1), .int (iI p2), .int (iI p3)] sh_8 ad h0 [30, 34, 35] o.1 o.2 := by
  refine ZMi.of (cc := cX6_put) (maxL := 5) (ret := (some .int)) (own := RX6) (lv0 := [(0, .ref (ad 30)), (1, .int (iI p1)), (2, .int (iI p2)), (3, .int (iI p3))]) (by decide) rfl rfl rfl (Nat.le_of_ble_eq_true rfl) rfl ?_
  intro X hX hQ
  have hf : zfr [30, 34, 35] h0 h0 := zfr_rf
  have fl_19 : zFld wsX6_put RX6 19 6 RX6 TX6 26 5 := ⟨by decide +kernel, by decide +kernel, by decide, rfl⟩
  have fl_22 : zFld wsX6_put RX6 22 6 RX6 TX6 26 6 := ⟨by decide +kernel, by decide +kernel, by decide, rfl⟩
  have fl_28 : zFld wsX6_put RX6 28 6 RX6 TX6 26 8 := ⟨by decide +kernel, by decide +kernel, by decide, rfl⟩
  have fl_66 : zFld wsX6_put RX6 66 6 RX6 TX6 26 0 := ⟨by decide +kernel, by decide +kernel, by decide, rfl⟩
  have fl_80 : zFld wsX6_put RX6 80 6 RX6 TX6 26 1 := ⟨by decide +kernel, by decide +kernel, by decide, rfl⟩
  have pu_X6_0 : zPut TX6 26 0 tyX6 .int := ⟨tyX6_ok, nmX6, rfl, by decide +kernel⟩
  have B31 : ∀ (h : HS), zfr [30, 34, 35] h0 h → fX6_put_b31 h = some o → ZW G X sh_8 ad h 0 0 [(0, .ref (ad 30))] 31 [] := by
    intro h hf hr
    unfold fX6_put_b31 at hr
    refine z_aload_n hX dX6_put_31 0 rfl ?_
    refine z_iconst hX dX6_put_32 ?_
    obtain ⟨r1, hc1, hr⟩ := z_bind hr
    refine z_callV_i (As := [.int (iI 1)]) (k1 := 0) (n1 := 0) (nA := 1) hX (mX6_fail hc1) dX6_put_33 gX6_put_X6_fail rfl ⟨rfl, by decide, by decide, by decide +kernel⟩ ⟨by decide, by decide⟩ ⟨by decide, by decide⟩ 0 rfl rfl rfl rfl (Nat.le_of_ble_eq_true rfl) (by decide +kernel) rfl rfl (fun hg1 => ?_)
    have hf : zfr [30, 34, 35] h0 r1.2 := zfr_tr hf (by decide) hg1
    obtain rfl := Option.some.inj hr
    exact hQ _ _ dX6_put_36 hf
  have B93 : ∀ (x1 : Int) (x4 : Int) (s1 : Int) (s2 : Int) (h : HS), zfr [30, 34, 35] h0 h → fX6_put_b93 x1 x4 s1 s2 h = some o → ZW G X sh_8 ad h 0 0 [(0, .ref (ad 30)), (1, .int (iI x1)), (4, .int (iI x4))] 93 [.int (iI s2), .int (iI s1), .ref (ad 34)] := by
    intro x1 x4 s1 s2 h hf hr
    unfold fX6_put_b93 at hr
    refine z_iastore (b := 64) hX dX6_put_93 4 rfl (by decide) rfl hr (fun hr => ?_)
    have hf : zfr [30, 34, 35] h0 (hs h 34 s1 s2) := zfr_hs hf (by decide)
    refine z_aload_n hX dX6_put_94 0 rfl ?_
    refine z_getR (j := 35) hX dX6_put_95 fl_22 0 rfl rfl ?_
    refine z_iload_n hX dX6_put_98 1 rfl ?_
    refine z_aload_n hX dX6_put_99 0 rfl ?_
    refine z_getR (j := 34) hX dX6_put_100 fl_19 0 rfl rfl ?_
    refine z_iload_n hX dX6_put_103 1 rfl ?_
    refine z_iaload (b := 64) hX dX6_put_104 4 rfl (by decide) rfl hr (fun hr => ?_)
    refine z_iastore (b := 64) hX dX6_put_105 5 rfl (by decide) rfl hr (fun hr => ?_)
    have hf : zfr [30, 34, 35] h0 (hs (hs h 34 s1 s2) 35 x1 (((hs h 34 s1 s2)) 34 x1)) := zfr_hs hf (by decide)
    refine z_iload hX dX6_put_106 2 rfl ?_
    obtain rfl := Option.some.inj hr
    exact hQ _ _ dX6_put_108 hf
  have B37 : ∀ (x1 : Int) (x2 : Int) (x3 : Int) (h : HS), zfr [30, 34, 35] h0 h → fX6_put_b37 x1 x2 x3 h = some o → ZW G X sh_8 ad h 0 0 [(0, .ref (ad 30)), (1, .int (iI x1)), (2, .int (iI x2)), (3, .int (iI x3))] 37 [] := by
    intro x1 x2 x3 h hf hr
    unfold fX6_put_b37 at hr
    refine z_iload_n hX dX6_put_37 3 rfl ?_
    refine z_iconst hX dX6_put_38 ?_
    refine z_iconst hX dX6_put_39 ?_
    obtain ⟨r2, hc2, hr⟩ := z_bind hr
    refine z_callS_i (As := [.int (iI x3), .int (iI 0), .int (iI 1)]) (k1 := 0) (n1 := 0) (nA := 3) hX (mX6_isIn hc2) dX6_put_40 gX6_put_X6_isIn rfl ⟨by decide, by decide, by decide +kernel⟩ ⟨by decide, by decide⟩ ⟨by decide, by decide⟩ rfl rfl (Nat.le_of_ble_eq_true rfl) (by decide +kernel) rfl rfl (fun hg2 => ?_)
    refine z_if_ne (tgt := 52) hX dX6_put_43 (by decide) rfl hr (fun hr => ?_) (fun hr => ?_)
    · refine z_aload_n hX dX6_put_52 0 rfl ?_
      refine z_getI hX dX6_put_53 fl_28 0 rfl rfl ?_
      refine z_iconst hX dX6_put_56 ?_
      refine z_icmp_le (tgt := 66) hX dX6_put_57 (by decide) rfl (wr_of (by decide) (by decide)) hr (fun hr => ?_) (fun hr => ?_)
      · refine z_aload_n hX dX6_put_66 0 rfl ?_
        refine z_getR (j := 34) hX dX6_put_67 fl_19 0 rfl rfl ?_
        refine z_iload_n hX dX6_put_70 1 rfl ?_
        refine z_iaload (b := 64) hX dX6_put_71 4 rfl (by decide) rfl hr (fun hr => ?_)
        refine z_istore (lv1 := [(4, .int (iI (h 34 x1))), (0, .ref (ad 30)), (1, .int (iI x1)), (2, .int (iI x2)), (3, .int (iI x3))]) hX dX6_put_72 (by decide) rfl ?_
        refine z_aload_n hX dX6_put_74 1 rfl ?_
        refine z_getR (j := 34) hX dX6_put_75 fl_19 0 rfl rfl ?_
        refine z_iload_n hX dX6_put_78 2 rfl ?_
        refine z_iload_n hX dX6_put_79 3 rfl ?_
        refine z_iconst hX dX6_put_80 ?_
        refine z_icmp_ne (tgt := 88) hX dX6_put_81 (by decide) rfl (wr_of (by decide) (by decide)) hr (fun hr => ?_) (fun hr => ?_)
        · refine z_iconst hX dX6_put_88 ?_
          refine z_iload_n hX dX6_put_89 3 rfl ?_
          refine z_imul hX dX6_put_90 ?_
          refine z_iload_n hX dX6_put_91 4 rfl ?_
          refine z_iadd hX dX6_put_92 ?_
          refine z_lv [1, 2, 0] rfl ?_
          exact B93 x1 (h 34 x1) x1 ((2 * x2) + x3) h hf hr
        · refine z_iconst hX dX6_put_84 ?_
          refine z_goto (tgt := 93) hX dX6_put_85 (by decide) ?_
          refine z_lv [1, 2, 0] rfl ?_
          exact B93 x1 (h 34 x1) x1 (-1) h hf hr
      · refine z_aload_n hX dX6_put_60 0 rfl ?_
        refine z_iconst hX dX6_put_61 ?_
        obtain ⟨r3, hc3, hr⟩ := z_bind hr
        refine z_callV_i (As := [.int (iI 3)]) (k1 := 0) (n1 := 0) (nA := 1) hX (mX6_fail hc3) dX6_put_62 gX6_put_X6_fail rfl ⟨rfl, by decide, by decide, by decide +kernel⟩ ⟨by decide, by decide⟩ ⟨by decide, by decide⟩ 0 rfl rfl rfl rfl (Nat.le_of_ble_eq_true rfl) (by decide +kernel) rfl rfl (fun hg3 => ?_)
        have hf : zfr [30, 34, 35] h0 r3.2 := zfr_tr hf (by decide) hg3
        obtain rfl := Option.some.inj hr
        exact hQ _ _ dX6_put_65 hf
    · refine z_aload_n hX dX6_put_46 0 rfl ?_
      refine z_iconst hX dX6_put_47 ?_
      obtain ⟨r4, hc4, hr⟩ := z_bind hr
      refine z_callV_i (As := [.int (iI 2)]) (k1 := 0) (n1 := 0) (nA := 1) hX (mX6_fail hc4) dX6_put_48 gX6_put_X6_fail rfl ⟨rfl, by decide, by decide, by decide +kernel⟩ ⟨by decide, by decide⟩ ⟨by decide, by decide⟩ 0 rfl rfl rfl rfl (Nat.le_of_ble_eq_true rfl) (by decide +kernel) rfl rfl (fun hg4 => ?_)
      have hf : zfr [30, 34, 35] h0 r4.2 := zfr_tr hf (by decide) hg4
      obtain rfl := Option.some.inj hr
      exact hQ _ _ dX6_put_51 hf
  unfold fX6_put at hr
  refine z_aload_n hX dX6_put_0 0 rfl ?_
  refine z_iconst hX dX6_put_1 ?_
  refine z_putI hX dX6_put_2 fl_66 pu_X6_0 0 rfl rfl ?_
  have hf : zfr [30, 34, 35] h0 (hs h0 30 0 0) := zfr_hs hf (by decide)
  refine z_iload_n hX dX6_put_5 1 rfl ?_
  obtain ⟨r5, hc5, hr⟩ := z_bind hr
  refine z_callS_i (As := [.int (iI p1)]) (k1 := 0) (n1 := 0) (nA := 1) hX (mX6_isSquare hc5) dX6_put_6 gX6_put_X6_isSquare rfl ⟨by decide, by decide, by decide +kernel⟩ ⟨by decide, by decide⟩ ⟨by decide, by decide⟩ rfl rfl (Nat.le_of_ble_eq_true rfl) (by decide +kernel) rfl rfl (fun hg5 => ?_)
  refine z_if_eq (tgt := 31) hX dX6_put_9 (by decide) rfl hr (fun hr => ?_) (fun hr => ?_)
  · refine z_lv [0] rfl ?_
    exact B31 (hs h0 30 0 0) hf hr
  · refine z_iload_n hX dX6_put_12 2 rfl ?_
    refine z_iconst hX dX6_put_13 ?_
    refine z_icmp_eq (tgt := 37) hX dX6_put_14 (by decide) rfl (wr_of (by decide) (by decide)) hr (fun hr => ?_) (fun hr => ?_)
    · exact B37 p1 p2 p3 (hs h0 30 0 0) hf hr
    · refine z_iload_n hX dX6_put_17 2 rfl ?_
      refine z_iconst hX dX6_put_18 ?_
      refine z_aload_n hX dX6_put_19 0 rfl ?_
      refine z_getI hX dX6_put_20 fl_80 0 rfl rfl ?_
      refine z_iconst hX dX6_put_23 ?_
      refine z_isub hX dX6_put_24 ?_
      obtain ⟨r6, hc6, hr⟩ := z_bind hr
      refine z_callS_i (As := [.int (iI p2), .int (iI 0), .int (iI ((((hs h0 30 0 0)) 30 1) - 1))]) (k1 := 0) (n1 := 0) (nA := 3) hX (mX6_isIn hc6) dX6_put_25 gX6_put_X6_isIn rfl ⟨by decide, by decide, by decide +kernel⟩ ⟨by decide, by decide⟩ ⟨by decide, by decide⟩ rfl rfl (Nat.le_of_ble_eq_true rfl) (by decide +kernel) rfl rfl (fun hg6 => ?_)
      refine z_if_ne (tgt := 37) hX dX6_put_28 (by decide) rfl hr (fun hr => ?_) (fun hr => ?_)
      · exact B37 p1 p2 p3 (hs h0 30 0 0) hf hr
      · refine z_lv [0] rfl ?_
        exact B31 (hs h0 30 0 0) hf hr

def fX6_get (p1 : Int) (p2 : Int) (h : HS) : Option (Int) := if (0 : Int) ≤ ((5 * p1) + p2) ∧ ((5 * p1) + p2) < 1000 then some (h 37 ((5 * p1) + p2)) else none
set_option maxRecDepth 100000 in
set_option maxHeartbeats 4000000 in
theorem mX6_get {G : ZG} {l0 : Launch} {ad : Nat → Nat} {h0 : HS} {p1 : Int} {p2 : Int} {o : Int} (hr : fX6_get p1 p2 h0 = some o) : ZMi G l0 yX6_get wsX6_get ({ frames := 0, cells := 0, slots := 0, locals := 0 }) [.ref (ad 30), .int (iI p1), .int (iI p2)] sh_8 ad h0 [] o h0 := by
  refine ZMi.of (cc := cX6_get) (maxL := 3) (ret := (some .int)) (own := RX6) (lv0 := [(0, .ref (ad 30)), (1, .int (iI p1)), (2, .int (iI p2))]) (by decide) rfl rfl rfl (Nat.le_of_ble_eq_true rfl) rfl ?_
  intro X hX hQ
  have hf : zfr [] h0 h0 := zfr_rf
  have fl_32 : zFld wsX6_get RX6 32 6 RX6 TX6 26 10 := ⟨by decide +kernel, by decide +kernel, by decide, rfl⟩
  unfold fX6_get at hr
  refine z_aload_n hX dX6_get_0 0 rfl ?_
  refine z_getR (j := 37) hX dX6_get_1 fl_32 0 rfl rfl ?_
  refine z_iconst hX dX6_get_4 ?_
  refine z_iload_n hX dX6_get_5 1 rfl ?_
  refine z_imul hX dX6_get_6 ?_
  refine z_iload_n hX dX6_get_7 2 rfl ?_
  refine z_iadd hX dX6_get_8 ?_
  refine z_iaload (b := 1000) hX dX6_get_9 7 rfl (by decide) rfl hr (fun hr => ?_)
  obtain rfl := Option.some.inj hr
  exact hQ _ _ dX6_get_10 hf

def fX6_sideOf (p1 : Int) (h : HS) : Option (Int) := if wr p1 = ((-1) : Int) then some (-1) else if (0 : Int) ≤ p1 ∧ p1 < 2147483648 then some (p1 % 2) else none
set_option maxRecDepth 100000 in
set_option maxHeartbeats 4000000 in
theorem mX6_sideOf {G : ZG} {l0 : Launch} {ad : Nat → Nat} {h0 : HS} {p1 : Int} {o : Int} (hr : fX6_sideOf p1 h0 = some o) : ZMi G l0 yX6_sideOf wsX6_sideOf ({ frames := 0, cells := 0, slots := 0, locals := 0 }) [.int (iI p1)] [] ad h0 [] o h0 := by
  refine ZMi.of (cc := cX6_sideOf) (maxL := 1) (ret := (some .int)) (own := RX6) (lv0 := [(0, .int (iI p1))]) (by decide) rfl rfl rfl (Nat.le_of_ble_eq_true rfl) rfl ?_
  intro X hX hQ
  have hf : zfr [] h0 h0 := zfr_rf
  unfold fX6_sideOf at hr
  refine z_iload_n hX dX6_sideOf_0 0 rfl ?_
  refine z_iconst hX dX6_sideOf_1 ?_
  refine z_icmp_ne (tgt := 9) hX dX6_sideOf_2 (by decide) rfl (wr_of (by decide) (by decide)) hr (fun hr => ?_) (fun hr => ?_)
  · refine z_iload_n hX dX6_sideOf_9 0 rfl ?_
    refine z_iconst hX dX6_sideOf_10 ?_
    refine z_irem hX dX6_sideOf_11 (by decide) hr (fun hr => ?_)
    obtain rfl := Option.some.inj hr
    exact hQ _ _ dX6_sideOf_12 hf
  · refine z_iconst hX dX6_sideOf_5 ?_
    refine z_goto (tgt := 12) hX dX6_sideOf_6 (by decide) ?_
    obtain rfl := Option.some.inj hr
    exact hQ _ _ dX6_sideOf_12 hf

def fX6_play (p2 : Int) (p3 : Int) (h : HS) : Option (HS) := if (0 : Int) ≤ p2 ∧ p2 < 64 then if (0 : Int) ≤ p3 ∧ p3 < 64 then if (0 : Int) ≤ p2 ∧ p2 < 64 then some (hs (hs h 35 p3 (h 35 p2)) 35 p2 (-1)) else none else none else none
set_option maxRecDepth 100000 in
set_option maxHeartbeats 4000000 in
theorem mX6_play {G : ZG} {l0 : Launch} {ad : Nat → Nat} {h0 : HS} {p2 : Int} {p3 : Int} {o : HS} (hr : fX6_play p2 p3 h0 = some o) : ZMv G l0 yX6_play wsX6_play ({ frames := 0, cells := 0, slots := 0, locals := 0 }) [.ref (ad 35), .int (iI p2), .int (iI p3)] sh_9 ad h0 [35] o := by
  refine ZMv.of (cc := cX6_play) (maxL := 3) (ret := none) (own := RX6) (lv0 := [(0, .ref (ad 35)), (1, .int (iI p2)), (2, .int (iI p3))]) (by decide) rfl rfl rfl (Nat.le_of_ble_eq_true rfl) rfl ?_
  intro X hX hQ
  have hf : zfr [35] h0 h0 := zfr_rf
  unfold fX6_play at hr
  refine z_aload_n hX dX6_play_0 0 rfl ?_
  refine z_iload_n hX dX6_play_1 2 rfl ?_
  refine z_aload_n hX dX6_play_2 0 rfl ?_
  refine z_iload_n hX dX6_play_3 1 rfl ?_
  refine z_iaload (b := 64) hX dX6_play_4 0 rfl (by decide) rfl hr (fun hr => ?_)
  refine z_iastore (b := 64) hX dX6_play_5 0 rfl (by decide) rfl hr (fun hr => ?_)
  have hf : zfr [35] h0 (hs h0 35 p3 (h0 35 p2)) := zfr_hs hf (by decide)
  refine z_aload_n hX dX6_play_6 0 rfl ?_
  refine z_iload_n hX dX6_play_7 1 rfl ?_
  refine z_iconst hX dX6_play_8 ?_
  refine z_iastore (b := 64) hX dX6_play_9 0 rfl (by decide) rfl hr (fun hr => ?_)
  have hf : zfr [35] h0 (hs (hs h0 35 p3 (h0 35 p2)) 35 p2 (-1)) := zfr_hs hf (by decide)
  obtain rfl := Option.some.inj hr
  exact hQ _ _ dX6_play_10 hf

def fX6_play_t (p2 : Int) (p3 : Int) (h : HS) : Option (HS) := if (0 : Int) ≤ p2 ∧ p2 < 64 then if (0 : Int) ≤ p3 ∧ p3 < 64 then if (0 : Int) ≤ p2 ∧ p2 < 64 then some (hs (hs h 36 p3 (h 36 p2)) 36 p2 (-1)) else none else none else none
set_option maxRecDepth 100000 in
set_option maxHeartbeats 4000000 in
theorem mX6_play_t {G : ZG} {l0 : Launch} {ad : Nat → Nat} {h0 : HS} {p2 : Int} {p3 : Int} {o : HS} (hr : fX6_play_t p2 p3 h0 = some o) : ZMv G l0 yX6_play wsX6_play ({ frames := 0, cells := 0, slots := 0, locals := 0 }) [.ref (ad 36), .int (iI p2), .int (iI p3)] sh_10 ad h0 [36] o := by
  refine ZMv.of (cc := cX6_play) (maxL := 3) (ret := none) (own := RX6) (lv0 := [(0, .ref (ad 36)), (1, .int (iI p2)), (2, .int (iI p3))]) (by decide) rfl rfl rfl (Nat.le_of_ble_eq_true rfl) rfl ?_
  intro X hX hQ
  have hf : zfr [36] h0 h0 := zfr_rf
  unfold fX6_play_t at hr
  refine z_aload_n hX dX6_play_0 0 rfl ?_
  refine z_iload_n hX dX6_play_1 2 rfl ?_
  refine z_aload_n hX dX6_play_2 0 rfl ?_
  refine z_iload_n hX dX6_play_3 1 rfl ?_
  refine z_iaload (b := 64) hX dX6_play_4 0 rfl (by decide) rfl hr (fun hr => ?_)
  refine z_iastore (b := 64) hX dX6_play_5 0 rfl (by decide) rfl hr (fun hr => ?_)
  have hf : zfr [36] h0 (hs h0 36 p3 (h0 36 p2)) := zfr_hs hf (by decide)
  refine z_aload_n hX dX6_play_6 0 rfl ?_
  refine z_iload_n hX dX6_play_7 1 rfl ?_
  refine z_iconst hX dX6_play_8 ?_
  refine z_iastore (b := 64) hX dX6_play_9 0 rfl (by decide) rfl hr (fun hr => ?_)
  have hf : zfr [36] h0 (hs (hs h0 36 p3 (h0 36 p2)) 36 p2 (-1)) := zfr_hs hf (by decide)
  obtain rfl := Option.some.inj hr
  exact hQ _ _ dX6_play_10 hf

def fX6_set_L47 : Nat → Int → HS → Option (HS)
  | 0, _, _ => none
  | nf + 1, x3, h => if wr x3 < 0 then some h else if (0 : Int) ≤ x3 ∧ x3 < 200 then (fX6_get (h 40 x3) 1 h).bind fun r1 => if (0 : Int) ≤ x3 ∧ x3 < 200 then (fX6_get (h 40 x3) 2 h).bind fun r2 => (fX6_play r1 r2 h).bind fun r3 => fX6_set_L47 nf (x3 + (-1)) r3 else none else none
def fX6_set_L19 : Nat → Int → Int → HS → Option (HS)
  | 0, _, _, _ => none
  | nf + 1, x2, x3, h => if wr x3 ≤ 0 then fX6_set_L47 zF (x2 - 1) h else if (0 : Int) ≤ x2 ∧ x2 < 200 then (fX6_get x3 0 (hs h 40 x2 x3)).bind fun r4 => fX6_set_L19 nf (x2 + 1) r4 (hs h 40 x2 x3) else none
def fX6_set (p1 : Int) (h : HS) : Option (HS) := if (0 : Int) ≤ 0 ∧ (0 : Int) ≤ 0 ∧ (0 : Int) ≤ 64 ∧ (0 : Int) + 64 ≤ 64 ∧ (0 : Int) + 64 ≤ 64 then fX6_set_L19 zF 0 p1 (hcp h 34 0 35 0 64) else none
set_option maxRecDepth 100000 in
set_option maxHeartbeats 4000000 in
theorem mX6_set {G : ZG} {l0 : Launch} {ad : Nat → Nat} {h0 : HS} {p1 : Int} {o : HS} (hr : fX6_set p1 h0 = some o) : ZMv G l0 yX6_set wsX6_set ({ frames := 1, cells := 0, slots := 0, locals := 40 }) [.ref (ad 30), .int (iI p1)] sh_8 ad h0 [35, 40] o := by
  refine ZMv.of (cc := cX6_set) (maxL := 4) (ret := none) (own := RX6) (lv0 := [(0, .ref (ad 30)), (1, .int (iI p1))]) (by decide) rfl rfl rfl (Nat.le_of_ble_eq_true rfl) rfl ?_
  intro X hX hQ
  have hf : zfr [35, 40] h0 h0 := zfr_rf
  have fl_19 : zFld wsX6_set RX6 19 6 RX6 TX6 26 5 := ⟨by decide +kernel, by decide +kernel, by decide, rfl⟩
  have fl_22 : zFld wsX6_set RX6 22 6 RX6 TX6 26 6 := ⟨by decide +kernel, by decide +kernel, by decide, rfl⟩
  have fl_51 : zFld wsX6_set RX6 51 6 RX6 TX6 26 17 := ⟨by decide +kernel, by decide +kernel, by decide, rfl⟩
  have B47 : ∀ (nf : Nat) (x3 : Int) (h : HS), zfr [35, 40] h0 h → fX6_set_L47 nf x3 h = some o → ZW G X sh_8 ad h 0 0 [(0, .ref (ad 30)), (3, .int (iI x3))] 47 [] := by
    intro nf
    induction nf with
    | zero => intro x3 h hf hr; exact z_none hr
    | succ n47 ih47 =>
      intro x3 h hf hr
      unfold fX6_set_L47 at hr
      refine z_iload_n hX dX6_set_47 1 rfl ?_
      refine z_if_lt (tgt := 86) hX dX6_set_48 (by decide) rfl hr (fun hr => ?_) (fun hr => ?_)
      · obtain rfl := Option.some.inj hr
        exact hQ _ _ dX6_set_86 hf
      · refine z_aload_n hX dX6_set_51 0 rfl ?_
        refine z_getR (j := 35) hX dX6_set_52 fl_22 0 rfl rfl ?_
        refine z_aload_n hX dX6_set_55 0 rfl ?_
        refine z_aload_n hX dX6_set_56 0 rfl ?_
        refine z_getR (j := 40) hX dX6_set_57 fl_51 0 rfl rfl ?_
        refine z_iload_n hX dX6_set_60 1 rfl ?_
        refine z_iaload (b := 200) hX dX6_set_61 10 rfl (by decide) rfl hr (fun hr => ?_)
        refine z_iconst hX dX6_set_62 ?_
        obtain ⟨r1, hc1, hr⟩ := z_bind hr
        refine z_callV_i (As := [.int (iI (h 40 x3)), .int (iI 1)]) (k1 := 0) (n1 := 0) (nA := 2) hX (mX6_get hc1) dX6_set_63 gX6_set_X6_get rfl ⟨rfl, by decide, by decide, by decide +kernel⟩ ⟨by decide, by decide⟩ ⟨by decide, by decide⟩ 0 rfl rfl rfl rfl (Nat.le_of_ble_eq_true rfl) (by decide +kernel) rfl rfl (fun hg1 => ?_)
        refine z_aload_n hX dX6_set_66 0 rfl ?_
        refine z_aload_n hX dX6_set_67 0 rfl ?_
        refine z_getR (j := 40) hX dX6_set_68 fl_51 0 rfl rfl ?_
        refine z_iload_n hX dX6_set_71 1 rfl ?_
        refine z_iaload (b := 200) hX dX6_set_72 10 rfl (by decide) rfl hr (fun hr => ?_)
        refine z_iconst hX dX6_set_73 ?_
        obtain ⟨r2, hc2, hr⟩ := z_bind hr
        refine z_callV_i (As := [.int (iI (h 40 x3)), .int (iI 2)]) (k1 := 0) (n1 := 0) (nA := 2) hX (mX6_get hc2) dX6_set_74 gX6_set_X6_get rfl ⟨rfl, by decide, by decide, by decide +kernel⟩ ⟨by decide, by decide⟩ ⟨by decide, by decide⟩ 0 rfl rfl rfl rfl (Nat.le_of_ble_eq_true rfl) (by decide +kernel) rfl rfl (fun hg2 => ?_)
        obtain ⟨r3, hc3, hr⟩ := z_bind hr
        refine z_callS_v (As := [.ref (ad 35), .int (iI r1), .int (iI r2)]) (k1 := 0) (n1 := 0) (nA := 3) hX (mX6_play hc3) dX6_set_77 gX6_set_X6_play rfl ⟨by decide, by decide, by decide +kernel⟩ ⟨by decide, by decide⟩ ⟨by decide, by decide⟩ rfl rfl (Nat.le_of_ble_eq_true rfl) (by decide +kernel) rfl rfl (fun hg3 => ?_)
        have hf : zfr [35, 40] h0 r3 := zfr_tr hf (by decide) hg3
        refine z_iinc (lv1 := [(3, .int (iI (x3 + (-1)))), (0, .ref (ad 30))]) hX dX6_set_80 1 rfl (by decide) rfl ?_
        refine z_goto (tgt := 47) hX dX6_set_83 (by decide) ?_
        refine z_lv [1, 0] rfl ?_
        exact ih47 (x3 + (-1)) r3 hf hr
  have B19 : ∀ (nf : Nat) (x2 : Int) (x3 : Int) (h : HS), zfr [35, 40] h0 h → fX6_set_L19 nf x2 x3 h = some o → ZW G X sh_8 ad h 0 0 [(0, .ref (ad 30)), (2, .int (iI x2)), (3, .int (iI x3))] 19 [] := by
    intro nf
    induction nf with
    | zero => intro x2 x3 h hf hr; exact z_none hr
    | succ n19 ih19 =>
      intro x2 x3 h hf hr
      unfold fX6_set_L19 at hr
      refine z_iload_n hX dX6_set_19 2 rfl ?_
      refine z_if_le (tgt := 43) hX dX6_set_20 (by decide) rfl hr (fun hr => ?_) (fun hr => ?_)
      · refine z_iload_n hX dX6_set_43 1 rfl ?_
        refine z_iconst hX dX6_set_44 ?_
        refine z_isub hX dX6_set_45 ?_
        refine z_istore_n (lv1 := [(3, .int (iI (x2 - 1))), (0, .ref (ad 30)), (2, .int (iI x2))]) hX dX6_set_46 (by decide) rfl ?_
        refine z_lv [1, 0] rfl ?_
        exact B47 zF (x2 - 1) h hf hr
      · refine z_aload_n hX dX6_set_23 0 rfl ?_
        refine z_getR (j := 40) hX dX6_set_24 fl_51 0 rfl rfl ?_
        refine z_iload_n hX dX6_set_27 1 rfl ?_
        refine z_iload_n hX dX6_set_28 2 rfl ?_
        refine z_iastore (b := 200) hX dX6_set_29 10 rfl (by decide) rfl hr (fun hr => ?_)
        have hf : zfr [35, 40] h0 (hs h 40 x2 x3) := zfr_hs hf (by decide)
        refine z_iinc (lv1 := [(2, .int (iI (x2 + 1))), (0, .ref (ad 30)), (3, .int (iI x3))]) hX dX6_set_30 1 rfl (by decide) rfl ?_
        refine z_aload_n hX dX6_set_33 1 rfl ?_
        refine z_iload_n hX dX6_set_34 2 rfl ?_
        refine z_iconst hX dX6_set_35 ?_
        obtain ⟨r4, hc4, hr⟩ := z_bind hr
        refine z_callV_i (As := [.int (iI x3), .int (iI 0)]) (k1 := 0) (n1 := 0) (nA := 2) hX (mX6_get hc4) dX6_set_36 gX6_set_X6_get rfl ⟨rfl, by decide, by decide, by decide +kernel⟩ ⟨by decide, by decide⟩ ⟨by decide, by decide⟩ 0 rfl rfl rfl rfl (Nat.le_of_ble_eq_true rfl) (by decide +kernel) rfl rfl (fun hg4 => ?_)
        refine z_istore_n (lv1 := [(3, .int (iI r4)), (2, .int (iI (x2 + 1))), (0, .ref (ad 30))]) hX dX6_set_39 (by decide) rfl ?_
        refine z_goto (tgt := 19) hX dX6_set_40 (by decide) ?_
        refine z_lv [2, 1, 0] rfl ?_
        exact ih19 (x2 + 1) r4 (hs h 40 x2 x3) hf hr
  unfold fX6_set at hr
  refine z_aload_n hX dX6_set_0 0 rfl ?_
  refine z_getR (j := 34) hX dX6_set_1 fl_19 0 rfl rfl ?_
  refine z_iconst hX dX6_set_4 ?_
  refine z_aload_n hX dX6_set_5 0 rfl ?_
  refine z_getR (j := 35) hX dX6_set_6 fl_22 0 rfl rfl ?_
  refine z_iconst hX dX6_set_9 ?_
  refine z_bipush hX dX6_set_10 (by decide +kernel) ?_
  refine z_copyi (b0 := 64) (b1 := 64) hX dX6_set_12 4 5 rfl rfl (by decide) (by decide) rfl rfl (by decide +kernel) (by decide +kernel) (by decide +kernel) (by decide +kernel) (by decide) (by decide +kernel) hr (fun hr => ?_)
  have hf : zfr [35, 40] h0 (hcp h0 34 0 35 0 64) := zfr_hcp hf (by decide)
  refine z_iconst hX dX6_set_15 ?_
  refine z_istore_n (lv1 := [(2, .int (iI 0)), (0, .ref (ad 30)), (1, .int (iI p1))]) hX dX6_set_16 (by decide) rfl ?_
  refine z_iload_n hX dX6_set_17 2 rfl ?_
  refine z_istore_n (lv1 := [(3, .int (iI p1)), (2, .int (iI 0)), (0, .ref (ad 30)), (1, .int (iI p1))]) hX dX6_set_18 (by decide) rfl ?_
  refine z_lv [2, 1, 0] rfl ?_
  exact B19 zF 0 p1 (hcp h0 34 0 35 0 64) hf hr

def fX6_turn (h : HS) : Option (Int) := (fX6_get (h 30 9) 3 h).bind fun r1 => if (0 : Int) ≤ r1 ∧ r1 < 2147483648 then some (r1 % 2) else none
set_option maxRecDepth 100000 in
set_option maxHeartbeats 4000000 in
theorem mX6_turn {G : ZG} {l0 : Launch} {ad : Nat → Nat} {h0 : HS} {o : Int} (hr : fX6_turn h0 = some o) : ZMi G l0 yX6_turn wsX6_turn ({ frames := 1, cells := 0, slots := 0, locals := 22 }) [.ref (ad 30)] sh_8 ad h0 [] o h0 := by
  refine ZMi.of (cc := cX6_turn) (maxL := 1) (ret := (some .int)) (own := RX6) (lv0 := [(0, .ref (ad 30))]) (by decide) rfl rfl rfl (Nat.le_of_ble_eq_true rfl) rfl ?_
  intro X hX hQ
  have hf : zfr [] h0 h0 := zfr_rf
  have fl_95 : zFld wsX6_turn RX6 95 6 RX6 TX6 26 9 := ⟨by decide +kernel, by decide +kernel, by decide, rfl⟩
  unfold fX6_turn at hr
  refine z_aload_n hX dX6_turn_0 0 rfl ?_
  refine z_aload_n hX dX6_turn_1 0 rfl ?_
  refine z_getI hX dX6_turn_2 fl_95 0 rfl rfl ?_
  refine z_iconst hX dX6_turn_5 ?_
  obtain ⟨r1, hc1, hr⟩ := z_bind hr
  refine z_callV_i (As := [.int (iI (h0 30 9)), .int (iI 3)]) (k1 := 0) (n1 := 0) (nA := 2) hX (mX6_get hc1) dX6_turn_6 gX6_turn_X6_get rfl ⟨rfl, by decide, by decide, by decide +kernel⟩ ⟨by decide, by decide⟩ ⟨by decide, by decide⟩ 0 rfl rfl rfl rfl (Nat.le_of_ble_eq_true rfl) (by decide +kernel) rfl rfl (fun hg1 => ?_)
  refine z_iconst hX dX6_turn_9 ?_
  refine z_irem hX dX6_turn_10 (by decide) hr (fun hr => ?_)
  obtain rfl := Option.some.inj hr
  exact hQ _ _ dX6_turn_11 hf

def fX6_target_b63 (x6 : Int) (s0 : Int) (s1 : Int) (s2 : Int) (h : HS) : Option (Int) := (fX6_isIn x6 0 7 h).bind fun r1 => if wr r1 = 0 then some (-1) else (fX6_isIn (s0 + (s1 * s2)) 0 7 h).bind fun r2 => if wr r2 = 0 then some (-1) else some ((8 * (s0 + (s1 * s2))) + x6)
def fX6_target (p1 : Int) (p2 : Int) (p3 : Int) (p4 : Int) (h : HS) : Option (Int) := if (0 : Int) ≤ p2 ∧ p2 < 2147483648 then if (0 : Int) ≤ p1 ∧ p1 < 2147483648 then if (0 : Int) ≤ (3 * ((8 * (p2 / 2)) + p3)) ∧ (3 * ((8 * (p2 / 2)) + p3)) < 144 then if (0 : Int) ≤ p1 ∧ p1 < 2147483648 then if (0 : Int) ≤ p2 ∧ p2 < 2147483648 then if wr (p2 % 2) = 0 then if (0 : Int) ≤ ((3 * ((8 * (p2 / 2)) + p3)) + 1) ∧ ((3 * ((8 * (p2 / 2)) + p3)) + 1) < 144 then fX6_target_b63 ((p1 % 8) + (p4 * (h 33 (3 * ((8 * (p2 / 2)) + p3))))) (p1 / 8) p4 (h 33 ((3 * ((8 * (p2 / 2)) + p3)) + 1)) h else none else if (0 : Int) ≤ ((3 * ((8 * (p2 / 2)) + p3)) + 1) ∧ ((3 * ((8 * (p2 / 2)) + p3)) + 1) < 144 then fX6_target_b63 ((p1 % 8) + (p4 * (h 33 (3 * ((8 * (p2 / 2)) + p3))))) (p1 / 8) p4 (-(h 33 ((3 * ((8 * (p2 / 2)) + p3)) + 1))) h else none else none else none else none else none else none
set_option maxRecDepth 100000 in
set_option maxHeartbeats 4000000 in
theorem mX6_target {G : ZG} {l0 : Launch} {ad : Nat → Nat} {h0 : HS} {p1 : Int} {p2 : Int} {p3 : Int} {p4 : Int} {o : Int} (hr : fX6_target p1 p2 p3 p4 h0 = some o) : ZMi G l0 yX6_target wsX6_target ({ frames := 1, cells := 0, slots := 0, locals := 22 }) [.ref (ad 30), .int (iI p1), .int (iI p2), .int (iI p3), .int (iI p4)] sh_8 ad h0 [] o h0 := by
  refine ZMi.of (cc := cX6_target) (maxL := 8) (ret := (some .int)) (own := RX6) (lv0 := [(0, .ref (ad 30)), (1, .int (iI p1)), (2, .int (iI p2)), (3, .int (iI p3)), (4, .int (iI p4))]) (by decide) rfl rfl rfl (Nat.le_of_ble_eq_true rfl) rfl ?_
  intro X hX hQ
  have hf : zfr [] h0 h0 := zfr_rf
  have fl_16 : zFld wsX6_target RX6 16 6 RX6 TX6 26 4 := ⟨by decide +kernel, by decide +kernel, by decide, rfl⟩
  have B63 : ∀ (x6 : Int) (s0 : Int) (s1 : Int) (s2 : Int), fX6_target_b63 x6 s0 s1 s2 h0 = some o → ZW G X sh_8 ad h0 0 0 [(6, .int (iI x6))] 63 [.int (iI s2), .int (iI s1), .int (iI s0)] := by
    intro x6 s0 s1 s2 hr
    unfold fX6_target_b63 at hr
    refine z_imul hX dX6_target_63 ?_
    refine z_iadd hX dX6_target_64 ?_
    refine z_istore (lv1 := [(7, .int (iI (s0 + (s1 * s2)))), (6, .int (iI x6))]) hX dX6_target_65 (by decide) rfl ?_
    refine z_iload hX dX6_target_67 1 rfl ?_
    refine z_iconst hX dX6_target_69 ?_
    refine z_bipush hX dX6_target_70 (by decide +kernel) ?_
    obtain ⟨r1, hc1, hr⟩ := z_bind hr
    refine z_callS_i (As := [.int (iI x6), .int (iI 0), .int (iI 7)]) (k1 := 0) (n1 := 0) (nA := 3) hX (mX6_isIn hc1) dX6_target_72 gX6_target_X6_isIn rfl ⟨by decide, by decide, by decide +kernel⟩ ⟨by decide, by decide⟩ ⟨by decide, by decide⟩ rfl rfl (Nat.le_of_ble_eq_true rfl) (by decide +kernel) rfl rfl (fun hg1 => ?_)
    refine z_if_eq (tgt := 100) hX dX6_target_75 (by decide) rfl hr (fun hr => ?_) (fun hr => ?_)
    · refine z_iconst hX dX6_target_100 ?_
      obtain rfl := Option.some.inj hr
      exact hQ _ _ dX6_target_101 hf
    · refine z_iload hX dX6_target_78 0 rfl ?_
      refine z_iconst hX dX6_target_80 ?_
      refine z_bipush hX dX6_target_81 (by decide +kernel) ?_
      obtain ⟨r2, hc2, hr⟩ := z_bind hr
      refine z_callS_i (As := [.int (iI (s0 + (s1 * s2))), .int (iI 0), .int (iI 7)]) (k1 := 0) (n1 := 0) (nA := 3) hX (mX6_isIn hc2) dX6_target_83 gX6_target_X6_isIn rfl ⟨by decide, by decide, by decide +kernel⟩ ⟨by decide, by decide⟩ ⟨by decide, by decide⟩ rfl rfl (Nat.le_of_ble_eq_true rfl) (by decide +kernel) rfl rfl (fun hg2 => ?_)
      refine z_if_eq (tgt := 100) hX dX6_target_86 (by decide) rfl hr (fun hr => ?_) (fun hr => ?_)
      · refine z_iconst hX dX6_target_100 ?_
        obtain rfl := Option.some.inj hr
        exact hQ _ _ dX6_target_101 hf
      · refine z_bipush hX dX6_target_89 (by decide +kernel) ?_
        refine z_iload hX dX6_target_91 0 rfl ?_
        refine z_imul hX dX6_target_93 ?_
        refine z_iload hX dX6_target_94 1 rfl ?_
        refine z_iadd hX dX6_target_96 ?_
        refine z_goto (tgt := 101) hX dX6_target_97 (by decide) ?_
        obtain rfl := Option.some.inj hr
        exact hQ _ _ dX6_target_101 hf
  unfold fX6_target at hr
  refine z_iconst hX dX6_target_0 ?_
  refine z_bipush hX dX6_target_1 (by decide +kernel) ?_
  refine z_iload_n hX dX6_target_3 2 rfl ?_
  refine z_iconst hX dX6_target_4 ?_
  refine z_idiv hX dX6_target_5 (by decide) hr (fun hr => ?_)
  refine z_imul hX dX6_target_6 ?_
  refine z_iload_n hX dX6_target_7 3 rfl ?_
  refine z_iadd hX dX6_target_8 ?_
  refine z_imul hX dX6_target_9 ?_
  refine z_istore (lv1 := [(5, .int (iI (3 * ((8 * (p2 / 2)) + p3)))), (0, .ref (ad 30)), (1, .int (iI p1)), (2, .int (iI p2)), (3, .int (iI p3)), (4, .int (iI p4))]) hX dX6_target_10 (by decide) rfl ?_
  refine z_iload_n hX dX6_target_12 2 rfl ?_
  refine z_bipush hX dX6_target_13 (by decide +kernel) ?_
  refine z_irem hX dX6_target_15 (by decide) hr (fun hr => ?_)
  refine z_iload hX dX6_target_16 5 rfl ?_
  refine z_aload_n hX dX6_target_18 1 rfl ?_
  refine z_getR (j := 33) hX dX6_target_19 fl_16 0 rfl rfl ?_
  refine z_iload hX dX6_target_22 0 rfl ?_
  refine z_iaload (b := 144) hX dX6_target_24 3 rfl (by decide) rfl hr (fun hr => ?_)
  refine z_imul hX dX6_target_25 ?_
  refine z_iadd hX dX6_target_26 ?_
  refine z_istore (lv1 := [(6, .int (iI ((p1 % 8) + (p4 * (h0 33 (3 * ((8 * (p2 / 2)) + p3))))))), (5, .int (iI (3 * ((8 * (p2 / 2)) + p3)))), (0, .ref (ad 30)), (1, .int (iI p1)), (2, .int (iI p2)), (3, .int (iI p3)), (4, .int (iI p4))]) hX dX6_target_27 (by decide) rfl ?_
  refine z_iload_n hX dX6_target_29 3 rfl ?_
  refine z_bipush hX dX6_target_30 (by decide +kernel) ?_
  refine z_idiv hX dX6_target_32 (by decide) hr (fun hr => ?_)
  refine z_iload hX dX6_target_33 6 rfl ?_
  refine z_iload_n hX dX6_target_35 4 rfl ?_
  refine z_iconst hX dX6_target_36 ?_
  refine z_irem hX dX6_target_37 (by decide) hr (fun hr => ?_)
  refine z_if_ne (tgt := 53) hX dX6_target_38 (by decide) rfl hr (fun hr => ?_) (fun hr => ?_)
  · refine z_aload_n hX dX6_target_53 2 rfl ?_
    refine z_getR (j := 33) hX dX6_target_54 fl_16 0 rfl rfl ?_
    refine z_iload hX dX6_target_57 1 rfl ?_
    refine z_iconst hX dX6_target_59 ?_
    refine z_iadd hX dX6_target_60 ?_
    refine z_iaload (b := 144) hX dX6_target_61 3 rfl (by decide) rfl hr (fun hr => ?_)
    refine z_ineg hX dX6_target_62 ?_
    refine z_lv [0] rfl ?_
    exact B63 ((p1 % 8) + (p4 * (h0 33 (3 * ((8 * (p2 / 2)) + p3))))) (p1 / 8) p4 (-(h0 33 ((3 * ((8 * (p2 / 2)) + p3)) + 1))) hr
  · refine z_aload_n hX dX6_target_41 2 rfl ?_
    refine z_getR (j := 33) hX dX6_target_42 fl_16 0 rfl rfl ?_
    refine z_iload hX dX6_target_45 1 rfl ?_
    refine z_iconst hX dX6_target_47 ?_
    refine z_iadd hX dX6_target_48 ?_
    refine z_iaload (b := 144) hX dX6_target_49 3 rfl (by decide) rfl hr (fun hr => ?_)
    refine z_goto (tgt := 63) hX dX6_target_50 (by decide) ?_
    refine z_lv [0] rfl ?_
    exact B63 ((p1 % 8) + (p4 * (h0 33 (3 * ((8 * (p2 / 2)) + p3))))) (p1 / 8) p4 (h0 33 ((3 * ((8 * (p2 / 2)) + p3)) + 1)) hr

def fX6_reach (p1 : Int) (p2 : Int) (h : HS) : Option (Int) := if (0 : Int) ≤ p1 ∧ p1 < 2147483648 then if (0 : Int) ≤ ((3 * ((8 * (p1 / 2)) + p2)) + 2) ∧ ((3 * ((8 * (p1 / 2)) + p2)) + 2) < 144 then some (h 33 ((3 * ((8 * (p1 / 2)) + p2)) + 2)) else none else none
set_option maxRecDepth 100000 in
set_option maxHeartbeats 4000000 in
theorem mX6_reach {G : ZG} {l0 : Launch} {ad : Nat → Nat} {h0 : HS} {p1 : Int} {p2 : Int} {o : Int} (hr : fX6_reach p1 p2 h0 = some o) : ZMi G l0 yX6_reach wsX6_reach ({ frames := 0, cells := 0, slots := 0, locals := 0 }) [.ref (ad 30), .int (iI p1), .int (iI p2)] sh_8 ad h0 [] o h0 := by
  refine ZMi.of (cc := cX6_reach) (maxL := 3) (ret := (some .int)) (own := RX6) (lv0 := [(0, .ref (ad 30)), (1, .int (iI p1)), (2, .int (iI p2))]) (by decide) rfl rfl rfl (Nat.le_of_ble_eq_true rfl) rfl ?_
  intro X hX hQ
  have hf : zfr [] h0 h0 := zfr_rf
  have fl_16 : zFld wsX6_reach RX6 16 6 RX6 TX6 26 4 := ⟨by decide +kernel, by decide +kernel, by decide, rfl⟩
  unfold fX6_reach at hr
  refine z_aload_n hX dX6_reach_0 0 rfl ?_
  refine z_getR (j := 33) hX dX6_reach_1 fl_16 0 rfl rfl ?_
  refine z_iconst hX dX6_reach_4 ?_
  refine z_bipush hX dX6_reach_5 (by decide +kernel) ?_
  refine z_iload_n hX dX6_reach_7 1 rfl ?_
  refine z_iconst hX dX6_reach_8 ?_
  refine z_idiv hX dX6_reach_9 (by decide) hr (fun hr => ?_)
  refine z_imul hX dX6_reach_10 ?_
  refine z_iload_n hX dX6_reach_11 2 rfl ?_
  refine z_iadd hX dX6_reach_12 ?_
  refine z_imul hX dX6_reach_13 ?_
  refine z_iconst hX dX6_reach_14 ?_
  refine z_iadd hX dX6_reach_15 ?_
  refine z_iaload (b := 144) hX dX6_reach_16 3 rfl (by decide) rfl hr (fun hr => ?_)
  obtain rfl := Option.some.inj hr
  exact hQ _ _ dX6_reach_17 hf

