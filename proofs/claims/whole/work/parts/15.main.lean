def fX5_isStep (p1 : Int) (p2 : Int) (h : HS) : Option (Int) := if wr p1 < ((-3) : Int) then some 0 else if (3 : Int) < wr p1 then some 0 else if wr p2 < ((-3) : Int) then some 0 else if (3 : Int) < wr p2 then some 0 else if wr p1 = 0 then if wr p2 = 0 then some 0 else some 1 else some 1
set_option maxRecDepth 100000 in
set_option maxHeartbeats 4000000 in
theorem mX5_isStep {G : ZG} {l0 : Launch} {ad : Nat → Nat} {h0 : HS} {p1 : Int} {p2 : Int} {o : Int} (hr : fX5_isStep p1 p2 h0 = some o) : ZMi G l0 yX5_isStep wsX5_isStep ({ frames := 0, cells := 0, slots := 0, locals := 0 }) [.int (iI p1), .int (iI p2)] [] ad h0 [] o h0 := by
  refine ZMi.ofZ (cc := cX5_isStep) (maxL := 2) (ret := (some .boolean)) (own := RX5) (lv0 := [(0, .int (iI p1)), (1, .int (iI p2))]) (by decide) rfl rfl rfl (Nat.le_of_ble_eq_true rfl) rfl ?_
  intro X hX hQ
  have hf : zfr [] h0 h0 := zfr_rf
  unfold fX5_isStep at hr
  refine z_iload_n hX dX5_isStep_0 0 rfl ?_
  refine z_bipush hX dX5_isStep_1 (by decide +kernel) ?_
  refine z_icmp_lt (tgt := 34) hX dX5_isStep_3 (by decide) rfl (wr_of (by decide) (by decide)) hr (fun hr => ?_) (fun hr => ?_)
  · refine z_iconst hX dX5_isStep_34 ?_
    obtain rfl := Option.some.inj hr
    exact hQ _ _ dX5_isStep_35 hf (Or.inl rfl)
  · refine z_iload_n hX dX5_isStep_6 0 rfl ?_
    refine z_iconst hX dX5_isStep_7 ?_
    refine z_icmp_gt (tgt := 34) hX dX5_isStep_8 (by decide) rfl (wr_of (by decide) (by decide)) hr (fun hr => ?_) (fun hr => ?_)
    · refine z_iconst hX dX5_isStep_34 ?_
      obtain rfl := Option.some.inj hr
      exact hQ _ _ dX5_isStep_35 hf (Or.inl rfl)
    · refine z_iload_n hX dX5_isStep_11 1 rfl ?_
      refine z_bipush hX dX5_isStep_12 (by decide +kernel) ?_
      refine z_icmp_lt (tgt := 34) hX dX5_isStep_14 (by decide) rfl (wr_of (by decide) (by decide)) hr (fun hr => ?_) (fun hr => ?_)
      · refine z_iconst hX dX5_isStep_34 ?_
        obtain rfl := Option.some.inj hr
        exact hQ _ _ dX5_isStep_35 hf (Or.inl rfl)
      · refine z_iload_n hX dX5_isStep_17 1 rfl ?_
        refine z_iconst hX dX5_isStep_18 ?_
        refine z_icmp_gt (tgt := 34) hX dX5_isStep_19 (by decide) rfl (wr_of (by decide) (by decide)) hr (fun hr => ?_) (fun hr => ?_)
        · refine z_iconst hX dX5_isStep_34 ?_
          obtain rfl := Option.some.inj hr
          exact hQ _ _ dX5_isStep_35 hf (Or.inl rfl)
        · refine z_iload_n hX dX5_isStep_22 0 rfl ?_
          refine z_if_ne (tgt := 30) hX dX5_isStep_23 (by decide) rfl hr (fun hr => ?_) (fun hr => ?_)
          · refine z_iconst hX dX5_isStep_30 ?_
            refine z_goto (tgt := 35) hX dX5_isStep_31 (by decide) ?_
            obtain rfl := Option.some.inj hr
            exact hQ _ _ dX5_isStep_35 hf (Or.inr rfl)
          · refine z_iload_n hX dX5_isStep_26 1 rfl ?_
            refine z_if_eq (tgt := 34) hX dX5_isStep_27 (by decide) rfl hr (fun hr => ?_) (fun hr => ?_)
            · refine z_iconst hX dX5_isStep_34 ?_
              obtain rfl := Option.some.inj hr
              exact hQ _ _ dX5_isStep_35 hf (Or.inl rfl)
            · refine z_iconst hX dX5_isStep_30 ?_
              refine z_goto (tgt := 35) hX dX5_isStep_31 (by decide) ?_
              obtain rfl := Option.some.inj hr
              exact hQ _ _ dX5_isStep_35 hf (Or.inr rfl)

def fX5_isByteOrNothing (p1 : Int) (h : HS) : Option (Int) := if wr p1 < ((-1) : Int) then some 0 else if (255 : Int) < wr p1 then some 0 else some 1
set_option maxRecDepth 100000 in
set_option maxHeartbeats 4000000 in
theorem mX5_isByteOrNothing {G : ZG} {l0 : Launch} {ad : Nat → Nat} {h0 : HS} {p1 : Int} {o : Int} (hr : fX5_isByteOrNothing p1 h0 = some o) : ZMi G l0 yX5_isByteOrNothing wsX5_isByteOrNothing ({ frames := 0, cells := 0, slots := 0, locals := 0 }) [.int (iI p1)] [] ad h0 [] o h0 := by
  refine ZMi.ofZ (cc := cX5_isByteOrNothing) (maxL := 1) (ret := (some .boolean)) (own := RX5) (lv0 := [(0, .int (iI p1))]) (by decide) rfl rfl rfl (Nat.le_of_ble_eq_true rfl) rfl ?_
  intro X hX hQ
  have hf : zfr [] h0 h0 := zfr_rf
  unfold fX5_isByteOrNothing at hr
  refine z_iload_n hX dX5_isByteOrNothing_0 0 rfl ?_
  refine z_iconst hX dX5_isByteOrNothing_1 ?_
  refine z_icmp_lt (tgt := 16) hX dX5_isByteOrNothing_2 (by decide) rfl (wr_of (by decide) (by decide)) hr (fun hr => ?_) (fun hr => ?_)
  · refine z_iconst hX dX5_isByteOrNothing_16 ?_
    obtain rfl := Option.some.inj hr
    exact hQ _ _ dX5_isByteOrNothing_17 hf (Or.inl rfl)
  · refine z_iload_n hX dX5_isByteOrNothing_5 0 rfl ?_
    refine z_sipush hX dX5_isByteOrNothing_6 (by decide +kernel) ?_
    refine z_icmp_gt (tgt := 16) hX dX5_isByteOrNothing_9 (by decide) rfl (wr_of (by decide) (by decide)) hr (fun hr => ?_) (fun hr => ?_)
    · refine z_iconst hX dX5_isByteOrNothing_16 ?_
      obtain rfl := Option.some.inj hr
      exact hQ _ _ dX5_isByteOrNothing_17 hf (Or.inl rfl)
    · refine z_iconst hX dX5_isByteOrNothing_12 ?_
      refine z_goto (tgt := 17) hX dX5_isByteOrNothing_13 (by decide) ?_
      obtain rfl := Option.some.inj hr
      exact hQ _ _ dX5_isByteOrNothing_17 hf (Or.inr rfl)

def fX5_countByte (p1 : Int) (h : HS) : Option (Int) := if wr p1 = ((-1) : Int) then some 0 else some 1
set_option maxRecDepth 100000 in
set_option maxHeartbeats 4000000 in
theorem mX5_countByte {G : ZG} {l0 : Launch} {ad : Nat → Nat} {h0 : HS} {p1 : Int} {o : Int} (hr : fX5_countByte p1 h0 = some o) : ZMi G l0 yX5_countByte wsX5_countByte ({ frames := 0, cells := 0, slots := 0, locals := 0 }) [.int (iI p1)] [] ad h0 [] o h0 := by
  refine ZMi.of (cc := cX5_countByte) (maxL := 1) (ret := (some .int)) (own := RX5) (lv0 := [(0, .int (iI p1))]) (by decide) rfl rfl rfl (Nat.le_of_ble_eq_true rfl) rfl ?_
  intro X hX hQ
  have hf : zfr [] h0 h0 := zfr_rf
  unfold fX5_countByte at hr
  refine z_iload_n hX dX5_countByte_0 0 rfl ?_
  refine z_iconst hX dX5_countByte_1 ?_
  refine z_icmp_ne (tgt := 9) hX dX5_countByte_2 (by decide) rfl (wr_of (by decide) (by decide)) hr (fun hr => ?_) (fun hr => ?_)
  · refine z_iconst hX dX5_countByte_9 ?_
    obtain rfl := Option.some.inj hr
    exact hQ _ _ dX5_countByte_10 hf
  · refine z_iconst hX dX5_countByte_5 ?_
    refine z_goto (tgt := 10) hX dX5_countByte_6 (by decide) ?_
    obtain rfl := Option.some.inj hr
    exact hQ _ _ dX5_countByte_10 hf

def fX5_appendUnlessNothing (p1 : Int) (h : HS) : Option (HS) := if wr p1 = ((-1) : Int) then some h else (fX3_append p1 h).bind fun r1 => some r1
set_option maxRecDepth 100000 in
set_option maxHeartbeats 4000000 in
theorem mX5_appendUnlessNothing {G : ZG} {l0 : Launch} {ad : Nat → Nat} {h0 : HS} {p1 : Int} {o : HS} (hr : fX5_appendUnlessNothing p1 h0 = some o) : ZMv G l0 yX5_appendUnlessNothing wsX5_appendUnlessNothing ({ frames := 1, cells := 0, slots := 0, locals := 21 }) [.ref (ad 0), .int (iI p1)] sh_7 ad h0 [19, 20] o := by
  refine ZMv.of (cc := cX5_appendUnlessNothing) (maxL := 2) (ret := none) (own := RX5) (lv0 := [(0, .ref (ad 0)), (1, .int (iI p1))]) (by decide) rfl rfl rfl (Nat.le_of_ble_eq_true rfl) rfl ?_
  intro X hX hQ
  have hf : zfr [19, 20] h0 h0 := zfr_rf
  have fl_49 : zFld wsX5_appendUnlessNothing RX5 49 5 RX5 TX5 16 6 := ⟨by decide +kernel, by decide +kernel, by decide, rfl⟩
  unfold fX5_appendUnlessNothing at hr
  refine z_iload_n hX dX5_appendUnlessNothing_0 1 rfl ?_
  refine z_iconst hX dX5_appendUnlessNothing_1 ?_
  refine z_icmp_eq (tgt := 13) hX dX5_appendUnlessNothing_2 (by decide) rfl (wr_of (by decide) (by decide)) hr (fun hr => ?_) (fun hr => ?_)
  · obtain rfl := Option.some.inj hr
    exact hQ _ _ dX5_appendUnlessNothing_13 hf
  · refine z_aload_n hX dX5_appendUnlessNothing_5 0 rfl ?_
    refine z_getR (j := 19) hX dX5_appendUnlessNothing_6 fl_49 0 rfl rfl ?_
    refine z_iload_n hX dX5_appendUnlessNothing_9 1 rfl ?_
    obtain ⟨r1, hc1, hr⟩ := z_bind hr
    refine z_callV_v (As := [.int (iI p1)]) (k1 := 0) (n1 := 0) (nA := 1) hX (mX3_append hc1) dX5_appendUnlessNothing_10 gX5_appendUnlessNothing_X3_append rfl ⟨rfl, by decide, by decide, by decide +kernel⟩ ⟨by decide, by decide⟩ ⟨by decide, by decide⟩ 19 rfl rfl rfl rfl (Nat.le_of_ble_eq_true rfl) (by decide +kernel) rfl rfl (fun hg1 => ?_)
    have hf : zfr [19, 20] h0 r1 := zfr_tr hf (by decide) hg1
    obtain rfl := Option.some.inj hr
    exact hQ _ _ dX5_appendUnlessNothing_13 hf

def fX5_turn (h : HS) : Option (Int) := (fX4_depth (h 0 8) h).bind fun r1 => if (0 : Int) ≤ r1 ∧ r1 < 2147483648 then some (r1 % 2) else none
set_option maxRecDepth 100000 in
set_option maxHeartbeats 4000000 in
theorem mX5_turn {G : ZG} {l0 : Launch} {ad : Nat → Nat} {h0 : HS} {o : Int} (hr : fX5_turn h0 = some o) : ZMi G l0 yX5_turn wsX5_turn ({ frames := 2, cells := 0, slots := 0, locals := 42 }) [.ref (ad 0)] sh_7 ad h0 [] o h0 := by
  refine ZMi.of (cc := cX5_turn) (maxL := 1) (ret := (some .int)) (own := RX5) (lv0 := [(0, .ref (ad 0))]) (by decide) rfl rfl rfl (Nat.le_of_ble_eq_true rfl) rfl ?_
  intro X hX hQ
  have hf : zfr [] h0 h0 := zfr_rf
  have fl_28 : zFld wsX5_turn RX5 28 5 RX5 TX5 16 2 := ⟨by decide +kernel, by decide +kernel, by decide, rfl⟩
  have fl_56 : zFld wsX5_turn RX5 56 5 RX5 TX5 16 8 := ⟨by decide +kernel, by decide +kernel, by decide, rfl⟩
  unfold fX5_turn at hr
  refine z_aload_n hX dX5_turn_0 0 rfl ?_
  refine z_getR (j := 9) hX dX5_turn_1 fl_28 0 rfl rfl ?_
  refine z_aload_n hX dX5_turn_4 0 rfl ?_
  refine z_getI hX dX5_turn_5 fl_56 0 rfl rfl ?_
  obtain ⟨r1, hc1, hr⟩ := z_bind hr
  refine z_callV_i (As := [.int (iI (h0 0 8))]) (k1 := 0) (n1 := 0) (nA := 1) hX (mX4_depth hc1) dX5_turn_8 gX5_turn_X4_depth rfl ⟨rfl, by decide, by decide, by decide +kernel⟩ ⟨by decide, by decide⟩ ⟨by decide, by decide⟩ 9 rfl rfl rfl rfl (Nat.le_of_ble_eq_true rfl) (by decide +kernel) rfl rfl (fun hg1 => ?_)
  refine z_iconst hX dX5_turn_11 ?_
  refine z_irem hX dX5_turn_12 (by decide) hr (fun hr => ?_)
  obtain rfl := Option.some.inj hr
  exact hQ _ _ dX5_turn_13 hf

def fX5_reasonAgainst (p1 : Int) (p2 : Int) (h : HS) : Option (Int × HS) := (fX5_turn h).bind fun r1 => (fX0_isOf p1 r1 h).bind fun r2 => if wr r2 = 0 then some (1, h) else (fX0_reaches p1 p2 h).bind fun r3 => if wr r3 = 0 then some (2, h) else (fX0_keepsRoyalsSafe p1 p2 h).bind fun r4 => if wr r4.1 = 0 then some (3, r4.2) else some (0, r4.2)
set_option maxRecDepth 100000 in
set_option maxHeartbeats 4000000 in
theorem mX5_reasonAgainst {G : ZG} {l0 : Launch} {ad : Nat → Nat} {h0 : HS} {p1 : Int} {p2 : Int} {o : Int × HS} (hr : fX5_reasonAgainst p1 p2 h0 = some o) : ZMi G l0 yX5_reasonAgainst wsX5_reasonAgainst ({ frames := 4, cells := 0, slots := 0, locals := 85 }) [.ref (ad 0), .int (iI p1), .int (iI p2)] sh_7 ad h0 [8] o.1 o.2 := by
  refine ZMi.of (cc := cX5_reasonAgainst) (maxL := 3) (ret := (some .int)) (own := RX5) (lv0 := [(0, .ref (ad 0)), (1, .int (iI p1)), (2, .int (iI p2))]) (by decide) rfl rfl rfl (Nat.le_of_ble_eq_true rfl) rfl ?_
  intro X hX hQ
  have hf : zfr [8] h0 h0 := zfr_rf
  have fl_21 : zFld wsX5_reasonAgainst RX5 21 5 RX5 TX5 16 1 := ⟨by decide +kernel, by decide +kernel, by decide, rfl⟩
  unfold fX5_reasonAgainst at hr
  refine z_aload_n hX dX5_reasonAgainst_0 0 rfl ?_
  refine z_getR (j := 7) hX dX5_reasonAgainst_1 fl_21 0 rfl rfl ?_
  refine z_iload_n hX dX5_reasonAgainst_4 1 rfl ?_
  refine z_aload_n hX dX5_reasonAgainst_5 0 rfl ?_
  obtain ⟨r1, hc1, hr⟩ := z_bind hr
  refine z_callV_i (As := []) (k1 := 0) (n1 := 0) (nA := 0) hX (mX5_turn hc1) dX5_reasonAgainst_6 gX5_reasonAgainst_X5_turn rfl ⟨rfl, by decide, by decide, by decide +kernel⟩ ⟨by decide, by decide⟩ ⟨by decide, by decide⟩ 0 rfl rfl rfl rfl (Nat.le_of_ble_eq_true rfl) (by decide +kernel) rfl rfl (fun hg1 => ?_)
  obtain ⟨r2, hc2, hr⟩ := z_bind hr
  refine z_callV_i (As := [.int (iI p1), .int (iI r1)]) (k1 := 0) (n1 := 0) (nA := 2) hX (mX0_isOf hc2) dX5_reasonAgainst_9 gX5_reasonAgainst_X0_isOf rfl ⟨rfl, by decide, by decide, by decide +kernel⟩ ⟨by decide, by decide⟩ ⟨by decide, by decide⟩ 7 rfl rfl rfl rfl (Nat.le_of_ble_eq_true rfl) (by decide +kernel) rfl rfl (fun hg2 => ?_)
  refine z_if_ne (tgt := 17) hX dX5_reasonAgainst_12 (by decide) rfl hr (fun hr => ?_) (fun hr => ?_)
  · refine z_aload_n hX dX5_reasonAgainst_17 0 rfl ?_
    refine z_getR (j := 7) hX dX5_reasonAgainst_18 fl_21 0 rfl rfl ?_
    refine z_iload_n hX dX5_reasonAgainst_21 1 rfl ?_
    refine z_iload_n hX dX5_reasonAgainst_22 2 rfl ?_
    obtain ⟨r3, hc3, hr⟩ := z_bind hr
    refine z_callV_i (As := [.int (iI p1), .int (iI p2)]) (k1 := 0) (n1 := 0) (nA := 2) hX (mX0_reaches hc3) dX5_reasonAgainst_23 gX5_reasonAgainst_X0_reaches rfl ⟨rfl, by decide, by decide, by decide +kernel⟩ ⟨by decide, by decide⟩ ⟨by decide, by decide⟩ 7 rfl rfl rfl rfl (Nat.le_of_ble_eq_true rfl) (by decide +kernel) rfl rfl (fun hg3 => ?_)
    refine z_if_ne (tgt := 31) hX dX5_reasonAgainst_26 (by decide) rfl hr (fun hr => ?_) (fun hr => ?_)
    · refine z_aload_n hX dX5_reasonAgainst_31 0 rfl ?_
      refine z_getR (j := 7) hX dX5_reasonAgainst_32 fl_21 0 rfl rfl ?_
      refine z_iload_n hX dX5_reasonAgainst_35 1 rfl ?_
      refine z_iload_n hX dX5_reasonAgainst_36 2 rfl ?_
      obtain ⟨r4, hc4, hr⟩ := z_bind hr
      refine z_callV_i (As := [.int (iI p1), .int (iI p2)]) (k1 := 0) (n1 := 0) (nA := 2) hX (mX0_keepsRoyalsSafe hc4) dX5_reasonAgainst_37 gX5_reasonAgainst_X0_keepsRoyalsSafe rfl ⟨rfl, by decide, by decide, by decide +kernel⟩ ⟨by decide, by decide⟩ ⟨by decide, by decide⟩ 7 rfl rfl rfl rfl (Nat.le_of_ble_eq_true rfl) (by decide +kernel) rfl rfl (fun hg4 => ?_)
      have hf : zfr [8] h0 r4.2 := zfr_tr hf (by decide) hg4
      refine z_if_eq (tgt := 47) hX dX5_reasonAgainst_40 (by decide) rfl hr (fun hr => ?_) (fun hr => ?_)
      · refine z_iconst hX dX5_reasonAgainst_47 ?_
        obtain rfl := Option.some.inj hr
        exact hQ _ _ dX5_reasonAgainst_48 hf
      · refine z_iconst hX dX5_reasonAgainst_43 ?_
        refine z_goto (tgt := 48) hX dX5_reasonAgainst_44 (by decide) ?_
        obtain rfl := Option.some.inj hr
        exact hQ _ _ dX5_reasonAgainst_48 hf
    · refine z_iconst hX dX5_reasonAgainst_29 ?_
      obtain rfl := Option.some.inj hr
      exact hQ _ _ dX5_reasonAgainst_30 hf
  · refine z_iconst hX dX5_reasonAgainst_15 ?_
    obtain rfl := Option.some.inj hr
    exact hQ _ _ dX5_reasonAgainst_16 hf

def fX5_stepDown (p1 : Int) (h : HS) : Option (HS) := (fX4_from p1 h).bind fun r1 => (fX4_to p1 h).bind fun r2 => (fX0_move r1 r2 h).bind fun r3 => (fX4_keepTaken p1 r3.1 r3.2).bind fun r4 => some (hs r4 0 8 p1)
set_option maxRecDepth 100000 in
set_option maxHeartbeats 4000000 in
theorem mX5_stepDown {G : ZG} {l0 : Launch} {ad : Nat → Nat} {h0 : HS} {p1 : Int} {o : HS} (hr : fX5_stepDown p1 h0 = some o) : ZMv G l0 yX5_stepDown wsX5_stepDown ({ frames := 2, cells := 0, slots := 0, locals := 43 }) [.ref (ad 0), .int (iI p1)] sh_7 ad h0 [0, 8, 13] o := by
  refine ZMv.of (cc := cX5_stepDown) (maxL := 2) (ret := none) (own := RX5) (lv0 := [(0, .ref (ad 0)), (1, .int (iI p1))]) (by decide) rfl rfl rfl (Nat.le_of_ble_eq_true rfl) rfl ?_
  intro X hX hQ
  have hf : zfr [0, 8, 13] h0 h0 := zfr_rf
  have fl_21 : zFld wsX5_stepDown RX5 21 5 RX5 TX5 16 1 := ⟨by decide +kernel, by decide +kernel, by decide, rfl⟩
  have fl_28 : zFld wsX5_stepDown RX5 28 5 RX5 TX5 16 2 := ⟨by decide +kernel, by decide +kernel, by decide, rfl⟩
  have fl_56 : zFld wsX5_stepDown RX5 56 5 RX5 TX5 16 8 := ⟨by decide +kernel, by decide +kernel, by decide, rfl⟩
  have pu_X5_8 : zPut TX5 16 8 tyX5 .int := ⟨tyX5_ok, nmX5, rfl, by decide +kernel⟩
  unfold fX5_stepDown at hr
  refine z_aload_n hX dX5_stepDown_0 0 rfl ?_
  refine z_getR (j := 9) hX dX5_stepDown_1 fl_28 0 rfl rfl ?_
  refine z_iload_n hX dX5_stepDown_4 1 rfl ?_
  refine z_aload_n hX dX5_stepDown_5 0 rfl ?_
  refine z_getR (j := 7) hX dX5_stepDown_6 fl_21 0 rfl rfl ?_
  refine z_aload_n hX dX5_stepDown_9 0 rfl ?_
  refine z_getR (j := 9) hX dX5_stepDown_10 fl_28 0 rfl rfl ?_
  refine z_iload_n hX dX5_stepDown_13 1 rfl ?_
  obtain ⟨r1, hc1, hr⟩ := z_bind hr
  refine z_callV_i (As := [.int (iI p1)]) (k1 := 0) (n1 := 0) (nA := 1) hX (mX4_from hc1) dX5_stepDown_14 gX5_stepDown_X4_from rfl ⟨rfl, by decide, by decide, by decide +kernel⟩ ⟨by decide, by decide⟩ ⟨by decide, by decide⟩ 9 rfl rfl rfl rfl (Nat.le_of_ble_eq_true rfl) (by decide +kernel) rfl rfl (fun hg1 => ?_)
  refine z_aload_n hX dX5_stepDown_17 0 rfl ?_
  refine z_getR (j := 9) hX dX5_stepDown_18 fl_28 0 rfl rfl ?_
  refine z_iload_n hX dX5_stepDown_21 1 rfl ?_
  obtain ⟨r2, hc2, hr⟩ := z_bind hr
  refine z_callV_i (As := [.int (iI p1)]) (k1 := 0) (n1 := 0) (nA := 1) hX (mX4_to hc2) dX5_stepDown_22 gX5_stepDown_X4_to rfl ⟨rfl, by decide, by decide, by decide +kernel⟩ ⟨by decide, by decide⟩ ⟨by decide, by decide⟩ 9 rfl rfl rfl rfl (Nat.le_of_ble_eq_true rfl) (by decide +kernel) rfl rfl (fun hg2 => ?_)
  obtain ⟨r3, hc3, hr⟩ := z_bind hr
  refine z_callV_i (As := [.int (iI r1), .int (iI r2)]) (k1 := 0) (n1 := 0) (nA := 2) hX (mX0_move hc3) dX5_stepDown_25 gX5_stepDown_X0_move rfl ⟨rfl, by decide, by decide, by decide +kernel⟩ ⟨by decide, by decide⟩ ⟨by decide, by decide⟩ 7 rfl rfl rfl rfl (Nat.le_of_ble_eq_true rfl) (by decide +kernel) rfl rfl (fun hg3 => ?_)
  have hf : zfr [0, 8, 13] h0 r3.2 := zfr_tr hf (by decide) hg3
  obtain ⟨r4, hc4, hr⟩ := z_bind hr
  refine z_callV_v (As := [.int (iI p1), .int (iI r3.1)]) (k1 := 0) (n1 := 0) (nA := 2) hX (mX4_keepTaken hc4) dX5_stepDown_28 gX5_stepDown_X4_keepTaken rfl ⟨rfl, by decide, by decide, by decide +kernel⟩ ⟨by decide, by decide⟩ ⟨by decide, by decide⟩ 9 rfl rfl rfl rfl (Nat.le_of_ble_eq_true rfl) (by decide +kernel) rfl rfl (fun hg4 => ?_)
  have hf : zfr [0, 8, 13] h0 r4 := zfr_tr hf (by decide) hg4
  refine z_aload_n hX dX5_stepDown_31 0 rfl ?_
  refine z_iload_n hX dX5_stepDown_32 1 rfl ?_
  refine z_putI hX dX5_stepDown_33 fl_56 pu_X5_8 0 rfl rfl ?_
  have hf : zfr [0, 8, 13] h0 (hs r4 0 8 p1) := zfr_hs hf (by decide)
  obtain rfl := Option.some.inj hr
  exact hQ _ _ dX5_stepDown_36 hf

def fX5_stepUp (h : HS) : Option (HS) := if wr (h 0 8) = 0 then some h else (fX4_from (h 0 8) h).bind fun r1 => (fX4_to (h 0 8) h).bind fun r2 => (fX4_taken (h 0 8) h).bind fun r3 => (fX0_takeBack r1 r2 r3 h).bind fun r4 => (fX4_above (r4 0 8) r4).bind fun r5 => some (hs r4 0 8 r5)
set_option maxRecDepth 100000 in
set_option maxHeartbeats 4000000 in
theorem mX5_stepUp {G : ZG} {l0 : Launch} {ad : Nat → Nat} {h0 : HS} {o : HS} (hr : fX5_stepUp h0 = some o) : ZMv G l0 yX5_stepUp wsX5_stepUp ({ frames := 2, cells := 0, slots := 0, locals := 43 }) [.ref (ad 0)] sh_7 ad h0 [0, 8] o := by
  refine ZMv.of (cc := cX5_stepUp) (maxL := 1) (ret := none) (own := RX5) (lv0 := [(0, .ref (ad 0))]) (by decide) rfl rfl rfl (Nat.le_of_ble_eq_true rfl) rfl ?_
  intro X hX hQ
  have hf : zfr [0, 8] h0 h0 := zfr_rf
  have fl_21 : zFld wsX5_stepUp RX5 21 5 RX5 TX5 16 1 := ⟨by decide +kernel, by decide +kernel, by decide, rfl⟩
  have fl_28 : zFld wsX5_stepUp RX5 28 5 RX5 TX5 16 2 := ⟨by decide +kernel, by decide +kernel, by decide, rfl⟩
  have fl_56 : zFld wsX5_stepUp RX5 56 5 RX5 TX5 16 8 := ⟨by decide +kernel, by decide +kernel, by decide, rfl⟩
  have pu_X5_8 : zPut TX5 16 8 tyX5 .int := ⟨tyX5_ok, nmX5, rfl, by decide +kernel⟩
  unfold fX5_stepUp at hr
  refine z_aload_n hX dX5_stepUp_0 0 rfl ?_
  refine z_getI hX dX5_stepUp_1 fl_56 0 rfl rfl ?_
  refine z_if_eq (tgt := 62) hX dX5_stepUp_4 (by decide) rfl hr (fun hr => ?_) (fun hr => ?_)
  · obtain rfl := Option.some.inj hr
    exact hQ _ _ dX5_stepUp_62 hf
  · refine z_aload_n hX dX5_stepUp_7 0 rfl ?_
    refine z_getR (j := 7) hX dX5_stepUp_8 fl_21 0 rfl rfl ?_
    refine z_aload_n hX dX5_stepUp_11 0 rfl ?_
    refine z_getR (j := 9) hX dX5_stepUp_12 fl_28 0 rfl rfl ?_
    refine z_aload_n hX dX5_stepUp_15 0 rfl ?_
    refine z_getI hX dX5_stepUp_16 fl_56 0 rfl rfl ?_
    obtain ⟨r1, hc1, hr⟩ := z_bind hr
    refine z_callV_i (As := [.int (iI (h0 0 8))]) (k1 := 0) (n1 := 0) (nA := 1) hX (mX4_from hc1) dX5_stepUp_19 gX5_stepUp_X4_from rfl ⟨rfl, by decide, by decide, by decide +kernel⟩ ⟨by decide, by decide⟩ ⟨by decide, by decide⟩ 9 rfl rfl rfl rfl (Nat.le_of_ble_eq_true rfl) (by decide +kernel) rfl rfl (fun hg1 => ?_)
    refine z_aload_n hX dX5_stepUp_22 0 rfl ?_
    refine z_getR (j := 9) hX dX5_stepUp_23 fl_28 0 rfl rfl ?_
    refine z_aload_n hX dX5_stepUp_26 0 rfl ?_
    refine z_getI hX dX5_stepUp_27 fl_56 0 rfl rfl ?_
    obtain ⟨r2, hc2, hr⟩ := z_bind hr
    refine z_callV_i (As := [.int (iI (h0 0 8))]) (k1 := 0) (n1 := 0) (nA := 1) hX (mX4_to hc2) dX5_stepUp_30 gX5_stepUp_X4_to rfl ⟨rfl, by decide, by decide, by decide +kernel⟩ ⟨by decide, by decide⟩ ⟨by decide, by decide⟩ 9 rfl rfl rfl rfl (Nat.le_of_ble_eq_true rfl) (by decide +kernel) rfl rfl (fun hg2 => ?_)
    refine z_aload_n hX dX5_stepUp_33 0 rfl ?_
    refine z_getR (j := 9) hX dX5_stepUp_34 fl_28 0 rfl rfl ?_
    refine z_aload_n hX dX5_stepUp_37 0 rfl ?_
    refine z_getI hX dX5_stepUp_38 fl_56 0 rfl rfl ?_
    obtain ⟨r3, hc3, hr⟩ := z_bind hr
    refine z_callV_i (As := [.int (iI (h0 0 8))]) (k1 := 0) (n1 := 0) (nA := 1) hX (mX4_taken hc3) dX5_stepUp_41 gX5_stepUp_X4_taken rfl ⟨rfl, by decide, by decide, by decide +kernel⟩ ⟨by decide, by decide⟩ ⟨by decide, by decide⟩ 9 rfl rfl rfl rfl (Nat.le_of_ble_eq_true rfl) (by decide +kernel) rfl rfl (fun hg3 => ?_)
    obtain ⟨r4, hc4, hr⟩ := z_bind hr
    refine z_callV_v (As := [.int (iI r1), .int (iI r2), .int (iI r3)]) (k1 := 0) (n1 := 0) (nA := 3) hX (mX0_takeBack hc4) dX5_stepUp_44 gX5_stepUp_X0_takeBack rfl ⟨rfl, by decide, by decide, by decide +kernel⟩ ⟨by decide, by decide⟩ ⟨by decide, by decide⟩ 7 rfl rfl rfl rfl (Nat.le_of_ble_eq_true rfl) (by decide +kernel) rfl rfl (fun hg4 => ?_)
    have hf : zfr [0, 8] h0 r4 := zfr_tr hf (by decide) hg4
    refine z_aload_n hX dX5_stepUp_47 0 rfl ?_
    refine z_aload_n hX dX5_stepUp_48 0 rfl ?_
    refine z_getR (j := 9) hX dX5_stepUp_49 fl_28 0 rfl rfl ?_
    refine z_aload_n hX dX5_stepUp_52 0 rfl ?_
    refine z_getI hX dX5_stepUp_53 fl_56 0 rfl rfl ?_
    obtain ⟨r5, hc5, hr⟩ := z_bind hr
    refine z_callV_i (As := [.int (iI (r4 0 8))]) (k1 := 0) (n1 := 0) (nA := 1) hX (mX4_above hc5) dX5_stepUp_56 gX5_stepUp_X4_above rfl ⟨rfl, by decide, by decide, by decide +kernel⟩ ⟨by decide, by decide⟩ ⟨by decide, by decide⟩ 9 rfl rfl rfl rfl (Nat.le_of_ble_eq_true rfl) (by decide +kernel) rfl rfl (fun hg5 => ?_)
    refine z_putI hX dX5_stepUp_59 fl_56 pu_X5_8 0 rfl rfl ?_
    have hf : zfr [0, 8] h0 (hs r4 0 8 r5) := zfr_hs hf (by decide)
    obtain rfl := Option.some.inj hr
    exact hQ _ _ dX5_stepUp_62 hf

def fX5_visit_L92 : Nat → Int → HS → Option (HS)
  | 0, _, _ => none
  | nf + 1, x4, h => if wr x4 < 0 then some h else if (0 : Int) ≤ x4 ∧ x4 < 200 then (fX5_stepDown (h 23 x4) h).bind fun r1 => fX5_visit_L92 nf (x4 + (-1)) r1 else none
def fX5_visit_b79 (x2 : Int) (h : HS) : Option (HS) := fX5_visit_L92 zF ((zmin x2 200) - 1) h
def fX5_visit_L40 : Nat → Int → Int → Int → HS → Option (HS)
  | 0, _, _, _, _ => none
  | nf + 1, x2, x3, x4, h => if wr x2 ≤ wr x4 then fX5_visit_b79 x2 h else if (200 : Int) ≤ wr x4 then fX5_visit_b79 x2 h else if (0 : Int) ≤ x4 ∧ x4 < 200 then (fX4_above x3 (hs h 23 x4 x3)).bind fun r2 => fX5_visit_L40 nf x2 r2 (x4 + 1) (hs h 23 x4 x3) else none
def fX5_visit_L12 : Nat → Int → Int → HS → Option (HS)
  | 0, _, _, _ => none
  | nf + 1, x1, x2, h => if wr x2 ≤ 0 then (fX4_depth x1 h).bind fun r3 => fX5_visit_L40 zF r3 x1 0 h else (fX5_stepUp h).bind fun r4 => fX5_visit_L12 nf x1 (x2 + (-1)) r4
def fX5_visit (p1 : Int) (h : HS) : Option (HS) := (fX4_depth (h 0 8) h).bind fun r5 => fX5_visit_L12 zF p1 r5 h
set_option maxRecDepth 100000 in
set_option maxHeartbeats 4000000 in
theorem mX5_visit {G : ZG} {l0 : Launch} {ad : Nat → Nat} {h0 : HS} {p1 : Int} {o : HS} (hr : fX5_visit p1 h0 = some o) : ZMv G l0 yX5_visit wsX5_visit ({ frames := 3, cells := 0, slots := 0, locals := 64 }) [.ref (ad 0), .int (iI p1)] sh_7 ad h0 [0, 8, 13, 23] o := by
  refine ZMv.of (cc := cX5_visit) (maxL := 5) (ret := none) (own := RX5) (lv0 := [(0, .ref (ad 0)), (1, .int (iI p1))]) (by decide) rfl rfl rfl (Nat.le_of_ble_eq_true rfl) rfl ?_
  intro X hX hQ
  have hf : zfr [0, 8, 13, 23] h0 h0 := zfr_rf
  have fl_28 : zFld wsX5_visit RX5 28 5 RX5 TX5 16 2 := ⟨by decide +kernel, by decide +kernel, by decide, rfl⟩
  have fl_39 : zFld wsX5_visit RX5 39 5 RX5 TX5 16 4 := ⟨by decide +kernel, by decide +kernel, by decide, rfl⟩
  have fl_56 : zFld wsX5_visit RX5 56 5 RX5 TX5 16 8 := ⟨by decide +kernel, by decide +kernel, by decide, rfl⟩
  have B92 : ∀ (nf : Nat) (x4 : Int) (h : HS), zfr [0, 8, 13, 23] h0 h → fX5_visit_L92 nf x4 h = some o → ZW G X sh_7 ad h 0 0 [(0, .ref (ad 0)), (4, .int (iI x4))] 92 [] := by
    intro nf
    induction nf with
    | zero => intro x4 h hf hr; exact z_none hr
    | succ n92 ih92 =>
      intro x4 h hf hr
      unfold fX5_visit_L92 at hr
      refine z_iload hX dX5_visit_92 1 rfl ?_
      refine z_if_lt (tgt := 114) hX dX5_visit_94 (by decide) rfl hr (fun hr => ?_) (fun hr => ?_)
      · obtain rfl := Option.some.inj hr
        exact hQ _ _ dX5_visit_114 hf
      · refine z_aload_n hX dX5_visit_97 0 rfl ?_
        refine z_aload_n hX dX5_visit_98 0 rfl ?_
        refine z_getR (j := 23) hX dX5_visit_99 fl_39 0 rfl rfl ?_
        refine z_iload hX dX5_visit_102 1 rfl ?_
        refine z_iaload (b := 200) hX dX5_visit_104 23 rfl (by decide) rfl hr (fun hr => ?_)
        obtain ⟨r1, hc1, hr⟩ := z_bind hr
        refine z_callV_v (As := [.int (iI (h 23 x4))]) (k1 := 0) (n1 := 0) (nA := 1) hX (mX5_stepDown hc1) dX5_visit_105 gX5_visit_X5_stepDown rfl ⟨rfl, by decide, by decide, by decide +kernel⟩ ⟨by decide, by decide⟩ ⟨by decide, by decide⟩ 0 rfl rfl rfl rfl (Nat.le_of_ble_eq_true rfl) (by decide +kernel) rfl rfl (fun hg1 => ?_)
        have hf : zfr [0, 8, 13, 23] h0 r1 := zfr_tr hf (by decide) hg1
        refine z_iinc (lv1 := [(4, .int (iI (x4 + (-1)))), (0, .ref (ad 0))]) hX dX5_visit_108 1 rfl (by decide) rfl ?_
        refine z_goto (tgt := 92) hX dX5_visit_111 (by decide) ?_
        refine z_lv [1, 0] rfl ?_
        exact ih92 (x4 + (-1)) r1 hf hr
  have B79 : ∀ (x2 : Int) (h : HS), zfr [0, 8, 13, 23] h0 h → fX5_visit_b79 x2 h = some o → ZW G X sh_7 ad h 0 0 [(0, .ref (ad 0)), (2, .int (iI x2))] 79 [] := by
    intro x2 h hf hr
    unfold fX5_visit_b79 at hr
    refine z_iload_n hX dX5_visit_79 1 rfl ?_
    refine z_aload_n hX dX5_visit_80 0 rfl ?_
    refine z_getR (j := 23) hX dX5_visit_81 fl_39 0 rfl rfl ?_
    refine z_alen hX dX5_visit_84 23 rfl ?_
    refine z_mmin hX dX5_visit_85 (by decide +kernel) (by decide +kernel) (by decide +kernel) (by decide +kernel) (by decide) (Nat.le_of_ble_eq_true rfl) (Nat.le_of_ble_eq_true rfl) (Nat.le_of_ble_eq_true rfl) ?_
    refine z_iconst hX dX5_visit_88 ?_
    refine z_isub hX dX5_visit_89 ?_
    refine z_istore (lv1 := [(4, .int (iI ((zmin x2 200) - 1))), (0, .ref (ad 0)), (2, .int (iI x2))]) hX dX5_visit_90 (by decide) rfl ?_
    refine z_lv [1, 0] rfl ?_
    exact B92 zF ((zmin x2 200) - 1) h hf hr
  have B40 : ∀ (nf : Nat) (x2 : Int) (x3 : Int) (x4 : Int) (h : HS), zfr [0, 8, 13, 23] h0 h → fX5_visit_L40 nf x2 x3 x4 h = some o → ZW G X sh_7 ad h 0 0 [(0, .ref (ad 0)), (2, .int (iI x2)), (3, .int (iI x3)), (4, .int (iI x4))] 40 [] := by
    intro nf
    induction nf with
    | zero => intro x2 x3 x4 h hf hr; exact z_none hr
    | succ n40 ih40 =>
      intro x2 x3 x4 h hf hr
      unfold fX5_visit_L40 at hr
      refine z_iload hX dX5_visit_40 3 rfl ?_
      refine z_iload_n hX dX5_visit_42 1 rfl ?_
      refine z_icmp_ge (tgt := 79) hX dX5_visit_43 (by decide) rfl rfl hr (fun hr => ?_) (fun hr => ?_)
      · refine z_lv [0, 1] rfl ?_
        exact B79 x2 h hf hr
      · refine z_iload hX dX5_visit_46 3 rfl ?_
        refine z_aload_n hX dX5_visit_48 0 rfl ?_
        refine z_getR (j := 23) hX dX5_visit_49 fl_39 0 rfl rfl ?_
        refine z_alen hX dX5_visit_52 23 rfl ?_
        refine z_icmp_ge (tgt := 79) hX dX5_visit_53 (by decide) rfl (wr_of (by decide) (by decide)) hr (fun hr => ?_) (fun hr => ?_)
        · refine z_lv [0, 1] rfl ?_
          exact B79 x2 h hf hr
        · refine z_aload_n hX dX5_visit_56 0 rfl ?_
          refine z_getR (j := 23) hX dX5_visit_57 fl_39 0 rfl rfl ?_
          refine z_iload hX dX5_visit_60 3 rfl ?_
          refine z_iload_n hX dX5_visit_62 2 rfl ?_
          refine z_iastore (b := 200) hX dX5_visit_63 23 rfl (by decide) rfl hr (fun hr => ?_)
          have hf : zfr [0, 8, 13, 23] h0 (hs h 23 x4 x3) := zfr_hs hf (by decide)
          refine z_aload_n hX dX5_visit_64 0 rfl ?_
          refine z_getR (j := 9) hX dX5_visit_65 fl_28 0 rfl rfl ?_
          refine z_iload_n hX dX5_visit_68 2 rfl ?_
          obtain ⟨r2, hc2, hr⟩ := z_bind hr
          refine z_callV_i (As := [.int (iI x3)]) (k1 := 0) (n1 := 0) (nA := 1) hX (mX4_above hc2) dX5_visit_69 gX5_visit_X4_above rfl ⟨rfl, by decide, by decide, by decide +kernel⟩ ⟨by decide, by decide⟩ ⟨by decide, by decide⟩ 9 rfl rfl rfl rfl (Nat.le_of_ble_eq_true rfl) (by decide +kernel) rfl rfl (fun hg2 => ?_)
          refine z_istore_n (lv1 := [(3, .int (iI r2)), (0, .ref (ad 0)), (2, .int (iI x2)), (4, .int (iI x4))]) hX dX5_visit_72 (by decide) rfl ?_
          refine z_iinc (lv1 := [(4, .int (iI (x4 + 1))), (3, .int (iI r2)), (0, .ref (ad 0)), (2, .int (iI x2))]) hX dX5_visit_73 3 rfl (by decide) rfl ?_
          refine z_goto (tgt := 40) hX dX5_visit_76 (by decide) ?_
          refine z_lv [2, 3, 1, 0] rfl ?_
          exact ih40 x2 r2 (x4 + 1) (hs h 23 x4 x3) hf hr
  have B12 : ∀ (nf : Nat) (x1 : Int) (x2 : Int) (h : HS), zfr [0, 8, 13, 23] h0 h → fX5_visit_L12 nf x1 x2 h = some o → ZW G X sh_7 ad h 0 0 [(0, .ref (ad 0)), (1, .int (iI x1)), (2, .int (iI x2))] 12 [] := by
    intro nf
    induction nf with
    | zero => intro x1 x2 h hf hr; exact z_none hr
    | succ n12 ih12 =>
      intro x1 x2 h hf hr
      unfold fX5_visit_L12 at hr
      refine z_iload_n hX dX5_visit_12 2 rfl ?_
      refine z_if_le (tgt := 26) hX dX5_visit_13 (by decide) rfl hr (fun hr => ?_) (fun hr => ?_)
      · refine z_aload_n hX dX5_visit_26 0 rfl ?_
        refine z_getR (j := 9) hX dX5_visit_27 fl_28 0 rfl rfl ?_
        refine z_iload_n hX dX5_visit_30 1 rfl ?_
        obtain ⟨r3, hc3, hr⟩ := z_bind hr
        refine z_callV_i (As := [.int (iI x1)]) (k1 := 0) (n1 := 0) (nA := 1) hX (mX4_depth hc3) dX5_visit_31 gX5_visit_X4_depth rfl ⟨rfl, by decide, by decide, by decide +kernel⟩ ⟨by decide, by decide⟩ ⟨by decide, by decide⟩ 9 rfl rfl rfl rfl (Nat.le_of_ble_eq_true rfl) (by decide +kernel) rfl rfl (fun hg3 => ?_)
        refine z_istore_n (lv1 := [(2, .int (iI r3)), (0, .ref (ad 0)), (1, .int (iI x1))]) hX dX5_visit_34 (by decide) rfl ?_
        refine z_iload_n hX dX5_visit_35 2 rfl ?_
        refine z_istore_n (lv1 := [(3, .int (iI x1)), (2, .int (iI r3)), (0, .ref (ad 0)), (1, .int (iI x1))]) hX dX5_visit_36 (by decide) rfl ?_
        refine z_iconst hX dX5_visit_37 ?_
        refine z_istore (lv1 := [(4, .int (iI 0)), (3, .int (iI x1)), (2, .int (iI r3)), (0, .ref (ad 0)), (1, .int (iI x1))]) hX dX5_visit_38 (by decide) rfl ?_
        refine z_lv [3, 2, 1, 0] rfl ?_
        exact B40 zF r3 x1 0 h hf hr
      · refine z_aload_n hX dX5_visit_16 0 rfl ?_
        obtain ⟨r4, hc4, hr⟩ := z_bind hr
        refine z_callV_v (As := []) (k1 := 0) (n1 := 0) (nA := 0) hX (mX5_stepUp hc4) dX5_visit_17 gX5_visit_X5_stepUp rfl ⟨rfl, by decide, by decide, by decide +kernel⟩ ⟨by decide, by decide⟩ ⟨by decide, by decide⟩ 0 rfl rfl rfl rfl (Nat.le_of_ble_eq_true rfl) (by decide +kernel) rfl rfl (fun hg4 => ?_)
        have hf : zfr [0, 8, 13, 23] h0 r4 := zfr_tr hf (by decide) hg4
        refine z_iinc (lv1 := [(2, .int (iI (x2 + (-1)))), (0, .ref (ad 0)), (1, .int (iI x1))]) hX dX5_visit_20 2 rfl (by decide) rfl ?_
        refine z_goto (tgt := 12) hX dX5_visit_23 (by decide) ?_
        refine z_lv [1, 2, 0] rfl ?_
        exact ih12 x1 (x2 + (-1)) r4 hf hr
  unfold fX5_visit at hr
  refine z_aload_n hX dX5_visit_0 0 rfl ?_
  refine z_getR (j := 9) hX dX5_visit_1 fl_28 0 rfl rfl ?_
  refine z_aload_n hX dX5_visit_4 0 rfl ?_
  refine z_getI hX dX5_visit_5 fl_56 0 rfl rfl ?_
  obtain ⟨r5, hc5, hr⟩ := z_bind hr
  refine z_callV_i (As := [.int (iI (h0 0 8))]) (k1 := 0) (n1 := 0) (nA := 1) hX (mX4_depth hc5) dX5_visit_8 gX5_visit_X4_depth rfl ⟨rfl, by decide, by decide, by decide +kernel⟩ ⟨by decide, by decide⟩ ⟨by decide, by decide⟩ 9 rfl rfl rfl rfl (Nat.le_of_ble_eq_true rfl) (by decide +kernel) rfl rfl (fun hg5 => ?_)
  refine z_istore_n (lv1 := [(2, .int (iI r5)), (0, .ref (ad 0)), (1, .int (iI p1))]) hX dX5_visit_11 (by decide) rfl ?_
  refine z_lv [1, 2, 0] rfl ?_
  exact B12 zF p1 r5 h0 hf hr

def fX5_beginAnew (h : HS) : Option (HS) := (fX5_visit 0 h).bind fun r1 => (fX4_cutToRoot r1).bind fun r2 => some r2
set_option maxRecDepth 100000 in
set_option maxHeartbeats 4000000 in
theorem mX5_beginAnew {G : ZG} {l0 : Launch} {ad : Nat → Nat} {h0 : HS} {o : HS} (hr : fX5_beginAnew h0 = some o) : ZMv G l0 yX5_beginAnew wsX5_beginAnew ({ frames := 4, cells := 0, slots := 0, locals := 88 }) [.ref (ad 0)] sh_7 ad h0 [0, 8, 9, 10, 11, 12, 13, 14, 15, 16, 17, 23] o := by
  refine ZMv.of (cc := cX5_beginAnew) (maxL := 1) (ret := none) (own := RX5) (lv0 := [(0, .ref (ad 0))]) (by decide) rfl rfl rfl (Nat.le_of_ble_eq_true rfl) rfl ?_
  intro X hX hQ
  have hf : zfr [0, 8, 9, 10, 11, 12, 13, 14, 15, 16, 17, 23] h0 h0 := zfr_rf
  have fl_28 : zFld wsX5_beginAnew RX5 28 5 RX5 TX5 16 2 := ⟨by decide +kernel, by decide +kernel, by decide, rfl⟩
  unfold fX5_beginAnew at hr
  refine z_aload_n hX dX5_beginAnew_0 0 rfl ?_
  refine z_iconst hX dX5_beginAnew_1 ?_
  obtain ⟨r1, hc1, hr⟩ := z_bind hr
  refine z_callV_v (As := [.int (iI 0)]) (k1 := 0) (n1 := 0) (nA := 1) hX (mX5_visit hc1) dX5_beginAnew_2 gX5_beginAnew_X5_visit rfl ⟨rfl, by decide, by decide, by decide +kernel⟩ ⟨by decide, by decide⟩ ⟨by decide, by decide⟩ 0 rfl rfl rfl rfl (Nat.le_of_ble_eq_true rfl) (by decide +kernel) rfl rfl (fun hg1 => ?_)
  have hf : zfr [0, 8, 9, 10, 11, 12, 13, 14, 15, 16, 17, 23] h0 r1 := zfr_tr hf (by decide) hg1
  refine z_aload_n hX dX5_beginAnew_5 0 rfl ?_
  refine z_getR (j := 9) hX dX5_beginAnew_6 fl_28 0 rfl rfl ?_
  obtain ⟨r2, hc2, hr⟩ := z_bind hr
  refine z_callV_v (As := []) (k1 := 0) (n1 := 0) (nA := 0) hX (mX4_cutToRoot hc2) dX5_beginAnew_9 gX5_beginAnew_X4_cutToRoot rfl ⟨rfl, by decide, by decide, by decide +kernel⟩ ⟨by decide, by decide⟩ ⟨by decide, by decide⟩ 9 rfl rfl rfl rfl (Nat.le_of_ble_eq_true rfl) (by decide +kernel) rfl rfl (fun hg2 => ?_)
  have hf : zfr [0, 8, 9, 10, 11, 12, 13, 14, 15, 16, 17, 23] h0 r2 := zfr_tr hf (by decide) hg2
  obtain rfl := Option.some.inj hr
  exact hQ _ _ dX5_beginAnew_12 hf

def fX5_follow_b48 (x3 : Int) (h : HS) : Option (Int × HS) := (fX5_stepDown x3 h).bind fun r1 => some (1, r1)
def fX5_follow (p1 : Int) (p2 : Int) (h : HS) : Option (Int × HS) := (fX4_childOfMove (h 0 8) p1 p2 h).bind fun r2 => if wr r2 = ((-1) : Int) then (fX4_size h).bind fun r3 => if wr r3 < (200 : Int) then (fX4_grow (h 0 8) p1 p2 h).bind fun r4 => fX5_follow_b48 r4.1 r4.2 else some (0, h) else fX5_follow_b48 r2 h
set_option maxRecDepth 100000 in
set_option maxHeartbeats 4000000 in
theorem mX5_follow {G : ZG} {l0 : Launch} {ad : Nat → Nat} {h0 : HS} {p1 : Int} {p2 : Int} {o : Int × HS} (hr : fX5_follow p1 p2 h0 = some o) : ZMi G l0 yX5_follow wsX5_follow ({ frames := 3, cells := 0, slots := 0, locals := 70 }) [.ref (ad 0), .int (iI p1), .int (iI p2)] sh_7 ad h0 [0, 8, 9, 10, 11, 12, 13, 14, 15, 16, 17] o.1 o.2 := by
  refine ZMi.ofZ (cc := cX5_follow) (maxL := 4) (ret := (some .boolean)) (own := RX5) (lv0 := [(0, .ref (ad 0)), (1, .int (iI p1)), (2, .int (iI p2))]) (by decide) rfl rfl rfl (Nat.le_of_ble_eq_true rfl) rfl ?_
  intro X hX hQ
  have hf : zfr [0, 8, 9, 10, 11, 12, 13, 14, 15, 16, 17] h0 h0 := zfr_rf
  have fl_28 : zFld wsX5_follow RX5 28 5 RX5 TX5 16 2 := ⟨by decide +kernel, by decide +kernel, by decide, rfl⟩
  have fl_56 : zFld wsX5_follow RX5 56 5 RX5 TX5 16 8 := ⟨by decide +kernel, by decide +kernel, by decide, rfl⟩
  have B48 : ∀ (x3 : Int) (h : HS), zfr [0, 8, 9, 10, 11, 12, 13, 14, 15, 16, 17] h0 h → fX5_follow_b48 x3 h = some o → ZW G X sh_7 ad h 0 0 [(0, .ref (ad 0)), (3, .int (iI x3))] 48 [] := by
    intro x3 h hf hr
    unfold fX5_follow_b48 at hr
    refine z_aload_n hX dX5_follow_48 0 rfl ?_
    refine z_iload_n hX dX5_follow_49 1 rfl ?_
    obtain ⟨r1, hc1, hr⟩ := z_bind hr
    refine z_callV_v (As := [.int (iI x3)]) (k1 := 0) (n1 := 0) (nA := 1) hX (mX5_stepDown hc1) dX5_follow_50 gX5_follow_X5_stepDown rfl ⟨rfl, by decide, by decide, by decide +kernel⟩ ⟨by decide, by decide⟩ ⟨by decide, by decide⟩ 0 rfl rfl rfl rfl (Nat.le_of_ble_eq_true rfl) (by decide +kernel) rfl rfl (fun hg1 => ?_)
    have hf : zfr [0, 8, 9, 10, 11, 12, 13, 14, 15, 16, 17] h0 r1 := zfr_tr hf (by decide) hg1
    refine z_iconst hX dX5_follow_53 ?_
    obtain rfl := Option.some.inj hr
    exact hQ _ _ dX5_follow_54 hf (Or.inr rfl)
  unfold fX5_follow at hr
  refine z_aload_n hX dX5_follow_0 0 rfl ?_
  refine z_getR (j := 9) hX dX5_follow_1 fl_28 0 rfl rfl ?_
  refine z_aload_n hX dX5_follow_4 0 rfl ?_
  refine z_getI hX dX5_follow_5 fl_56 0 rfl rfl ?_
  refine z_iload_n hX dX5_follow_8 1 rfl ?_
  refine z_iload_n hX dX5_follow_9 2 rfl ?_
  obtain ⟨r2, hc2, hr⟩ := z_bind hr
  refine z_callV_i (As := [.int (iI (h0 0 8)), .int (iI p1), .int (iI p2)]) (k1 := 0) (n1 := 0) (nA := 3) hX (mX4_childOfMove hc2) dX5_follow_10 gX5_follow_X4_childOfMove rfl ⟨rfl, by decide, by decide, by decide +kernel⟩ ⟨by decide, by decide⟩ ⟨by decide, by decide⟩ 9 rfl rfl rfl rfl (Nat.le_of_ble_eq_true rfl) (by decide +kernel) rfl rfl (fun hg2 => ?_)
  refine z_istore_n (lv1 := [(3, .int (iI r2)), (0, .ref (ad 0)), (1, .int (iI p1)), (2, .int (iI p2))]) hX dX5_follow_13 (by decide) rfl ?_
  refine z_iload_n hX dX5_follow_14 0 rfl ?_
  refine z_iconst hX dX5_follow_15 ?_
  refine z_icmp_ne (tgt := 48) hX dX5_follow_16 (by decide) rfl (wr_of (by decide) (by decide)) hr (fun hr => ?_) (fun hr => ?_)
  · refine z_lv [1, 0] rfl ?_
    exact B48 r2 h0 hf hr
  · refine z_aload_n hX dX5_follow_19 1 rfl ?_
    refine z_getR (j := 9) hX dX5_follow_20 fl_28 0 rfl rfl ?_
    obtain ⟨r3, hc3, hr⟩ := z_bind hr
    refine z_callV_i (As := []) (k1 := 0) (n1 := 0) (nA := 0) hX (mX4_size hc3) dX5_follow_23 gX5_follow_X4_size rfl ⟨rfl, by decide, by decide, by decide +kernel⟩ ⟨by decide, by decide⟩ ⟨by decide, by decide⟩ 9 rfl rfl rfl rfl (Nat.le_of_ble_eq_true rfl) (by decide +kernel) rfl rfl (fun hg3 => ?_)
    refine z_sipush hX dX5_follow_26 (by decide +kernel) ?_
    refine z_icmp_lt (tgt := 34) hX dX5_follow_29 (by decide) rfl (wr_of (by decide) (by decide)) hr (fun hr => ?_) (fun hr => ?_)
    · refine z_aload_n hX dX5_follow_34 1 rfl ?_
      refine z_getR (j := 9) hX dX5_follow_35 fl_28 0 rfl rfl ?_
      refine z_aload_n hX dX5_follow_38 1 rfl ?_
      refine z_getI hX dX5_follow_39 fl_56 0 rfl rfl ?_
      refine z_iload_n hX dX5_follow_42 2 rfl ?_
      refine z_iload_n hX dX5_follow_43 3 rfl ?_
      obtain ⟨r4, hc4, hr⟩ := z_bind hr
      refine z_callV_i (As := [.int (iI (h0 0 8)), .int (iI p1), .int (iI p2)]) (k1 := 0) (n1 := 0) (nA := 3) hX (mX4_grow hc4) dX5_follow_44 gX5_follow_X4_grow rfl ⟨rfl, by decide, by decide, by decide +kernel⟩ ⟨by decide, by decide⟩ ⟨by decide, by decide⟩ 9 rfl rfl rfl rfl (Nat.le_of_ble_eq_true rfl) (by decide +kernel) rfl rfl (fun hg4 => ?_)
      have hf : zfr [0, 8, 9, 10, 11, 12, 13, 14, 15, 16, 17] h0 r4.2 := zfr_tr hf (by decide) hg4
      refine z_istore_n (lv1 := [(3, .int (iI r4.1)), (0, .ref (ad 0)), (1, .int (iI p1)), (2, .int (iI p2))]) hX dX5_follow_47 (by decide) rfl ?_
      refine z_lv [1, 0] rfl ?_
      exact B48 r4.1 r4.2 hf hr
    · refine z_iconst hX dX5_follow_32 ?_
      obtain rfl := Option.some.inj hr
      exact hQ _ _ dX5_follow_33 hf (Or.inl rfl)

def fX5_judge_b142 (k71 : Int → Int → Int → Int → Int → Int → HS → Option (Int × HS)) (x4 : Int) (x5 : Int) (x6 : Int) (x7 : Int) (x8 : Int) (x9 : Int) (h : HS) : Option (Int × HS) := k71 x4 x5 x6 x7 x8 (x9 + 1) h
def fX5_judge_L71 : Nat → Int → Int → Int → Int → Int → Int → HS → Option (Int × HS)
  | 0, _, _, _, _, _, _, _ => none
  | nf + 1, x4, x5, x6, x7, x8, x9, h => if (64 : Int) ≤ wr x9 then if wr x7 = (1 : Int) then (fX2_captures h).bind fun r1 => (fX0_isTaken x5 h).bind fun r2 => if wr r1 = wr r2 then (fX2_sign h).bind fun r3 => (fX0_signBehind x8 x5 h).bind fun r4 => if wr r3 = wr r4.1 then some (0, (hs (hs r4.2 0 11 x8) 0 12 x5)) else some (7, r4.2) else some (6, h) else if wr x6 = 0 then some (3, h) else if wr x7 = 0 then some (4, h) else some (5, h) else (fX0_pieceOn x9 h).bind fun r5 => if wr r5 = wr x4 then (fX2_allowsFrom x9 h).bind fun r6 => if wr r6 = 0 then fX5_judge_b142 (fun a0 a1 a2 a3 a4 a5 hh => fX5_judge_L71 nf a0 a1 a2 a3 a4 a5 hh) x4 x5 x6 x7 x8 x9 h else (fX0_reaches x9 x5 h).bind fun r7 => if wr r7 = 0 then fX5_judge_b142 (fun a0 a1 a2 a3 a4 a5 hh => fX5_judge_L71 nf a0 a1 a2 a3 a4 a5 hh) x4 x5 x6 x7 x8 x9 h else (fX0_keepsRoyalsSafe x9 x5 h).bind fun r8 => if wr r8.1 = 0 then fX5_judge_b142 (fun a0 a1 a2 a3 a4 a5 hh => fX5_judge_L71 nf a0 a1 a2 a3 a4 a5 hh) x4 x5 (x6 + 1) x7 x8 x9 r8.2 else fX5_judge_b142 (fun a0 a1 a2 a3 a4 a5 hh => fX5_judge_L71 nf a0 a1 a2 a3 a4 a5 hh) x4 x5 (x6 + 1) (x7 + 1) x9 x9 r8.2 else fX5_judge_b142 (fun a0 a1 a2 a3 a4 a5 hh => fX5_judge_L71 nf a0 a1 a2 a3 a4 a5 hh) x4 x5 x6 x7 x8 x9 h
def fX5_judge (p1 : Int) (p2 : Int) (h : HS) : Option (Int × HS) := (fX2_fits p1 p2 h).bind fun r9 => if wr r9.1 = 0 then some (1, r9.2) else (fX2_letter r9.2).bind fun r10 => (fX1_withLetter r10 r9.2).bind fun r11 => if wr r11 = ((-1) : Int) then some (2, r9.2) else (fX5_turn r9.2).bind fun r12 => (fX2_to r9.2).bind fun r13 => fX5_judge_L71 zF ((2 * r11) + r12) r13 0 0 (-1) 0 r9.2
set_option maxRecDepth 100000 in
set_option maxHeartbeats 4000000 in
theorem mX5_judge {G : ZG} {l0 : Launch} {ad : Nat → Nat} {h0 : HS} {p1 : Int} {p2 : Int} {o : Int × HS} (hr : fX5_judge p1 p2 h0 = some o) : ZMi G l0 yX5_judge wsX5_judge ({ frames := 5, cells := 0, slots := 0, locals := 137 }) [.ref (ad 0), .int (iI p1), .int (iI p2)] sh_7 ad h0 [0, 8, 18] o.1 o.2 := by
  refine ZMi.of (cc := cX5_judge) (maxL := 10) (ret := (some .int)) (own := RX5) (lv0 := [(0, .ref (ad 0)), (1, .int (iI p1)), (2, .int (iI p2))]) (by decide) rfl rfl rfl (Nat.le_of_ble_eq_true rfl) rfl ?_
  intro X hX hQ
  have hf : zfr [0, 8, 18] h0 h0 := zfr_rf
  have fl_12 : zFld wsX5_judge RX5 12 5 RX5 TX5 16 0 := ⟨by decide +kernel, by decide +kernel, by decide, rfl⟩
  have fl_21 : zFld wsX5_judge RX5 21 5 RX5 TX5 16 1 := ⟨by decide +kernel, by decide +kernel, by decide, rfl⟩
  have fl_35 : zFld wsX5_judge RX5 35 5 RX5 TX5 16 3 := ⟨by decide +kernel, by decide +kernel, by decide, rfl⟩
  have fl_49 : zFld wsX5_judge RX5 49 5 RX5 TX5 16 6 := ⟨by decide +kernel, by decide +kernel, by decide, rfl⟩
  have fl_67 : zFld wsX5_judge RX5 67 5 RX5 TX5 16 11 := ⟨by decide +kernel, by decide +kernel, by decide, rfl⟩
  have fl_70 : zFld wsX5_judge RX5 70 5 RX5 TX5 16 12 := ⟨by decide +kernel, by decide +kernel, by decide, rfl⟩
  have pu_X5_11 : zPut TX5 16 11 tyX5 .int := ⟨tyX5_ok, nmX5, rfl, by decide +kernel⟩
  have pu_X5_12 : zPut TX5 16 12 tyX5 .int := ⟨tyX5_ok, nmX5, rfl, by decide +kernel⟩
  have B71 : ∀ (nf : Nat) (x4 : Int) (x5 : Int) (x6 : Int) (x7 : Int) (x8 : Int) (x9 : Int) (h : HS), zfr [0, 8, 18] h0 h → fX5_judge_L71 nf x4 x5 x6 x7 x8 x9 h = some o → ZW G X sh_7 ad h 0 0 [(0, .ref (ad 0)), (4, .int (iI x4)), (5, .int (iI x5)), (6, .int (iI x6)), (7, .int (iI x7)), (8, .int (iI x8)), (9, .int (iI x9))] 71 [] := by
    intro nf
    induction nf with
    | zero => intro x4 x5 x6 x7 x8 x9 h hf hr; exact z_none hr
    | succ n71 ih71 =>
      intro x4 x5 x6 x7 x8 x9 h hf hr
      have B142 : ∀ (x4 : Int) (x5 : Int) (x6 : Int) (x7 : Int) (x8 : Int) (x9 : Int) (h : HS), zfr [0, 8, 18] h0 h → fX5_judge_b142 (fun a0 a1 a2 a3 a4 a5 hh => fX5_judge_L71 n71 a0 a1 a2 a3 a4 a5 hh) x4 x5 x6 x7 x8 x9 h = some o → ZW G X sh_7 ad h 0 0 [(0, .ref (ad 0)), (4, .int (iI x4)), (5, .int (iI x5)), (6, .int (iI x6)), (7, .int (iI x7)), (8, .int (iI x8)), (9, .int (iI x9))] 142 [] := by
        intro x4 x5 x6 x7 x8 x9 h hf hr
        unfold fX5_judge_b142 at hr
        refine z_iinc (lv1 := [(9, .int (iI (x9 + 1))), (0, .ref (ad 0)), (4, .int (iI x4)), (5, .int (iI x5)), (6, .int (iI x6)), (7, .int (iI x7)), (8, .int (iI x8))]) hX dX5_judge_142 6 rfl (by decide) rfl ?_
        refine z_goto (tgt := 71) hX dX5_judge_145 (by decide) ?_
        refine z_lv [1, 2, 3, 4, 5, 6, 0] rfl ?_
        exact ih71 x4 x5 x6 x7 x8 (x9 + 1) h hf hr
      unfold fX5_judge_L71 at hr
      refine z_iload hX dX5_judge_71 6 rfl ?_
      refine z_bipush hX dX5_judge_73 (by decide +kernel) ?_
      refine z_icmp_ge (tgt := 148) hX dX5_judge_75 (by decide) rfl (wr_of (by decide) (by decide)) hr (fun hr => ?_) (fun hr => ?_)
      · refine z_iload hX dX5_judge_148 4 rfl ?_
        refine z_iconst hX dX5_judge_150 ?_
        refine z_icmp_eq (tgt := 174) hX dX5_judge_151 (by decide) rfl (wr_of (by decide) (by decide)) hr (fun hr => ?_) (fun hr => ?_)
        · refine z_aload_n hX dX5_judge_174 0 rfl ?_
          refine z_getR (j := 18) hX dX5_judge_175 fl_35 0 rfl rfl ?_
          obtain ⟨r1, hc1, hr⟩ := z_bind hr
          refine z_callV_i (As := []) (k1 := 0) (n1 := 0) (nA := 0) hX (mX2_captures hc1) dX5_judge_178 gX5_judge_X2_captures rfl ⟨rfl, by decide, by decide, by decide +kernel⟩ ⟨by decide, by decide⟩ ⟨by decide, by decide⟩ 18 rfl rfl rfl rfl (Nat.le_of_ble_eq_true rfl) (by decide +kernel) rfl rfl (fun hg1 => ?_)
          refine z_aload_n hX dX5_judge_181 0 rfl ?_
          refine z_getR (j := 7) hX dX5_judge_182 fl_21 0 rfl rfl ?_
          refine z_iload hX dX5_judge_185 2 rfl ?_
          obtain ⟨r2, hc2, hr⟩ := z_bind hr
          refine z_callV_i (As := [.int (iI x5)]) (k1 := 0) (n1 := 0) (nA := 1) hX (mX0_isTaken hc2) dX5_judge_187 gX5_judge_X0_isTaken rfl ⟨rfl, by decide, by decide, by decide +kernel⟩ ⟨by decide, by decide⟩ ⟨by decide, by decide⟩ 7 rfl rfl rfl rfl (Nat.le_of_ble_eq_true rfl) (by decide +kernel) rfl rfl (fun hg2 => ?_)
          refine z_icmp_eq (tgt := 196) hX dX5_judge_190 (by decide) rfl rfl hr (fun hr => ?_) (fun hr => ?_)
          · refine z_aload_n hX dX5_judge_196 0 rfl ?_
            refine z_getR (j := 18) hX dX5_judge_197 fl_35 0 rfl rfl ?_
            obtain ⟨r3, hc3, hr⟩ := z_bind hr
            refine z_callV_i (As := []) (k1 := 0) (n1 := 0) (nA := 0) hX (mX2_sign hc3) dX5_judge_200 gX5_judge_X2_sign rfl ⟨rfl, by decide, by decide, by decide +kernel⟩ ⟨by decide, by decide⟩ ⟨by decide, by decide⟩ 18 rfl rfl rfl rfl (Nat.le_of_ble_eq_true rfl) (by decide +kernel) rfl rfl (fun hg3 => ?_)
            refine z_aload_n hX dX5_judge_203 0 rfl ?_
            refine z_getR (j := 7) hX dX5_judge_204 fl_21 0 rfl rfl ?_
            refine z_iload hX dX5_judge_207 5 rfl ?_
            refine z_iload hX dX5_judge_209 2 rfl ?_
            obtain ⟨r4, hc4, hr⟩ := z_bind hr
            refine z_callV_i (As := [.int (iI x8), .int (iI x5)]) (k1 := 0) (n1 := 0) (nA := 2) hX (mX0_signBehind hc4) dX5_judge_211 gX5_judge_X0_signBehind rfl ⟨rfl, by decide, by decide, by decide +kernel⟩ ⟨by decide, by decide⟩ ⟨by decide, by decide⟩ 7 rfl rfl rfl rfl (Nat.le_of_ble_eq_true rfl) (by decide +kernel) rfl rfl (fun hg4 => ?_)
            have hf : zfr [0, 8, 18] h0 r4.2 := zfr_tr hf (by decide) hg4
            refine z_icmp_eq (tgt := 220) hX dX5_judge_214 (by decide) rfl rfl hr (fun hr => ?_) (fun hr => ?_)
            · refine z_aload_n hX dX5_judge_220 0 rfl ?_
              refine z_iload hX dX5_judge_221 5 rfl ?_
              refine z_putI hX dX5_judge_223 fl_67 pu_X5_11 0 rfl rfl ?_
              have hf : zfr [0, 8, 18] h0 (hs r4.2 0 11 x8) := zfr_hs hf (by decide)
              refine z_aload_n hX dX5_judge_226 0 rfl ?_
              refine z_iload hX dX5_judge_227 2 rfl ?_
              refine z_putI hX dX5_judge_229 fl_70 pu_X5_12 0 rfl rfl ?_
              have hf : zfr [0, 8, 18] h0 (hs (hs r4.2 0 11 x8) 0 12 x5) := zfr_hs hf (by decide)
              refine z_iconst hX dX5_judge_232 ?_
              obtain rfl := Option.some.inj hr
              exact hQ _ _ dX5_judge_233 hf
            · refine z_bipush hX dX5_judge_217 (by decide +kernel) ?_
              obtain rfl := Option.some.inj hr
              exact hQ _ _ dX5_judge_219 hf
          · refine z_bipush hX dX5_judge_193 (by decide +kernel) ?_
            obtain rfl := Option.some.inj hr
            exact hQ _ _ dX5_judge_195 hf
        · refine z_iload hX dX5_judge_154 3 rfl ?_
          refine z_if_ne (tgt := 163) hX dX5_judge_156 (by decide) rfl hr (fun hr => ?_) (fun hr => ?_)
          · refine z_iload hX dX5_judge_163 4 rfl ?_
            refine z_if_ne (tgt := 172) hX dX5_judge_165 (by decide) rfl hr (fun hr => ?_) (fun hr => ?_)
            · refine z_iconst hX dX5_judge_172 ?_
              obtain rfl := Option.some.inj hr
              exact hQ _ _ dX5_judge_173 hf
            · refine z_iconst hX dX5_judge_168 ?_
              refine z_goto (tgt := 173) hX dX5_judge_169 (by decide) ?_
              obtain rfl := Option.some.inj hr
              exact hQ _ _ dX5_judge_173 hf
          · refine z_iconst hX dX5_judge_159 ?_
            refine z_goto (tgt := 173) hX dX5_judge_160 (by decide) ?_
            obtain rfl := Option.some.inj hr
            exact hQ _ _ dX5_judge_173 hf
      · refine z_aload_n hX dX5_judge_78 0 rfl ?_
        refine z_getR (j := 7) hX dX5_judge_79 fl_21 0 rfl rfl ?_
        refine z_iload hX dX5_judge_82 6 rfl ?_
        obtain ⟨r5, hc5, hr⟩ := z_bind hr
        refine z_callV_i (As := [.int (iI x9)]) (k1 := 0) (n1 := 0) (nA := 1) hX (mX0_pieceOn hc5) dX5_judge_84 gX5_judge_X0_pieceOn rfl ⟨rfl, by decide, by decide, by decide +kernel⟩ ⟨by decide, by decide⟩ ⟨by decide, by decide⟩ 7 rfl rfl rfl rfl (Nat.le_of_ble_eq_true rfl) (by decide +kernel) rfl rfl (fun hg5 => ?_)
        refine z_iload hX dX5_judge_87 1 rfl ?_
        refine z_icmp_ne (tgt := 142) hX dX5_judge_89 (by decide) rfl rfl hr (fun hr => ?_) (fun hr => ?_)
        · exact B142 x4 x5 x6 x7 x8 x9 h hf hr
        · refine z_aload_n hX dX5_judge_92 0 rfl ?_
          refine z_getR (j := 18) hX dX5_judge_93 fl_35 0 rfl rfl ?_
          refine z_iload hX dX5_judge_96 6 rfl ?_
          obtain ⟨r6, hc6, hr⟩ := z_bind hr
          refine z_callV_i (As := [.int (iI x9)]) (k1 := 0) (n1 := 0) (nA := 1) hX (mX2_allowsFrom hc6) dX5_judge_98 gX5_judge_X2_allowsFrom rfl ⟨rfl, by decide, by decide, by decide +kernel⟩ ⟨by decide, by decide⟩ ⟨by decide, by decide⟩ 18 rfl rfl rfl rfl (Nat.le_of_ble_eq_true rfl) (by decide +kernel) rfl rfl (fun hg6 => ?_)
          refine z_if_eq (tgt := 142) hX dX5_judge_101 (by decide) rfl hr (fun hr => ?_) (fun hr => ?_)
          · exact B142 x4 x5 x6 x7 x8 x9 h hf hr
          · refine z_aload_n hX dX5_judge_104 0 rfl ?_
            refine z_getR (j := 7) hX dX5_judge_105 fl_21 0 rfl rfl ?_
            refine z_iload hX dX5_judge_108 6 rfl ?_
            refine z_iload hX dX5_judge_110 2 rfl ?_
            obtain ⟨r7, hc7, hr⟩ := z_bind hr
            refine z_callV_i (As := [.int (iI x9), .int (iI x5)]) (k1 := 0) (n1 := 0) (nA := 2) hX (mX0_reaches hc7) dX5_judge_112 gX5_judge_X0_reaches rfl ⟨rfl, by decide, by decide, by decide +kernel⟩ ⟨by decide, by decide⟩ ⟨by decide, by decide⟩ 7 rfl rfl rfl rfl (Nat.le_of_ble_eq_true rfl) (by decide +kernel) rfl rfl (fun hg7 => ?_)
            refine z_if_eq (tgt := 142) hX dX5_judge_115 (by decide) rfl hr (fun hr => ?_) (fun hr => ?_)
            · exact B142 x4 x5 x6 x7 x8 x9 h hf hr
            · refine z_iinc (lv1 := [(6, .int (iI (x6 + 1))), (0, .ref (ad 0)), (4, .int (iI x4)), (5, .int (iI x5)), (7, .int (iI x7)), (8, .int (iI x8)), (9, .int (iI x9))]) hX dX5_judge_118 3 rfl (by decide) rfl ?_
              refine z_aload_n hX dX5_judge_121 1 rfl ?_
              refine z_getR (j := 7) hX dX5_judge_122 fl_21 0 rfl rfl ?_
              refine z_iload hX dX5_judge_125 6 rfl ?_
              refine z_iload hX dX5_judge_127 3 rfl ?_
              obtain ⟨r8, hc8, hr⟩ := z_bind hr
              refine z_callV_i (As := [.int (iI x9), .int (iI x5)]) (k1 := 0) (n1 := 0) (nA := 2) hX (mX0_keepsRoyalsSafe hc8) dX5_judge_129 gX5_judge_X0_keepsRoyalsSafe rfl ⟨rfl, by decide, by decide, by decide +kernel⟩ ⟨by decide, by decide⟩ ⟨by decide, by decide⟩ 7 rfl rfl rfl rfl (Nat.le_of_ble_eq_true rfl) (by decide +kernel) rfl rfl (fun hg8 => ?_)
              have hf : zfr [0, 8, 18] h0 r8.2 := zfr_tr hf (by decide) hg8
              refine z_if_eq (tgt := 142) hX dX5_judge_132 (by decide) rfl hr (fun hr => ?_) (fun hr => ?_)
              · refine z_lv [1, 2, 3, 0, 4, 5, 6] rfl ?_
                exact B142 x4 x5 (x6 + 1) x7 x8 x9 r8.2 hf hr
              · refine z_iinc (lv1 := [(7, .int (iI (x7 + 1))), (6, .int (iI (x6 + 1))), (0, .ref (ad 0)), (4, .int (iI x4)), (5, .int (iI x5)), (8, .int (iI x8)), (9, .int (iI x9))]) hX dX5_judge_135 4 rfl (by decide) rfl ?_
                refine z_iload hX dX5_judge_138 6 rfl ?_
                refine z_istore (lv1 := [(8, .int (iI x9)), (7, .int (iI (x7 + 1))), (6, .int (iI (x6 + 1))), (0, .ref (ad 0)), (4, .int (iI x4)), (5, .int (iI x5)), (9, .int (iI x9))]) hX dX5_judge_140 (by decide) rfl ?_
                refine z_lv [3, 4, 5, 2, 1, 0, 6] rfl ?_
                exact B142 x4 x5 (x6 + 1) (x7 + 1) x9 x9 r8.2 hf hr
  unfold fX5_judge at hr
  refine z_aload_n hX dX5_judge_0 0 rfl ?_
  refine z_getR (j := 18) hX dX5_judge_1 fl_35 0 rfl rfl ?_
  refine z_aload_n hX dX5_judge_4 0 rfl ?_
  refine z_getR (j := 19) hX dX5_judge_5 fl_49 0 rfl rfl ?_
  refine z_iload_n hX dX5_judge_8 1 rfl ?_
  refine z_iload_n hX dX5_judge_9 2 rfl ?_
  obtain ⟨r9, hc9, hr⟩ := z_bind hr
  refine z_callV_i (As := [.ref (ad 19), .int (iI p1), .int (iI p2)]) (k1 := 0) (n1 := 0) (nA := 3) hX (mX2_fits hc9) dX5_judge_10 gX5_judge_X2_fits rfl ⟨rfl, by decide, by decide, by decide +kernel⟩ ⟨by decide, by decide⟩ ⟨by decide, by decide⟩ 18 rfl rfl rfl rfl (Nat.le_of_ble_eq_true rfl) (by decide +kernel) rfl rfl (fun hg9 => ?_)
  have hf : zfr [0, 8, 18] h0 r9.2 := zfr_tr hf (by decide) hg9
  refine z_if_ne (tgt := 18) hX dX5_judge_13 (by decide) rfl hr (fun hr => ?_) (fun hr => ?_)
  · refine z_aload_n hX dX5_judge_18 0 rfl ?_
    refine z_getR (j := 1) hX dX5_judge_19 fl_12 0 rfl rfl ?_
    refine z_aload_n hX dX5_judge_22 0 rfl ?_
    refine z_getR (j := 18) hX dX5_judge_23 fl_35 0 rfl rfl ?_
    obtain ⟨r10, hc10, hr⟩ := z_bind hr
    refine z_callV_i (As := []) (k1 := 0) (n1 := 0) (nA := 0) hX (mX2_letter hc10) dX5_judge_26 gX5_judge_X2_letter rfl ⟨rfl, by decide, by decide, by decide +kernel⟩ ⟨by decide, by decide⟩ ⟨by decide, by decide⟩ 18 rfl rfl rfl rfl (Nat.le_of_ble_eq_true rfl) (by decide +kernel) rfl rfl (fun hg10 => ?_)
    obtain ⟨r11, hc11, hr⟩ := z_bind hr
    refine z_callV_i (As := [.int (iI r10)]) (k1 := 0) (n1 := 0) (nA := 1) hX (mX1_withLetter hc11) dX5_judge_29 gX5_judge_X1_withLetter rfl ⟨rfl, by decide, by decide, by decide +kernel⟩ ⟨by decide, by decide⟩ ⟨by decide, by decide⟩ 1 rfl rfl rfl rfl (Nat.le_of_ble_eq_true rfl) (by decide +kernel) rfl rfl (fun hg11 => ?_)
    refine z_istore_n (lv1 := [(3, .int (iI r11)), (0, .ref (ad 0)), (1, .int (iI p1)), (2, .int (iI p2))]) hX dX5_judge_32 (by decide) rfl ?_
    refine z_iload_n hX dX5_judge_33 0 rfl ?_
    refine z_iconst hX dX5_judge_34 ?_
    refine z_icmp_ne (tgt := 40) hX dX5_judge_35 (by decide) rfl (wr_of (by decide) (by decide)) hr (fun hr => ?_) (fun hr => ?_)
    · refine z_iconst hX dX5_judge_40 ?_
      refine z_iload_n hX dX5_judge_41 0 rfl ?_
      refine z_imul hX dX5_judge_42 ?_
      refine z_aload_n hX dX5_judge_43 1 rfl ?_
      obtain ⟨r12, hc12, hr⟩ := z_bind hr
      refine z_callV_i (As := []) (k1 := 0) (n1 := 0) (nA := 0) hX (mX5_turn hc12) dX5_judge_44 gX5_judge_X5_turn rfl ⟨rfl, by decide, by decide, by decide +kernel⟩ ⟨by decide, by decide⟩ ⟨by decide, by decide⟩ 0 rfl rfl rfl rfl (Nat.le_of_ble_eq_true rfl) (by decide +kernel) rfl rfl (fun hg12 => ?_)
      refine z_iadd hX dX5_judge_47 ?_
      refine z_istore (lv1 := [(4, .int (iI ((2 * r11) + r12))), (3, .int (iI r11)), (0, .ref (ad 0)), (1, .int (iI p1)), (2, .int (iI p2))]) hX dX5_judge_48 (by decide) rfl ?_
      refine z_aload_n hX dX5_judge_50 2 rfl ?_
      refine z_getR (j := 18) hX dX5_judge_51 fl_35 0 rfl rfl ?_
      obtain ⟨r13, hc13, hr⟩ := z_bind hr
      refine z_callV_i (As := []) (k1 := 0) (n1 := 0) (nA := 0) hX (mX2_to hc13) dX5_judge_54 gX5_judge_X2_to rfl ⟨rfl, by decide, by decide, by decide +kernel⟩ ⟨by decide, by decide⟩ ⟨by decide, by decide⟩ 18 rfl rfl rfl rfl (Nat.le_of_ble_eq_true rfl) (by decide +kernel) rfl rfl (fun hg13 => ?_)
      refine z_istore (lv1 := [(5, .int (iI r13)), (4, .int (iI ((2 * r11) + r12))), (3, .int (iI r11)), (0, .ref (ad 0)), (1, .int (iI p1)), (2, .int (iI p2))]) hX dX5_judge_57 (by decide) rfl ?_
      refine z_iconst hX dX5_judge_59 ?_
      refine z_istore (lv1 := [(6, .int (iI 0)), (5, .int (iI r13)), (4, .int (iI ((2 * r11) + r12))), (3, .int (iI r11)), (0, .ref (ad 0)), (1, .int (iI p1)), (2, .int (iI p2))]) hX dX5_judge_60 (by decide) rfl ?_
      refine z_iconst hX dX5_judge_62 ?_
      refine z_istore (lv1 := [(7, .int (iI 0)), (6, .int (iI 0)), (5, .int (iI r13)), (4, .int (iI ((2 * r11) + r12))), (3, .int (iI r11)), (0, .ref (ad 0)), (1, .int (iI p1)), (2, .int (iI p2))]) hX dX5_judge_63 (by decide) rfl ?_
      refine z_iconst hX dX5_judge_65 ?_
      refine z_istore (lv1 := [(8, .int (iI (-1))), (7, .int (iI 0)), (6, .int (iI 0)), (5, .int (iI r13)), (4, .int (iI ((2 * r11) + r12))), (3, .int (iI r11)), (0, .ref (ad 0)), (1, .int (iI p1)), (2, .int (iI p2))]) hX dX5_judge_66 (by decide) rfl ?_
      refine z_iconst hX dX5_judge_68 ?_
      refine z_istore (lv1 := [(9, .int (iI 0)), (8, .int (iI (-1))), (7, .int (iI 0)), (6, .int (iI 0)), (5, .int (iI r13)), (4, .int (iI ((2 * r11) + r12))), (3, .int (iI r11)), (0, .ref (ad 0)), (1, .int (iI p1)), (2, .int (iI p2))]) hX dX5_judge_69 (by decide) rfl ?_
      refine z_lv [7, 5, 4, 3, 2, 1, 0] rfl ?_
      exact B71 zF ((2 * r11) + r12) r13 0 0 (-1) 0 r9.2 hf hr
    · refine z_iconst hX dX5_judge_38 ?_
      obtain rfl := Option.some.inj hr
      exact hQ _ _ dX5_judge_39 hf
  · refine z_iconst hX dX5_judge_16 ?_
    obtain rfl := Option.some.inj hr
    exact hQ _ _ dX5_judge_17 hf

def fX5_openVariation (h : HS) : Option (Int × HS) := if wr (h 0 10) = 0 then if wr (h 0 8) = 0 then some (8, h) else if wr (h 0 9) < (2000 : Int) then if (0 : Int) ≤ (h 0 9) ∧ (h 0 9) < 2000 then (fX5_stepUp (hs (hs h 24 (h 0 9) (h 0 8)) 0 9 ((((hs h 24 (h 0 9) (h 0 8))) 0 9) + 1))).bind fun r1 => if (1 : Int) = 0 ∨ (1 : Int) = 1 then some (0, (hs r1 0 10 1)) else none else none else some (8, h) else some (8, h)
set_option maxRecDepth 100000 in
set_option maxHeartbeats 4000000 in
theorem mX5_openVariation {G : ZG} {l0 : Launch} {ad : Nat → Nat} {h0 : HS} {o : Int × HS} (hr : fX5_openVariation h0 = some o) : ZMi G l0 yX5_openVariation wsX5_openVariation ({ frames := 3, cells := 0, slots := 0, locals := 63 }) [.ref (ad 0)] sh_7 ad h0 [0, 8, 24] o.1 o.2 := by
  refine ZMi.of (cc := cX5_openVariation) (maxL := 1) (ret := (some .int)) (own := RX5) (lv0 := [(0, .ref (ad 0))]) (by decide) rfl rfl rfl (Nat.le_of_ble_eq_true rfl) rfl ?_
  intro X hX hQ
  have hf : zfr [0, 8, 24] h0 h0 := zfr_rf
  have fl_43 : zFld wsX5_openVariation RX5 43 5 RX5 TX5 16 5 := ⟨by decide +kernel, by decide +kernel, by decide, rfl⟩
  have fl_56 : zFld wsX5_openVariation RX5 56 5 RX5 TX5 16 8 := ⟨by decide +kernel, by decide +kernel, by decide, rfl⟩
  have fl_60 : zFld wsX5_openVariation RX5 60 5 RX5 TX5 16 9 := ⟨by decide +kernel, by decide +kernel, by decide, rfl⟩
  have fl_63 : zFld wsX5_openVariation RX5 63 5 RX5 TX5 16 10 := ⟨by decide +kernel, by decide +kernel, by decide, rfl⟩
  have pu_X5_9 : zPut TX5 16 9 tyX5 .int := ⟨tyX5_ok, nmX5, rfl, by decide +kernel⟩
  have pu_X5_10 : zPut TX5 16 10 tyX5 .boolean := ⟨tyX5_ok, nmX5, rfl, by decide +kernel⟩
  unfold fX5_openVariation at hr
  refine z_aload_n hX dX5_openVariation_0 0 rfl ?_
  refine z_getI hX dX5_openVariation_1 fl_63 0 rfl rfl ?_
  refine z_if_ne (tgt := 26) hX dX5_openVariation_4 (by decide) rfl hr (fun hr => ?_) (fun hr => ?_)
  · refine z_bipush hX dX5_openVariation_26 (by decide +kernel) ?_
    obtain rfl := Option.some.inj hr
    exact hQ _ _ dX5_openVariation_28 hf
  · refine z_aload_n hX dX5_openVariation_7 0 rfl ?_
    refine z_getI hX dX5_openVariation_8 fl_56 0 rfl rfl ?_
    refine z_if_eq (tgt := 26) hX dX5_openVariation_11 (by decide) rfl hr (fun hr => ?_) (fun hr => ?_)
    · refine z_bipush hX dX5_openVariation_26 (by decide +kernel) ?_
      obtain rfl := Option.some.inj hr
      exact hQ _ _ dX5_openVariation_28 hf
    · refine z_aload_n hX dX5_openVariation_14 0 rfl ?_
      refine z_getI hX dX5_openVariation_15 fl_60 0 rfl rfl ?_
      refine z_aload_n hX dX5_openVariation_18 0 rfl ?_
      refine z_getR (j := 24) hX dX5_openVariation_19 fl_43 0 rfl rfl ?_
      refine z_alen hX dX5_openVariation_22 24 rfl ?_
      refine z_icmp_lt (tgt := 29) hX dX5_openVariation_23 (by decide) rfl (wr_of (by decide) (by decide)) hr (fun hr => ?_) (fun hr => ?_)
      · refine z_aload_n hX dX5_openVariation_29 0 rfl ?_
        refine z_getR (j := 24) hX dX5_openVariation_30 fl_43 0 rfl rfl ?_
        refine z_aload_n hX dX5_openVariation_33 0 rfl ?_
        refine z_getI hX dX5_openVariation_34 fl_60 0 rfl rfl ?_
        refine z_aload_n hX dX5_openVariation_37 0 rfl ?_
        refine z_getI hX dX5_openVariation_38 fl_56 0 rfl rfl ?_
        refine z_iastore (b := 2000) hX dX5_openVariation_41 24 rfl (by decide) rfl hr (fun hr => ?_)
        have hf : zfr [0, 8, 24] h0 (hs h0 24 (h0 0 9) (h0 0 8)) := zfr_hs hf (by decide)
        refine z_aload_n hX dX5_openVariation_42 0 rfl ?_
        refine z_dup hX dX5_openVariation_43 rfl ?_
        refine z_getI hX dX5_openVariation_44 fl_60 0 rfl rfl ?_
        refine z_iconst hX dX5_openVariation_47 ?_
        refine z_iadd hX dX5_openVariation_48 ?_
        refine z_putI hX dX5_openVariation_49 fl_60 pu_X5_9 0 rfl rfl ?_
        have hf : zfr [0, 8, 24] h0 (hs (hs h0 24 (h0 0 9) (h0 0 8)) 0 9 ((((hs h0 24 (h0 0 9) (h0 0 8))) 0 9) + 1)) := zfr_hs hf (by decide)
        refine z_aload_n hX dX5_openVariation_52 0 rfl ?_
        obtain ⟨r1, hc1, hr⟩ := z_bind hr
        refine z_callV_v (As := []) (k1 := 0) (n1 := 0) (nA := 0) hX (mX5_stepUp hc1) dX5_openVariation_53 gX5_openVariation_X5_stepUp rfl ⟨rfl, by decide, by decide, by decide +kernel⟩ ⟨by decide, by decide⟩ ⟨by decide, by decide⟩ 0 rfl rfl rfl rfl (Nat.le_of_ble_eq_true rfl) (by decide +kernel) rfl rfl (fun hg1 => ?_)
        have hf : zfr [0, 8, 24] h0 r1 := zfr_tr hf (by decide) hg1
        refine z_aload_n hX dX5_openVariation_56 0 rfl ?_
        refine z_iconst hX dX5_openVariation_57 ?_
        refine z_putZ hX dX5_openVariation_58 fl_63 pu_X5_10 0 rfl rfl hr (fun hr => ?_)
        have hf : zfr [0, 8, 24] h0 (hs r1 0 10 1) := zfr_hs hf (by decide)
        refine z_iconst hX dX5_openVariation_61 ?_
        obtain rfl := Option.some.inj hr
        exact hQ _ _ dX5_openVariation_62 hf
      · refine z_bipush hX dX5_openVariation_26 (by decide +kernel) ?_
        obtain rfl := Option.some.inj hr
        exact hQ _ _ dX5_openVariation_28 hf

def fX5_closeVariation (h : HS) : Option (Int × HS) := if wr (h 0 10) = 0 then if wr (h 0 9) ≤ 0 then some (8, h) else if wr (h 0 9) ≤ (2000 : Int) then if (0 : Int) ≤ (((hs h 0 9 ((h 0 9) - 1))) 0 9) ∧ (((hs h 0 9 ((h 0 9) - 1))) 0 9) < 2000 then (fX5_visit (((hs h 0 9 ((h 0 9) - 1))) 24 (((hs h 0 9 ((h 0 9) - 1))) 0 9)) (hs h 0 9 ((h 0 9) - 1))).bind fun r1 => some (0, r1) else none else some (8, h) else some (8, h)
set_option maxRecDepth 100000 in
set_option maxHeartbeats 4000000 in
theorem mX5_closeVariation {G : ZG} {l0 : Launch} {ad : Nat → Nat} {h0 : HS} {o : Int × HS} (hr : fX5_closeVariation h0 = some o) : ZMi G l0 yX5_closeVariation wsX5_closeVariation ({ frames := 4, cells := 0, slots := 0, locals := 88 }) [.ref (ad 0)] sh_7 ad h0 [0, 8, 13, 23] o.1 o.2 := by
  refine ZMi.of (cc := cX5_closeVariation) (maxL := 1) (ret := (some .int)) (own := RX5) (lv0 := [(0, .ref (ad 0))]) (by decide) rfl rfl rfl (Nat.le_of_ble_eq_true rfl) rfl ?_
  intro X hX hQ
  have hf : zfr [0, 8, 13, 23] h0 h0 := zfr_rf
  have fl_43 : zFld wsX5_closeVariation RX5 43 5 RX5 TX5 16 5 := ⟨by decide +kernel, by decide +kernel, by decide, rfl⟩
  have fl_60 : zFld wsX5_closeVariation RX5 60 5 RX5 TX5 16 9 := ⟨by decide +kernel, by decide +kernel, by decide, rfl⟩
  have fl_63 : zFld wsX5_closeVariation RX5 63 5 RX5 TX5 16 10 := ⟨by decide +kernel, by decide +kernel, by decide, rfl⟩
  have pu_X5_9 : zPut TX5 16 9 tyX5 .int := ⟨tyX5_ok, nmX5, rfl, by decide +kernel⟩
  unfold fX5_closeVariation at hr
  refine z_aload_n hX dX5_closeVariation_0 0 rfl ?_
  refine z_getI hX dX5_closeVariation_1 fl_63 0 rfl rfl ?_
  refine z_if_ne (tgt := 26) hX dX5_closeVariation_4 (by decide) rfl hr (fun hr => ?_) (fun hr => ?_)
  · refine z_bipush hX dX5_closeVariation_26 (by decide +kernel) ?_
    obtain rfl := Option.some.inj hr
    exact hQ _ _ dX5_closeVariation_28 hf
  · refine z_aload_n hX dX5_closeVariation_7 0 rfl ?_
    refine z_getI hX dX5_closeVariation_8 fl_60 0 rfl rfl ?_
    refine z_if_le (tgt := 26) hX dX5_closeVariation_11 (by decide) rfl hr (fun hr => ?_) (fun hr => ?_)
    · refine z_bipush hX dX5_closeVariation_26 (by decide +kernel) ?_
      obtain rfl := Option.some.inj hr
      exact hQ _ _ dX5_closeVariation_28 hf
    · refine z_aload_n hX dX5_closeVariation_14 0 rfl ?_
      refine z_getI hX dX5_closeVariation_15 fl_60 0 rfl rfl ?_
      refine z_aload_n hX dX5_closeVariation_18 0 rfl ?_
      refine z_getR (j := 24) hX dX5_closeVariation_19 fl_43 0 rfl rfl ?_
      refine z_alen hX dX5_closeVariation_22 24 rfl ?_
      refine z_icmp_le (tgt := 29) hX dX5_closeVariation_23 (by decide) rfl (wr_of (by decide) (by decide)) hr (fun hr => ?_) (fun hr => ?_)
      · refine z_aload_n hX dX5_closeVariation_29 0 rfl ?_
        refine z_dup hX dX5_closeVariation_30 rfl ?_
        refine z_getI hX dX5_closeVariation_31 fl_60 0 rfl rfl ?_
        refine z_iconst hX dX5_closeVariation_34 ?_
        refine z_isub hX dX5_closeVariation_35 ?_
        refine z_putI hX dX5_closeVariation_36 fl_60 pu_X5_9 0 rfl rfl ?_
        have hf : zfr [0, 8, 13, 23] h0 (hs h0 0 9 ((h0 0 9) - 1)) := zfr_hs hf (by decide)
        refine z_aload_n hX dX5_closeVariation_39 0 rfl ?_
        refine z_aload_n hX dX5_closeVariation_40 0 rfl ?_
        refine z_getR (j := 24) hX dX5_closeVariation_41 fl_43 0 rfl rfl ?_
        refine z_aload_n hX dX5_closeVariation_44 0 rfl ?_
        refine z_getI hX dX5_closeVariation_45 fl_60 0 rfl rfl ?_
        refine z_iaload (b := 2000) hX dX5_closeVariation_48 24 rfl (by decide) rfl hr (fun hr => ?_)
        obtain ⟨r1, hc1, hr⟩ := z_bind hr
        refine z_callV_v (As := [.int (iI (((hs h0 0 9 ((h0 0 9) - 1))) 24 (((hs h0 0 9 ((h0 0 9) - 1))) 0 9)))]) (k1 := 0) (n1 := 0) (nA := 1) hX (mX5_visit hc1) dX5_closeVariation_49 gX5_closeVariation_X5_visit rfl ⟨rfl, by decide, by decide, by decide +kernel⟩ ⟨by decide, by decide⟩ ⟨by decide, by decide⟩ 0 rfl rfl rfl rfl (Nat.le_of_ble_eq_true rfl) (by decide +kernel) rfl rfl (fun hg1 => ?_)
        have hf : zfr [0, 8, 13, 23] h0 r1 := zfr_tr hf (by decide) hg1
        refine z_iconst hX dX5_closeVariation_52 ?_
        obtain rfl := Option.some.inj hr
        exact hQ _ _ dX5_closeVariation_53 hf
      · refine z_bipush hX dX5_closeVariation_26 (by decide +kernel) ?_
        obtain rfl := Option.some.inj hr
        exact hQ _ _ dX5_closeVariation_28 hf

def fX5_writeOrigin_b149 (x3 : Int) (x6 : Int) (h : HS) : Option (HS) := if wr x6 = 0 then some h else if (0 : Int) ≤ x3 ∧ x3 < 2147483648 then (fX3_append (49 + (x3 / 8)) h).bind fun r1 => some r1 else none
def fX5_writeOrigin_b138 (x3 : Int) (x6 : Int) (h : HS) : Option (HS) := if (0 : Int) ≤ x3 ∧ x3 < 2147483648 then (fX3_append (97 + (x3 % 8)) h).bind fun r2 => fX5_writeOrigin_b149 x3 x6 r2 else none
def fX5_writeOrigin_b117 (k12 : Int → Int → Int → Int → Int → Int → Int → HS → Option (HS)) (x2 : Int) (x3 : Int) (x4 : Int) (x5 : Int) (x6 : Int) (x7 : Int) (x8 : Int) (h : HS) : Option (HS) := k12 x2 x3 x4 x5 x6 x7 (x8 + 1) h
def fX5_writeOrigin_b115 (k12 : Int → Int → Int → Int → Int → Int → Int → HS → Option (HS)) (x2 : Int) (x3 : Int) (x4 : Int) (x5 : Int) (x6 : Int) (x8 : Int) (s0 : Int) (h : HS) : Option (HS) := fX5_writeOrigin_b117 k12 x2 x3 x4 x5 x6 s0 x8 h
def fX5_writeOrigin_b110 (k12 : Int → Int → Int → Int → Int → Int → Int → HS → Option (HS)) (x2 : Int) (x3 : Int) (x4 : Int) (x5 : Int) (x6 : Int) (x8 : Int) (h : HS) : Option (HS) := fX5_writeOrigin_b115 k12 x2 x3 x4 x5 x6 x8 1 h
def fX5_writeOrigin_b91 (k12 : Int → Int → Int → Int → Int → Int → Int → HS → Option (HS)) (x2 : Int) (x3 : Int) (x4 : Int) (x5 : Int) (x7 : Int) (x8 : Int) (s0 : Int) (h : HS) : Option (HS) := if wr x7 = 0 then if (0 : Int) ≤ x8 ∧ x8 < 2147483648 then if (0 : Int) ≤ x3 ∧ x3 < 2147483648 then if wr (x8 / 8) = wr (x3 / 8) then fX5_writeOrigin_b110 k12 x2 x3 x4 x5 s0 x8 h else fX5_writeOrigin_b115 k12 x2 x3 x4 x5 s0 x8 0 h else none else none else fX5_writeOrigin_b110 k12 x2 x3 x4 x5 s0 x8 h
def fX5_writeOrigin_b86 (k12 : Int → Int → Int → Int → Int → Int → Int → HS → Option (HS)) (x2 : Int) (x3 : Int) (x4 : Int) (x5 : Int) (x7 : Int) (x8 : Int) (h : HS) : Option (HS) := fX5_writeOrigin_b91 k12 x2 x3 x4 x5 x7 x8 1 h
def fX5_writeOrigin_L12 : Nat → Int → Int → Int → Int → Int → Int → Int → HS → Option (HS)
  | 0, _, _, _, _, _, _, _, _ => none
  | nf + 1, x2, x3, x4, x5, x6, x7, x8, h => if (64 : Int) ≤ wr x8 then if wr x5 = 0 then fX5_writeOrigin_b149 x3 x6 h else if wr x6 = 0 then fX5_writeOrigin_b138 x3 x6 h else if wr x7 = 0 then fX5_writeOrigin_b149 x3 x6 h else fX5_writeOrigin_b138 x3 x6 h else if wr x8 = wr x3 then fX5_writeOrigin_b117 (fun a0 a1 a2 a3 a4 a5 a6 hh => fX5_writeOrigin_L12 nf a0 a1 a2 a3 a4 a5 a6 hh) x2 x3 x4 x5 x6 x7 x8 h else (fX0_pieceOn x8 h).bind fun r3 => if wr r3 = wr x2 then (fX0_reaches x8 x4 h).bind fun r4 => if wr r4 = 0 then fX5_writeOrigin_b117 (fun a0 a1 a2 a3 a4 a5 a6 hh => fX5_writeOrigin_L12 nf a0 a1 a2 a3 a4 a5 a6 hh) x2 x3 x4 x5 x6 x7 x8 h else (fX0_keepsRoyalsSafe x8 x4 h).bind fun r5 => if wr r5.1 = 0 then fX5_writeOrigin_b117 (fun a0 a1 a2 a3 a4 a5 a6 hh => fX5_writeOrigin_L12 nf a0 a1 a2 a3 a4 a5 a6 hh) x2 x3 x4 x5 x6 x7 x8 r5.2 else if wr x6 = 0 then if (0 : Int) ≤ x8 ∧ x8 < 2147483648 then if (0 : Int) ≤ x3 ∧ x3 < 2147483648 then if wr (x8 % 8) = wr (x3 % 8) then fX5_writeOrigin_b86 (fun a0 a1 a2 a3 a4 a5 a6 hh => fX5_writeOrigin_L12 nf a0 a1 a2 a3 a4 a5 a6 hh) x2 x3 x4 1 x7 x8 r5.2 else fX5_writeOrigin_b91 (fun a0 a1 a2 a3 a4 a5 a6 hh => fX5_writeOrigin_L12 nf a0 a1 a2 a3 a4 a5 a6 hh) x2 x3 x4 1 x7 x8 0 r5.2 else none else none else fX5_writeOrigin_b86 (fun a0 a1 a2 a3 a4 a5 a6 hh => fX5_writeOrigin_L12 nf a0 a1 a2 a3 a4 a5 a6 hh) x2 x3 x4 1 x7 x8 r5.2 else fX5_writeOrigin_b117 (fun a0 a1 a2 a3 a4 a5 a6 hh => fX5_writeOrigin_L12 nf a0 a1 a2 a3 a4 a5 a6 hh) x2 x3 x4 x5 x6 x7 x8 h
def fX5_writeOrigin (p2 : Int) (p3 : Int) (p4 : Int) (h : HS) : Option (HS) := fX5_writeOrigin_L12 zF p2 p3 p4 0 0 0 0 h
set_option maxRecDepth 100000 in
set_option maxHeartbeats 4000000 in
theorem mX5_writeOrigin {G : ZG} {l0 : Launch} {ad : Nat → Nat} {h0 : HS} {p2 : Int} {p3 : Int} {p4 : Int} {o : HS} (hr : fX5_writeOrigin p2 p3 p4 h0 = some o) : ZMv G l0 yX5_writeOrigin wsX5_writeOrigin ({ frames := 3, cells := 0, slots := 0, locals := 85 }) [.ref (ad 0), .ref (ad 19), .int (iI p2), .int (iI p3), .int (iI p4)] sh_7 ad h0 [8, 19, 20] o := by
  refine ZMv.of (cc := cX5_writeOrigin) (maxL := 9) (ret := none) (own := RX5) (lv0 := [(0, .ref (ad 0)), (1, .ref (ad 19)), (2, .int (iI p2)), (3, .int (iI p3)), (4, .int (iI p4))]) (by decide) rfl rfl rfl (Nat.le_of_ble_eq_true rfl) rfl ?_
  intro X hX hQ
  have hf : zfr [8, 19, 20] h0 h0 := zfr_rf
  have fl_21 : zFld wsX5_writeOrigin RX5 21 5 RX5 TX5 16 1 := ⟨by decide +kernel, by decide +kernel, by decide, rfl⟩
  have B149 : ∀ (x3 : Int) (x6 : Int) (h : HS), zfr [8, 19, 20] h0 h → fX5_writeOrigin_b149 x3 x6 h = some o → ZW G X sh_7 ad h 0 0 [(1, .ref (ad 19)), (3, .int (iI x3)), (6, .int (iI x6))] 149 [] := by
    intro x3 x6 h hf hr
    unfold fX5_writeOrigin_b149 at hr
    refine z_iload hX dX5_writeOrigin_149 2 rfl ?_
    refine z_if_eq (tgt := 165) hX dX5_writeOrigin_151 (by decide) rfl hr (fun hr => ?_) (fun hr => ?_)
    · obtain rfl := Option.some.inj hr
      exact hQ _ _ dX5_writeOrigin_165 hf
    · refine z_aload_n hX dX5_writeOrigin_154 0 rfl ?_
      refine z_bipush hX dX5_writeOrigin_155 (by decide +kernel) ?_
      refine z_iload_n hX dX5_writeOrigin_157 1 rfl ?_
      refine z_bipush hX dX5_writeOrigin_158 (by decide +kernel) ?_
      refine z_idiv hX dX5_writeOrigin_160 (by decide) hr (fun hr => ?_)
      refine z_iadd hX dX5_writeOrigin_161 ?_
      obtain ⟨r1, hc1, hr⟩ := z_bind hr
      refine z_callV_v (As := [.int (iI (49 + (x3 / 8)))]) (k1 := 0) (n1 := 0) (nA := 1) hX (mX3_append hc1) dX5_writeOrigin_162 gX5_writeOrigin_X3_append rfl ⟨rfl, by decide, by decide, by decide +kernel⟩ ⟨by decide, by decide⟩ ⟨by decide, by decide⟩ 19 rfl rfl rfl rfl (Nat.le_of_ble_eq_true rfl) (by decide +kernel) rfl rfl (fun hg1 => ?_)
      have hf : zfr [8, 19, 20] h0 r1 := zfr_tr hf (by decide) hg1
      obtain rfl := Option.some.inj hr
      exact hQ _ _ dX5_writeOrigin_165 hf
  have B138 : ∀ (x3 : Int) (x6 : Int) (h : HS), zfr [8, 19, 20] h0 h → fX5_writeOrigin_b138 x3 x6 h = some o → ZW G X sh_7 ad h 0 0 [(1, .ref (ad 19)), (3, .int (iI x3)), (6, .int (iI x6))] 138 [] := by
    intro x3 x6 h hf hr
    unfold fX5_writeOrigin_b138 at hr
    refine z_aload_n hX dX5_writeOrigin_138 0 rfl ?_
    refine z_bipush hX dX5_writeOrigin_139 (by decide +kernel) ?_
    refine z_iload_n hX dX5_writeOrigin_141 1 rfl ?_
    refine z_bipush hX dX5_writeOrigin_142 (by decide +kernel) ?_
    refine z_irem hX dX5_writeOrigin_144 (by decide) hr (fun hr => ?_)
    refine z_iadd hX dX5_writeOrigin_145 ?_
    obtain ⟨r2, hc2, hr⟩ := z_bind hr
    refine z_callV_v (As := [.int (iI (97 + (x3 % 8)))]) (k1 := 0) (n1 := 0) (nA := 1) hX (mX3_append hc2) dX5_writeOrigin_146 gX5_writeOrigin_X3_append rfl ⟨rfl, by decide, by decide, by decide +kernel⟩ ⟨by decide, by decide⟩ ⟨by decide, by decide⟩ 19 rfl rfl rfl rfl (Nat.le_of_ble_eq_true rfl) (by decide +kernel) rfl rfl (fun hg2 => ?_)
    have hf : zfr [8, 19, 20] h0 r2 := zfr_tr hf (by decide) hg2
    exact B149 x3 x6 r2 hf hr
  have B12 : ∀ (nf : Nat) (x2 : Int) (x3 : Int) (x4 : Int) (x5 : Int) (x6 : Int) (x7 : Int) (x8 : Int) (h : HS), zfr [8, 19, 20] h0 h → fX5_writeOrigin_L12 nf x2 x3 x4 x5 x6 x7 x8 h = some o → ZW G X sh_7 ad h 0 0 [(0, .ref (ad 0)), (1, .ref (ad 19)), (2, .int (iI x2)), (3, .int (iI x3)), (4, .int (iI x4)), (5, .int (iI x5)), (6, .int (iI x6)), (7, .int (iI x7)), (8, .int (iI x8))] 12 [] := by
    intro nf
    induction nf with
    | zero => intro x2 x3 x4 x5 x6 x7 x8 h hf hr; exact z_none hr
    | succ n12 ih12 =>
      intro x2 x3 x4 x5 x6 x7 x8 h hf hr
      have B117 : ∀ (x2 : Int) (x3 : Int) (x4 : Int) (x5 : Int) (x6 : Int) (x7 : Int) (x8 : Int) (h : HS), zfr [8, 19, 20] h0 h → fX5_writeOrigin_b117 (fun a0 a1 a2 a3 a4 a5 a6 hh => fX5_writeOrigin_L12 n12 a0 a1 a2 a3 a4 a5 a6 hh) x2 x3 x4 x5 x6 x7 x8 h = some o → ZW G X sh_7 ad h 0 0 [(0, .ref (ad 0)), (1, .ref (ad 19)), (2, .int (iI x2)), (3, .int (iI x3)), (4, .int (iI x4)), (5, .int (iI x5)), (6, .int (iI x6)), (7, .int (iI x7)), (8, .int (iI x8))] 117 [] := by
        intro x2 x3 x4 x5 x6 x7 x8 h hf hr
        unfold fX5_writeOrigin_b117 at hr
        refine z_iinc (lv1 := [(8, .int (iI (x8 + 1))), (0, .ref (ad 0)), (1, .ref (ad 19)), (2, .int (iI x2)), (3, .int (iI x3)), (4, .int (iI x4)), (5, .int (iI x5)), (6, .int (iI x6)), (7, .int (iI x7))]) hX dX5_writeOrigin_117 8 rfl (by decide) rfl ?_
        refine z_goto (tgt := 12) hX dX5_writeOrigin_120 (by decide) ?_
        refine z_lv [1, 2, 3, 4, 5, 6, 7, 8, 0] rfl ?_
        exact ih12 x2 x3 x4 x5 x6 x7 (x8 + 1) h hf hr
      have B115 : ∀ (x2 : Int) (x3 : Int) (x4 : Int) (x5 : Int) (x6 : Int) (x8 : Int) (s0 : Int) (h : HS), zfr [8, 19, 20] h0 h → fX5_writeOrigin_b115 (fun a0 a1 a2 a3 a4 a5 a6 hh => fX5_writeOrigin_L12 n12 a0 a1 a2 a3 a4 a5 a6 hh) x2 x3 x4 x5 x6 x8 s0 h = some o → ZW G X sh_7 ad h 0 0 [(0, .ref (ad 0)), (1, .ref (ad 19)), (2, .int (iI x2)), (3, .int (iI x3)), (4, .int (iI x4)), (5, .int (iI x5)), (6, .int (iI x6)), (8, .int (iI x8))] 115 [.int (iI s0)] := by
        intro x2 x3 x4 x5 x6 x8 s0 h hf hr
        unfold fX5_writeOrigin_b115 at hr
        refine z_istore (lv1 := [(7, .int (iI s0)), (0, .ref (ad 0)), (1, .ref (ad 19)), (2, .int (iI x2)), (3, .int (iI x3)), (4, .int (iI x4)), (5, .int (iI x5)), (6, .int (iI x6)), (8, .int (iI x8))]) hX dX5_writeOrigin_115 (by decide) rfl ?_
        refine z_lv [1, 2, 3, 4, 5, 6, 7, 0, 8] rfl ?_
        exact B117 x2 x3 x4 x5 x6 s0 x8 h hf hr
      have B110 : ∀ (x2 : Int) (x3 : Int) (x4 : Int) (x5 : Int) (x6 : Int) (x8 : Int) (h : HS), zfr [8, 19, 20] h0 h → fX5_writeOrigin_b110 (fun a0 a1 a2 a3 a4 a5 a6 hh => fX5_writeOrigin_L12 n12 a0 a1 a2 a3 a4 a5 a6 hh) x2 x3 x4 x5 x6 x8 h = some o → ZW G X sh_7 ad h 0 0 [(0, .ref (ad 0)), (1, .ref (ad 19)), (2, .int (iI x2)), (3, .int (iI x3)), (4, .int (iI x4)), (5, .int (iI x5)), (6, .int (iI x6)), (8, .int (iI x8))] 110 [] := by
        intro x2 x3 x4 x5 x6 x8 h hf hr
        unfold fX5_writeOrigin_b110 at hr
        refine z_iconst hX dX5_writeOrigin_110 ?_
        refine z_goto (tgt := 115) hX dX5_writeOrigin_111 (by decide) ?_
        exact B115 x2 x3 x4 x5 x6 x8 1 h hf hr
      have B91 : ∀ (x2 : Int) (x3 : Int) (x4 : Int) (x5 : Int) (x7 : Int) (x8 : Int) (s0 : Int) (h : HS), zfr [8, 19, 20] h0 h → fX5_writeOrigin_b91 (fun a0 a1 a2 a3 a4 a5 a6 hh => fX5_writeOrigin_L12 n12 a0 a1 a2 a3 a4 a5 a6 hh) x2 x3 x4 x5 x7 x8 s0 h = some o → ZW G X sh_7 ad h 0 0 [(0, .ref (ad 0)), (1, .ref (ad 19)), (2, .int (iI x2)), (3, .int (iI x3)), (4, .int (iI x4)), (5, .int (iI x5)), (7, .int (iI x7)), (8, .int (iI x8))] 91 [.int (iI s0)] := by
        intro x2 x3 x4 x5 x7 x8 s0 h hf hr
        unfold fX5_writeOrigin_b91 at hr
        refine z_istore (lv1 := [(6, .int (iI s0)), (0, .ref (ad 0)), (1, .ref (ad 19)), (2, .int (iI x2)), (3, .int (iI x3)), (4, .int (iI x4)), (5, .int (iI x5)), (7, .int (iI x7)), (8, .int (iI x8))]) hX dX5_writeOrigin_91 (by decide) rfl ?_
        refine z_iload hX dX5_writeOrigin_93 7 rfl ?_
        refine z_if_ne (tgt := 110) hX dX5_writeOrigin_95 (by decide) rfl hr (fun hr => ?_) (fun hr => ?_)
        · refine z_lv [1, 2, 3, 4, 5, 6, 0, 8] rfl ?_
          exact B110 x2 x3 x4 x5 s0 x8 h hf hr
        · refine z_iload hX dX5_writeOrigin_98 8 rfl ?_
          refine z_bipush hX dX5_writeOrigin_100 (by decide +kernel) ?_
          refine z_idiv hX dX5_writeOrigin_102 (by decide) hr (fun hr => ?_)
          refine z_iload_n hX dX5_writeOrigin_103 4 rfl ?_
          refine z_bipush hX dX5_writeOrigin_104 (by decide +kernel) ?_
          refine z_idiv hX dX5_writeOrigin_106 (by decide) hr (fun hr => ?_)
          refine z_icmp_ne (tgt := 114) hX dX5_writeOrigin_107 (by decide) rfl rfl hr (fun hr => ?_) (fun hr => ?_)
          · refine z_iconst hX dX5_writeOrigin_114 ?_
            refine z_lv [1, 2, 3, 4, 5, 6, 0, 8] rfl ?_
            exact B115 x2 x3 x4 x5 s0 x8 0 h hf hr
          · refine z_lv [1, 2, 3, 4, 5, 6, 0, 8] rfl ?_
            exact B110 x2 x3 x4 x5 s0 x8 h hf hr
      have B86 : ∀ (x2 : Int) (x3 : Int) (x4 : Int) (x5 : Int) (x7 : Int) (x8 : Int) (h : HS), zfr [8, 19, 20] h0 h → fX5_writeOrigin_b86 (fun a0 a1 a2 a3 a4 a5 a6 hh => fX5_writeOrigin_L12 n12 a0 a1 a2 a3 a4 a5 a6 hh) x2 x3 x4 x5 x7 x8 h = some o → ZW G X sh_7 ad h 0 0 [(0, .ref (ad 0)), (1, .ref (ad 19)), (2, .int (iI x2)), (3, .int (iI x3)), (4, .int (iI x4)), (5, .int (iI x5)), (7, .int (iI x7)), (8, .int (iI x8))] 86 [] := by
        intro x2 x3 x4 x5 x7 x8 h hf hr
        unfold fX5_writeOrigin_b86 at hr
        refine z_iconst hX dX5_writeOrigin_86 ?_
        refine z_goto (tgt := 91) hX dX5_writeOrigin_87 (by decide) ?_
        exact B91 x2 x3 x4 x5 x7 x8 1 h hf hr
      unfold fX5_writeOrigin_L12 at hr
      refine z_iload hX dX5_writeOrigin_12 8 rfl ?_
      refine z_bipush hX dX5_writeOrigin_14 (by decide +kernel) ?_
      refine z_icmp_ge (tgt := 123) hX dX5_writeOrigin_16 (by decide) rfl (wr_of (by decide) (by decide)) hr (fun hr => ?_) (fun hr => ?_)
      · refine z_iload hX dX5_writeOrigin_123 5 rfl ?_
        refine z_if_eq (tgt := 149) hX dX5_writeOrigin_125 (by decide) rfl hr (fun hr => ?_) (fun hr => ?_)
        · refine z_lv [1, 3, 6] rfl ?_
          exact B149 x3 x6 h hf hr
        · refine z_iload hX dX5_writeOrigin_128 6 rfl ?_
          refine z_if_eq (tgt := 138) hX dX5_writeOrigin_130 (by decide) rfl hr (fun hr => ?_) (fun hr => ?_)
          · refine z_lv [1, 3, 6] rfl ?_
            exact B138 x3 x6 h hf hr
          · refine z_iload hX dX5_writeOrigin_133 7 rfl ?_
            refine z_if_eq (tgt := 149) hX dX5_writeOrigin_135 (by decide) rfl hr (fun hr => ?_) (fun hr => ?_)
            · refine z_lv [1, 3, 6] rfl ?_
              exact B149 x3 x6 h hf hr
            · refine z_lv [1, 3, 6] rfl ?_
              exact B138 x3 x6 h hf hr
      · refine z_iload hX dX5_writeOrigin_19 8 rfl ?_
        refine z_iload_n hX dX5_writeOrigin_21 3 rfl ?_
        refine z_icmp_eq (tgt := 117) hX dX5_writeOrigin_22 (by decide) rfl rfl hr (fun hr => ?_) (fun hr => ?_)
        · exact B117 x2 x3 x4 x5 x6 x7 x8 h hf hr
        · refine z_aload_n hX dX5_writeOrigin_25 0 rfl ?_
          refine z_getR (j := 7) hX dX5_writeOrigin_26 fl_21 0 rfl rfl ?_
          refine z_iload hX dX5_writeOrigin_29 8 rfl ?_
          obtain ⟨r3, hc3, hr⟩ := z_bind hr
          refine z_callV_i (As := [.int (iI x8)]) (k1 := 0) (n1 := 0) (nA := 1) hX (mX0_pieceOn hc3) dX5_writeOrigin_31 gX5_writeOrigin_X0_pieceOn rfl ⟨rfl, by decide, by decide, by decide +kernel⟩ ⟨by decide, by decide⟩ ⟨by decide, by decide⟩ 7 rfl rfl rfl rfl (Nat.le_of_ble_eq_true rfl) (by decide +kernel) rfl rfl (fun hg3 => ?_)
          refine z_iload_n hX dX5_writeOrigin_34 2 rfl ?_
          refine z_icmp_ne (tgt := 117) hX dX5_writeOrigin_35 (by decide) rfl rfl hr (fun hr => ?_) (fun hr => ?_)
          · exact B117 x2 x3 x4 x5 x6 x7 x8 h hf hr
          · refine z_aload_n hX dX5_writeOrigin_38 0 rfl ?_
            refine z_getR (j := 7) hX dX5_writeOrigin_39 fl_21 0 rfl rfl ?_
            refine z_iload hX dX5_writeOrigin_42 8 rfl ?_
            refine z_iload hX dX5_writeOrigin_44 4 rfl ?_
            obtain ⟨r4, hc4, hr⟩ := z_bind hr
            refine z_callV_i (As := [.int (iI x8), .int (iI x4)]) (k1 := 0) (n1 := 0) (nA := 2) hX (mX0_reaches hc4) dX5_writeOrigin_46 gX5_writeOrigin_X0_reaches rfl ⟨rfl, by decide, by decide, by decide +kernel⟩ ⟨by decide, by decide⟩ ⟨by decide, by decide⟩ 7 rfl rfl rfl rfl (Nat.le_of_ble_eq_true rfl) (by decide +kernel) rfl rfl (fun hg4 => ?_)
            refine z_if_eq (tgt := 117) hX dX5_writeOrigin_49 (by decide) rfl hr (fun hr => ?_) (fun hr => ?_)
            · exact B117 x2 x3 x4 x5 x6 x7 x8 h hf hr
            · refine z_aload_n hX dX5_writeOrigin_52 0 rfl ?_
              refine z_getR (j := 7) hX dX5_writeOrigin_53 fl_21 0 rfl rfl ?_
              refine z_iload hX dX5_writeOrigin_56 8 rfl ?_
              refine z_iload hX dX5_writeOrigin_58 4 rfl ?_
              obtain ⟨r5, hc5, hr⟩ := z_bind hr
              refine z_callV_i (As := [.int (iI x8), .int (iI x4)]) (k1 := 0) (n1 := 0) (nA := 2) hX (mX0_keepsRoyalsSafe hc5) dX5_writeOrigin_60 gX5_writeOrigin_X0_keepsRoyalsSafe rfl ⟨rfl, by decide, by decide, by decide +kernel⟩ ⟨by decide, by decide⟩ ⟨by decide, by decide⟩ 7 rfl rfl rfl rfl (Nat.le_of_ble_eq_true rfl) (by decide +kernel) rfl rfl (fun hg5 => ?_)
              have hf : zfr [8, 19, 20] h0 r5.2 := zfr_tr hf (by decide) hg5
              refine z_if_eq (tgt := 117) hX dX5_writeOrigin_63 (by decide) rfl hr (fun hr => ?_) (fun hr => ?_)
              · exact B117 x2 x3 x4 x5 x6 x7 x8 r5.2 hf hr
              · refine z_iconst hX dX5_writeOrigin_66 ?_
                refine z_istore (lv1 := [(5, .int (iI 1)), (0, .ref (ad 0)), (1, .ref (ad 19)), (2, .int (iI x2)), (3, .int (iI x3)), (4, .int (iI x4)), (6, .int (iI x6)), (7, .int (iI x7)), (8, .int (iI x8))]) hX dX5_writeOrigin_67 (by decide) rfl ?_
                refine z_iload hX dX5_writeOrigin_69 6 rfl ?_
                refine z_if_ne (tgt := 86) hX dX5_writeOrigin_71 (by decide) rfl hr (fun hr => ?_) (fun hr => ?_)
                · refine z_lv [1, 2, 3, 4, 5, 0, 7, 8] rfl ?_
                  exact B86 x2 x3 x4 1 x7 x8 r5.2 hf hr
                · refine z_iload hX dX5_writeOrigin_74 8 rfl ?_
                  refine z_bipush hX dX5_writeOrigin_76 (by decide +kernel) ?_
                  refine z_irem hX dX5_writeOrigin_78 (by decide) hr (fun hr => ?_)
                  refine z_iload_n hX dX5_writeOrigin_79 4 rfl ?_
                  refine z_bipush hX dX5_writeOrigin_80 (by decide +kernel) ?_
                  refine z_irem hX dX5_writeOrigin_82 (by decide) hr (fun hr => ?_)
                  refine z_icmp_ne (tgt := 90) hX dX5_writeOrigin_83 (by decide) rfl rfl hr (fun hr => ?_) (fun hr => ?_)
                  · refine z_iconst hX dX5_writeOrigin_90 ?_
                    refine z_lv [1, 2, 3, 4, 5, 0, 7, 8] rfl ?_
                    exact B91 x2 x3 x4 1 x7 x8 0 r5.2 hf hr
                  · refine z_lv [1, 2, 3, 4, 5, 0, 7, 8] rfl ?_
                    exact B86 x2 x3 x4 1 x7 x8 r5.2 hf hr
  unfold fX5_writeOrigin at hr
  refine z_iconst hX dX5_writeOrigin_0 ?_
  refine z_istore (lv1 := [(5, .int (iI 0)), (0, .ref (ad 0)), (1, .ref (ad 19)), (2, .int (iI p2)), (3, .int (iI p3)), (4, .int (iI p4))]) hX dX5_writeOrigin_1 (by decide) rfl ?_
  refine z_iconst hX dX5_writeOrigin_3 ?_
  refine z_istore (lv1 := [(6, .int (iI 0)), (5, .int (iI 0)), (0, .ref (ad 0)), (1, .ref (ad 19)), (2, .int (iI p2)), (3, .int (iI p3)), (4, .int (iI p4))]) hX dX5_writeOrigin_4 (by decide) rfl ?_
  refine z_iconst hX dX5_writeOrigin_6 ?_
  refine z_istore (lv1 := [(7, .int (iI 0)), (6, .int (iI 0)), (5, .int (iI 0)), (0, .ref (ad 0)), (1, .ref (ad 19)), (2, .int (iI p2)), (3, .int (iI p3)), (4, .int (iI p4))]) hX dX5_writeOrigin_7 (by decide) rfl ?_
  refine z_iconst hX dX5_writeOrigin_9 ?_
  refine z_istore (lv1 := [(8, .int (iI 0)), (7, .int (iI 0)), (6, .int (iI 0)), (5, .int (iI 0)), (0, .ref (ad 0)), (1, .ref (ad 19)), (2, .int (iI p2)), (3, .int (iI p3)), (4, .int (iI p4))]) hX dX5_writeOrigin_10 (by decide) rfl ?_
  refine z_lv [4, 5, 6, 7, 8, 3, 2, 1, 0] rfl ?_
  exact B12 zF p2 p3 p4 0 0 0 0 h0 hf hr

def fX5_writeMove_b51 (x2 : Int) (x3 : Int) (h : HS) : Option (HS) := if (0 : Int) ≤ x3 ∧ x3 < 2147483648 then (fX3_append (97 + (x3 % 8)) h).bind fun r1 => if (0 : Int) ≤ x3 ∧ x3 < 2147483648 then (fX3_append (49 + (x3 / 8)) r1).bind fun r2 => (fX0_signBehind x2 x3 r2).bind fun r3 => if wr r3.1 = ((-1) : Int) then some r3.2 else (fX3_append r3.1 r3.2).bind fun r4 => some r4 else none else none
def fX5_writeMove (p2 : Int) (p3 : Int) (h : HS) : Option (HS) := (fX0_pieceOn p2 h).bind fun r5 => if (0 : Int) ≤ r5 ∧ r5 < 2147483648 then (fX1_letter (r5 / 2) h).bind fun r6 => (fX3_append r6 h).bind fun r7 => (fX5_writeOrigin r5 p2 p3 r7).bind fun r8 => (fX0_isTaken p3 r8).bind fun r9 => if wr r9 = 0 then fX5_writeMove_b51 p2 p3 r8 else (fX3_append 120 r8).bind fun r10 => fX5_writeMove_b51 p2 p3 r10 else none
set_option maxRecDepth 100000 in
set_option maxHeartbeats 4000000 in
theorem mX5_writeMove {G : ZG} {l0 : Launch} {ad : Nat → Nat} {h0 : HS} {p2 : Int} {p3 : Int} {o : HS} (hr : fX5_writeMove p2 p3 h0 = some o) : ZMv G l0 yX5_writeMove wsX5_writeMove ({ frames := 5, cells := 0, slots := 0, locals := 137 }) [.ref (ad 0), .ref (ad 19), .int (iI p2), .int (iI p3)] sh_7 ad h0 [8, 19, 20] o := by
  refine ZMv.of (cc := cX5_writeMove) (maxL := 6) (ret := none) (own := RX5) (lv0 := [(0, .ref (ad 0)), (1, .ref (ad 19)), (2, .int (iI p2)), (3, .int (iI p3))]) (by decide) rfl rfl rfl (Nat.le_of_ble_eq_true rfl) rfl ?_
  intro X hX hQ
  have hf : zfr [8, 19, 20] h0 h0 := zfr_rf
  have fl_12 : zFld wsX5_writeMove RX5 12 5 RX5 TX5 16 0 := ⟨by decide +kernel, by decide +kernel, by decide, rfl⟩
  have fl_21 : zFld wsX5_writeMove RX5 21 5 RX5 TX5 16 1 := ⟨by decide +kernel, by decide +kernel, by decide, rfl⟩
  have B51 : ∀ (x2 : Int) (x3 : Int) (h : HS), zfr [8, 19, 20] h0 h → fX5_writeMove_b51 x2 x3 h = some o → ZW G X sh_7 ad h 0 0 [(0, .ref (ad 0)), (1, .ref (ad 19)), (2, .int (iI x2)), (3, .int (iI x3))] 51 [] := by
    intro x2 x3 h hf hr
    unfold fX5_writeMove_b51 at hr
    refine z_aload_n hX dX5_writeMove_51 1 rfl ?_
    refine z_bipush hX dX5_writeMove_52 (by decide +kernel) ?_
    refine z_iload_n hX dX5_writeMove_54 3 rfl ?_
    refine z_bipush hX dX5_writeMove_55 (by decide +kernel) ?_
    refine z_irem hX dX5_writeMove_57 (by decide) hr (fun hr => ?_)
    refine z_iadd hX dX5_writeMove_58 ?_
    obtain ⟨r1, hc1, hr⟩ := z_bind hr
    refine z_callV_v (As := [.int (iI (97 + (x3 % 8)))]) (k1 := 0) (n1 := 0) (nA := 1) hX (mX3_append hc1) dX5_writeMove_59 gX5_writeMove_X3_append rfl ⟨rfl, by decide, by decide, by decide +kernel⟩ ⟨by decide, by decide⟩ ⟨by decide, by decide⟩ 19 rfl rfl rfl rfl (Nat.le_of_ble_eq_true rfl) (by decide +kernel) rfl rfl (fun hg1 => ?_)
    have hf : zfr [8, 19, 20] h0 r1 := zfr_tr hf (by decide) hg1
    refine z_aload_n hX dX5_writeMove_62 1 rfl ?_
    refine z_bipush hX dX5_writeMove_63 (by decide +kernel) ?_
    refine z_iload_n hX dX5_writeMove_65 3 rfl ?_
    refine z_bipush hX dX5_writeMove_66 (by decide +kernel) ?_
    refine z_idiv hX dX5_writeMove_68 (by decide) hr (fun hr => ?_)
    refine z_iadd hX dX5_writeMove_69 ?_
    obtain ⟨r2, hc2, hr⟩ := z_bind hr
    refine z_callV_v (As := [.int (iI (49 + (x3 / 8)))]) (k1 := 0) (n1 := 0) (nA := 1) hX (mX3_append hc2) dX5_writeMove_70 gX5_writeMove_X3_append rfl ⟨rfl, by decide, by decide, by decide +kernel⟩ ⟨by decide, by decide⟩ ⟨by decide, by decide⟩ 19 rfl rfl rfl rfl (Nat.le_of_ble_eq_true rfl) (by decide +kernel) rfl rfl (fun hg2 => ?_)
    have hf : zfr [8, 19, 20] h0 r2 := zfr_tr hf (by decide) hg2
    refine z_aload_n hX dX5_writeMove_73 0 rfl ?_
    refine z_getR (j := 7) hX dX5_writeMove_74 fl_21 0 rfl rfl ?_
    refine z_iload_n hX dX5_writeMove_77 2 rfl ?_
    refine z_iload_n hX dX5_writeMove_78 3 rfl ?_
    obtain ⟨r3, hc3, hr⟩ := z_bind hr
    refine z_callV_i (As := [.int (iI x2), .int (iI x3)]) (k1 := 0) (n1 := 0) (nA := 2) hX (mX0_signBehind hc3) dX5_writeMove_79 gX5_writeMove_X0_signBehind rfl ⟨rfl, by decide, by decide, by decide +kernel⟩ ⟨by decide, by decide⟩ ⟨by decide, by decide⟩ 7 rfl rfl rfl rfl (Nat.le_of_ble_eq_true rfl) (by decide +kernel) rfl rfl (fun hg3 => ?_)
    have hf : zfr [8, 19, 20] h0 r3.2 := zfr_tr hf (by decide) hg3
    refine z_istore (lv1 := [(5, .int (iI r3.1)), (0, .ref (ad 0)), (1, .ref (ad 19)), (2, .int (iI x2)), (3, .int (iI x3))]) hX dX5_writeMove_82 (by decide) rfl ?_
    refine z_iload hX dX5_writeMove_84 0 rfl ?_
    refine z_iconst hX dX5_writeMove_86 ?_
    refine z_icmp_eq (tgt := 96) hX dX5_writeMove_87 (by decide) rfl (wr_of (by decide) (by decide)) hr (fun hr => ?_) (fun hr => ?_)
    · obtain rfl := Option.some.inj hr
      exact hQ _ _ dX5_writeMove_96 hf
    · refine z_aload_n hX dX5_writeMove_90 2 rfl ?_
      refine z_iload hX dX5_writeMove_91 0 rfl ?_
      obtain ⟨r4, hc4, hr⟩ := z_bind hr
      refine z_callV_v (As := [.int (iI r3.1)]) (k1 := 0) (n1 := 0) (nA := 1) hX (mX3_append hc4) dX5_writeMove_93 gX5_writeMove_X3_append rfl ⟨rfl, by decide, by decide, by decide +kernel⟩ ⟨by decide, by decide⟩ ⟨by decide, by decide⟩ 19 rfl rfl rfl rfl (Nat.le_of_ble_eq_true rfl) (by decide +kernel) rfl rfl (fun hg4 => ?_)
      have hf : zfr [8, 19, 20] h0 r4 := zfr_tr hf (by decide) hg4
      obtain rfl := Option.some.inj hr
      exact hQ _ _ dX5_writeMove_96 hf
  unfold fX5_writeMove at hr
  refine z_aload_n hX dX5_writeMove_0 0 rfl ?_
  refine z_getR (j := 7) hX dX5_writeMove_1 fl_21 0 rfl rfl ?_
  refine z_iload_n hX dX5_writeMove_4 2 rfl ?_
  obtain ⟨r5, hc5, hr⟩ := z_bind hr
  refine z_callV_i (As := [.int (iI p2)]) (k1 := 0) (n1 := 0) (nA := 1) hX (mX0_pieceOn hc5) dX5_writeMove_5 gX5_writeMove_X0_pieceOn rfl ⟨rfl, by decide, by decide, by decide +kernel⟩ ⟨by decide, by decide⟩ ⟨by decide, by decide⟩ 7 rfl rfl rfl rfl (Nat.le_of_ble_eq_true rfl) (by decide +kernel) rfl rfl (fun hg5 => ?_)
  refine z_istore (lv1 := [(4, .int (iI r5)), (0, .ref (ad 0)), (1, .ref (ad 19)), (2, .int (iI p2)), (3, .int (iI p3))]) hX dX5_writeMove_8 (by decide) rfl ?_
  refine z_aload_n hX dX5_writeMove_10 2 rfl ?_
  refine z_aload_n hX dX5_writeMove_11 1 rfl ?_
  refine z_getR (j := 1) hX dX5_writeMove_12 fl_12 0 rfl rfl ?_
  refine z_iload hX dX5_writeMove_15 0 rfl ?_
  refine z_iconst hX dX5_writeMove_17 ?_
  refine z_idiv hX dX5_writeMove_18 (by decide) hr (fun hr => ?_)
  obtain ⟨r6, hc6, hr⟩ := z_bind hr
  refine z_callV_i (As := [.int (iI (r5 / 2))]) (k1 := 0) (n1 := 0) (nA := 1) hX (mX1_letter hc6) dX5_writeMove_19 gX5_writeMove_X1_letter rfl ⟨rfl, by decide, by decide, by decide +kernel⟩ ⟨by decide, by decide⟩ ⟨by decide, by decide⟩ 1 rfl rfl rfl rfl (Nat.le_of_ble_eq_true rfl) (by decide +kernel) rfl rfl (fun hg6 => ?_)
  obtain ⟨r7, hc7, hr⟩ := z_bind hr
  refine z_callV_v (As := [.int (iI r6)]) (k1 := 0) (n1 := 0) (nA := 1) hX (mX3_append hc7) dX5_writeMove_22 gX5_writeMove_X3_append rfl ⟨rfl, by decide, by decide, by decide +kernel⟩ ⟨by decide, by decide⟩ ⟨by decide, by decide⟩ 19 rfl rfl rfl rfl (Nat.le_of_ble_eq_true rfl) (by decide +kernel) rfl rfl (fun hg7 => ?_)
  have hf : zfr [8, 19, 20] h0 r7 := zfr_tr hf (by decide) hg7
  refine z_aload_n hX dX5_writeMove_25 1 rfl ?_
  refine z_aload_n hX dX5_writeMove_26 2 rfl ?_
  refine z_iload hX dX5_writeMove_27 0 rfl ?_
  refine z_iload_n hX dX5_writeMove_29 3 rfl ?_
  refine z_iload_n hX dX5_writeMove_30 4 rfl ?_
  obtain ⟨r8, hc8, hr⟩ := z_bind hr
  refine z_callV_v (As := [.ref (ad 19), .int (iI r5), .int (iI p2), .int (iI p3)]) (k1 := 0) (n1 := 0) (nA := 4) hX (mX5_writeOrigin hc8) dX5_writeMove_31 gX5_writeMove_X5_writeOrigin rfl ⟨rfl, by decide, by decide, by decide +kernel⟩ ⟨by decide, by decide⟩ ⟨by decide, by decide⟩ 0 rfl rfl rfl rfl (Nat.le_of_ble_eq_true rfl) (by decide +kernel) rfl rfl (fun hg8 => ?_)
  have hf : zfr [8, 19, 20] h0 r8 := zfr_tr hf (by decide) hg8
  refine z_aload_n hX dX5_writeMove_34 1 rfl ?_
  refine z_getR (j := 7) hX dX5_writeMove_35 fl_21 0 rfl rfl ?_
  refine z_iload_n hX dX5_writeMove_38 4 rfl ?_
  obtain ⟨r9, hc9, hr⟩ := z_bind hr
  refine z_callV_i (As := [.int (iI p3)]) (k1 := 0) (n1 := 0) (nA := 1) hX (mX0_isTaken hc9) dX5_writeMove_39 gX5_writeMove_X0_isTaken rfl ⟨rfl, by decide, by decide, by decide +kernel⟩ ⟨by decide, by decide⟩ ⟨by decide, by decide⟩ 7 rfl rfl rfl rfl (Nat.le_of_ble_eq_true rfl) (by decide +kernel) rfl rfl (fun hg9 => ?_)
  refine z_if_eq (tgt := 51) hX dX5_writeMove_42 (by decide) rfl hr (fun hr => ?_) (fun hr => ?_)
  · refine z_lv [1, 2, 3, 4] rfl ?_
    exact B51 p2 p3 r8 hf hr
  · refine z_aload_n hX dX5_writeMove_45 2 rfl ?_
    refine z_bipush hX dX5_writeMove_46 (by decide +kernel) ?_
    obtain ⟨r10, hc10, hr⟩ := z_bind hr
    refine z_callV_v (As := [.int (iI 120)]) (k1 := 0) (n1 := 0) (nA := 1) hX (mX3_append hc10) dX5_writeMove_48 gX5_writeMove_X3_append rfl ⟨rfl, by decide, by decide, by decide +kernel⟩ ⟨by decide, by decide⟩ ⟨by decide, by decide⟩ 19 rfl rfl rfl rfl (Nat.le_of_ble_eq_true rfl) (by decide +kernel) rfl rfl (fun hg10 => ?_)
    have hf : zfr [8, 19, 20] h0 r10 := zfr_tr hf (by decide) hg10
    refine z_lv [1, 2, 3, 4] rfl ?_
    exact B51 p2 p3 r10 hf hr

def fX5_writeOrigin_d_b149 (x3 : Int) (x6 : Int) (h : HS) : Option (HS) := if wr x6 = 0 then some h else if (0 : Int) ≤ x3 ∧ x3 < 2147483648 then (fX3_append_d (49 + (x3 / 8)) h).bind fun r1 => some r1 else none
def fX5_writeOrigin_d_b138 (x3 : Int) (x6 : Int) (h : HS) : Option (HS) := if (0 : Int) ≤ x3 ∧ x3 < 2147483648 then (fX3_append_d (97 + (x3 % 8)) h).bind fun r2 => fX5_writeOrigin_d_b149 x3 x6 r2 else none
def fX5_writeOrigin_d_b117 (k12 : Int → Int → Int → Int → Int → Int → Int → HS → Option (HS)) (x2 : Int) (x3 : Int) (x4 : Int) (x5 : Int) (x6 : Int) (x7 : Int) (x8 : Int) (h : HS) : Option (HS) := k12 x2 x3 x4 x5 x6 x7 (x8 + 1) h
def fX5_writeOrigin_d_b115 (k12 : Int → Int → Int → Int → Int → Int → Int → HS → Option (HS)) (x2 : Int) (x3 : Int) (x4 : Int) (x5 : Int) (x6 : Int) (x8 : Int) (s0 : Int) (h : HS) : Option (HS) := fX5_writeOrigin_d_b117 k12 x2 x3 x4 x5 x6 s0 x8 h
def fX5_writeOrigin_d_b110 (k12 : Int → Int → Int → Int → Int → Int → Int → HS → Option (HS)) (x2 : Int) (x3 : Int) (x4 : Int) (x5 : Int) (x6 : Int) (x8 : Int) (h : HS) : Option (HS) := fX5_writeOrigin_d_b115 k12 x2 x3 x4 x5 x6 x8 1 h
def fX5_writeOrigin_d_b91 (k12 : Int → Int → Int → Int → Int → Int → Int → HS → Option (HS)) (x2 : Int) (x3 : Int) (x4 : Int) (x5 : Int) (x7 : Int) (x8 : Int) (s0 : Int) (h : HS) : Option (HS) := if wr x7 = 0 then if (0 : Int) ≤ x8 ∧ x8 < 2147483648 then if (0 : Int) ≤ x3 ∧ x3 < 2147483648 then if wr (x8 / 8) = wr (x3 / 8) then fX5_writeOrigin_d_b110 k12 x2 x3 x4 x5 s0 x8 h else fX5_writeOrigin_d_b115 k12 x2 x3 x4 x5 s0 x8 0 h else none else none else fX5_writeOrigin_d_b110 k12 x2 x3 x4 x5 s0 x8 h
def fX5_writeOrigin_d_b86 (k12 : Int → Int → Int → Int → Int → Int → Int → HS → Option (HS)) (x2 : Int) (x3 : Int) (x4 : Int) (x5 : Int) (x7 : Int) (x8 : Int) (h : HS) : Option (HS) := fX5_writeOrigin_d_b91 k12 x2 x3 x4 x5 x7 x8 1 h
def fX5_writeOrigin_d_L12 : Nat → Int → Int → Int → Int → Int → Int → Int → HS → Option (HS)
  | 0, _, _, _, _, _, _, _, _ => none
  | nf + 1, x2, x3, x4, x5, x6, x7, x8, h => if (64 : Int) ≤ wr x8 then if wr x5 = 0 then fX5_writeOrigin_d_b149 x3 x6 h else if wr x6 = 0 then fX5_writeOrigin_d_b138 x3 x6 h else if wr x7 = 0 then fX5_writeOrigin_d_b149 x3 x6 h else fX5_writeOrigin_d_b138 x3 x6 h else if wr x8 = wr x3 then fX5_writeOrigin_d_b117 (fun a0 a1 a2 a3 a4 a5 a6 hh => fX5_writeOrigin_d_L12 nf a0 a1 a2 a3 a4 a5 a6 hh) x2 x3 x4 x5 x6 x7 x8 h else (fX0_pieceOn x8 h).bind fun r3 => if wr r3 = wr x2 then (fX0_reaches x8 x4 h).bind fun r4 => if wr r4 = 0 then fX5_writeOrigin_d_b117 (fun a0 a1 a2 a3 a4 a5 a6 hh => fX5_writeOrigin_d_L12 nf a0 a1 a2 a3 a4 a5 a6 hh) x2 x3 x4 x5 x6 x7 x8 h else (fX0_keepsRoyalsSafe x8 x4 h).bind fun r5 => if wr r5.1 = 0 then fX5_writeOrigin_d_b117 (fun a0 a1 a2 a3 a4 a5 a6 hh => fX5_writeOrigin_d_L12 nf a0 a1 a2 a3 a4 a5 a6 hh) x2 x3 x4 x5 x6 x7 x8 r5.2 else if wr x6 = 0 then if (0 : Int) ≤ x8 ∧ x8 < 2147483648 then if (0 : Int) ≤ x3 ∧ x3 < 2147483648 then if wr (x8 % 8) = wr (x3 % 8) then fX5_writeOrigin_d_b86 (fun a0 a1 a2 a3 a4 a5 a6 hh => fX5_writeOrigin_d_L12 nf a0 a1 a2 a3 a4 a5 a6 hh) x2 x3 x4 1 x7 x8 r5.2 else fX5_writeOrigin_d_b91 (fun a0 a1 a2 a3 a4 a5 a6 hh => fX5_writeOrigin_d_L12 nf a0 a1 a2 a3 a4 a5 a6 hh) x2 x3 x4 1 x7 x8 0 r5.2 else none else none else fX5_writeOrigin_d_b86 (fun a0 a1 a2 a3 a4 a5 a6 hh => fX5_writeOrigin_d_L12 nf a0 a1 a2 a3 a4 a5 a6 hh) x2 x3 x4 1 x7 x8 r5.2 else fX5_writeOrigin_d_b117 (fun a0 a1 a2 a3 a4 a5 a6 hh => fX5_writeOrigin_d_L12 nf a0 a1 a2 a3 a4 a5 a6 hh) x2 x3 x4 x5 x6 x7 x8 h
def fX5_writeOrigin_d (p2 : Int) (p3 : Int) (p4 : Int) (h : HS) : Option (HS) := fX5_writeOrigin_d_L12 zF p2 p3 p4 0 0 0 0 h
set_option maxRecDepth 100000 in
set_option maxHeartbeats 4000000 in
theorem mX5_writeOrigin_d {G : ZG} {l0 : Launch} {ad : Nat → Nat} {h0 : HS} {p2 : Int} {p3 : Int} {p4 : Int} {o : HS} (hr : fX5_writeOrigin_d p2 p3 p4 h0 = some o) : ZMv G l0 yX5_writeOrigin wsX5_writeOrigin ({ frames := 3, cells := 0, slots := 0, locals := 85 }) [.ref (ad 0), .ref (ad 21), .int (iI p2), .int (iI p3), .int (iI p4)] sh_7 ad h0 [8, 21, 22] o := by
  refine ZMv.of (cc := cX5_writeOrigin) (maxL := 9) (ret := none) (own := RX5) (lv0 := [(0, .ref (ad 0)), (1, .ref (ad 21)), (2, .int (iI p2)), (3, .int (iI p3)), (4, .int (iI p4))]) (by decide) rfl rfl rfl (Nat.le_of_ble_eq_true rfl) rfl ?_
  intro X hX hQ
  have hf : zfr [8, 21, 22] h0 h0 := zfr_rf
  have fl_21 : zFld wsX5_writeOrigin RX5 21 5 RX5 TX5 16 1 := ⟨by decide +kernel, by decide +kernel, by decide, rfl⟩
  have B149 : ∀ (x3 : Int) (x6 : Int) (h : HS), zfr [8, 21, 22] h0 h → fX5_writeOrigin_d_b149 x3 x6 h = some o → ZW G X sh_7 ad h 0 0 [(1, .ref (ad 21)), (3, .int (iI x3)), (6, .int (iI x6))] 149 [] := by
    intro x3 x6 h hf hr
    unfold fX5_writeOrigin_d_b149 at hr
    refine z_iload hX dX5_writeOrigin_149 2 rfl ?_
    refine z_if_eq (tgt := 165) hX dX5_writeOrigin_151 (by decide) rfl hr (fun hr => ?_) (fun hr => ?_)
    · obtain rfl := Option.some.inj hr
      exact hQ _ _ dX5_writeOrigin_165 hf
    · refine z_aload_n hX dX5_writeOrigin_154 0 rfl ?_
      refine z_bipush hX dX5_writeOrigin_155 (by decide +kernel) ?_
      refine z_iload_n hX dX5_writeOrigin_157 1 rfl ?_
      refine z_bipush hX dX5_writeOrigin_158 (by decide +kernel) ?_
      refine z_idiv hX dX5_writeOrigin_160 (by decide) hr (fun hr => ?_)
      refine z_iadd hX dX5_writeOrigin_161 ?_
      obtain ⟨r1, hc1, hr⟩ := z_bind hr
      refine z_callV_v (As := [.int (iI (49 + (x3 / 8)))]) (k1 := 0) (n1 := 0) (nA := 1) hX (mX3_append_d hc1) dX5_writeOrigin_162 gX5_writeOrigin_X3_append rfl ⟨rfl, by decide, by decide, by decide +kernel⟩ ⟨by decide, by decide⟩ ⟨by decide, by decide⟩ 21 rfl rfl rfl rfl (Nat.le_of_ble_eq_true rfl) (by decide +kernel) rfl rfl (fun hg1 => ?_)
      have hf : zfr [8, 21, 22] h0 r1 := zfr_tr hf (by decide) hg1
      obtain rfl := Option.some.inj hr
      exact hQ _ _ dX5_writeOrigin_165 hf
  have B138 : ∀ (x3 : Int) (x6 : Int) (h : HS), zfr [8, 21, 22] h0 h → fX5_writeOrigin_d_b138 x3 x6 h = some o → ZW G X sh_7 ad h 0 0 [(1, .ref (ad 21)), (3, .int (iI x3)), (6, .int (iI x6))] 138 [] := by
    intro x3 x6 h hf hr
    unfold fX5_writeOrigin_d_b138 at hr
    refine z_aload_n hX dX5_writeOrigin_138 0 rfl ?_
    refine z_bipush hX dX5_writeOrigin_139 (by decide +kernel) ?_
    refine z_iload_n hX dX5_writeOrigin_141 1 rfl ?_
    refine z_bipush hX dX5_writeOrigin_142 (by decide +kernel) ?_
    refine z_irem hX dX5_writeOrigin_144 (by decide) hr (fun hr => ?_)
    refine z_iadd hX dX5_writeOrigin_145 ?_
    obtain ⟨r2, hc2, hr⟩ := z_bind hr
    refine z_callV_v (As := [.int (iI (97 + (x3 % 8)))]) (k1 := 0) (n1 := 0) (nA := 1) hX (mX3_append_d hc2) dX5_writeOrigin_146 gX5_writeOrigin_X3_append rfl ⟨rfl, by decide, by decide, by decide +kernel⟩ ⟨by decide, by decide⟩ ⟨by decide, by decide⟩ 21 rfl rfl rfl rfl (Nat.le_of_ble_eq_true rfl) (by decide +kernel) rfl rfl (fun hg2 => ?_)
    have hf : zfr [8, 21, 22] h0 r2 := zfr_tr hf (by decide) hg2
    exact B149 x3 x6 r2 hf hr
  have B12 : ∀ (nf : Nat) (x2 : Int) (x3 : Int) (x4 : Int) (x5 : Int) (x6 : Int) (x7 : Int) (x8 : Int) (h : HS), zfr [8, 21, 22] h0 h → fX5_writeOrigin_d_L12 nf x2 x3 x4 x5 x6 x7 x8 h = some o → ZW G X sh_7 ad h 0 0 [(0, .ref (ad 0)), (1, .ref (ad 21)), (2, .int (iI x2)), (3, .int (iI x3)), (4, .int (iI x4)), (5, .int (iI x5)), (6, .int (iI x6)), (7, .int (iI x7)), (8, .int (iI x8))] 12 [] := by
    intro nf
    induction nf with
    | zero => intro x2 x3 x4 x5 x6 x7 x8 h hf hr; exact z_none hr
    | succ n12 ih12 =>
      intro x2 x3 x4 x5 x6 x7 x8 h hf hr
      have B117 : ∀ (x2 : Int) (x3 : Int) (x4 : Int) (x5 : Int) (x6 : Int) (x7 : Int) (x8 : Int) (h : HS), zfr [8, 21, 22] h0 h → fX5_writeOrigin_d_b117 (fun a0 a1 a2 a3 a4 a5 a6 hh => fX5_writeOrigin_d_L12 n12 a0 a1 a2 a3 a4 a5 a6 hh) x2 x3 x4 x5 x6 x7 x8 h = some o → ZW G X sh_7 ad h 0 0 [(0, .ref (ad 0)), (1, .ref (ad 21)), (2, .int (iI x2)), (3, .int (iI x3)), (4, .int (iI x4)), (5, .int (iI x5)), (6, .int (iI x6)), (7, .int (iI x7)), (8, .int (iI x8))] 117 [] := by
        intro x2 x3 x4 x5 x6 x7 x8 h hf hr
        unfold fX5_writeOrigin_d_b117 at hr
        refine z_iinc (lv1 := [(8, .int (iI (x8 + 1))), (0, .ref (ad 0)), (1, .ref (ad 21)), (2, .int (iI x2)), (3, .int (iI x3)), (4, .int (iI x4)), (5, .int (iI x5)), (6, .int (iI x6)), (7, .int (iI x7))]) hX dX5_writeOrigin_117 8 rfl (by decide) rfl ?_
        refine z_goto (tgt := 12) hX dX5_writeOrigin_120 (by decide) ?_
        refine z_lv [1, 2, 3, 4, 5, 6, 7, 8, 0] rfl ?_
        exact ih12 x2 x3 x4 x5 x6 x7 (x8 + 1) h hf hr
      have B115 : ∀ (x2 : Int) (x3 : Int) (x4 : Int) (x5 : Int) (x6 : Int) (x8 : Int) (s0 : Int) (h : HS), zfr [8, 21, 22] h0 h → fX5_writeOrigin_d_b115 (fun a0 a1 a2 a3 a4 a5 a6 hh => fX5_writeOrigin_d_L12 n12 a0 a1 a2 a3 a4 a5 a6 hh) x2 x3 x4 x5 x6 x8 s0 h = some o → ZW G X sh_7 ad h 0 0 [(0, .ref (ad 0)), (1, .ref (ad 21)), (2, .int (iI x2)), (3, .int (iI x3)), (4, .int (iI x4)), (5, .int (iI x5)), (6, .int (iI x6)), (8, .int (iI x8))] 115 [.int (iI s0)] := by
        intro x2 x3 x4 x5 x6 x8 s0 h hf hr
        unfold fX5_writeOrigin_d_b115 at hr
        refine z_istore (lv1 := [(7, .int (iI s0)), (0, .ref (ad 0)), (1, .ref (ad 21)), (2, .int (iI x2)), (3, .int (iI x3)), (4, .int (iI x4)), (5, .int (iI x5)), (6, .int (iI x6)), (8, .int (iI x8))]) hX dX5_writeOrigin_115 (by decide) rfl ?_
        refine z_lv [1, 2, 3, 4, 5, 6, 7, 0, 8] rfl ?_
        exact B117 x2 x3 x4 x5 x6 s0 x8 h hf hr
      have B110 : ∀ (x2 : Int) (x3 : Int) (x4 : Int) (x5 : Int) (x6 : Int) (x8 : Int) (h : HS), zfr [8, 21, 22] h0 h → fX5_writeOrigin_d_b110 (fun a0 a1 a2 a3 a4 a5 a6 hh => fX5_writeOrigin_d_L12 n12 a0 a1 a2 a3 a4 a5 a6 hh) x2 x3 x4 x5 x6 x8 h = some o → ZW G X sh_7 ad h 0 0 [(0, .ref (ad 0)), (1, .ref (ad 21)), (2, .int (iI x2)), (3, .int (iI x3)), (4, .int (iI x4)), (5, .int (iI x5)), (6, .int (iI x6)), (8, .int (iI x8))] 110 [] := by
        intro x2 x3 x4 x5 x6 x8 h hf hr
        unfold fX5_writeOrigin_d_b110 at hr
        refine z_iconst hX dX5_writeOrigin_110 ?_
        refine z_goto (tgt := 115) hX dX5_writeOrigin_111 (by decide) ?_
        exact B115 x2 x3 x4 x5 x6 x8 1 h hf hr
      have B91 : ∀ (x2 : Int) (x3 : Int) (x4 : Int) (x5 : Int) (x7 : Int) (x8 : Int) (s0 : Int) (h : HS), zfr [8, 21, 22] h0 h → fX5_writeOrigin_d_b91 (fun a0 a1 a2 a3 a4 a5 a6 hh => fX5_writeOrigin_d_L12 n12 a0 a1 a2 a3 a4 a5 a6 hh) x2 x3 x4 x5 x7 x8 s0 h = some o → ZW G X sh_7 ad h 0 0 [(0, .ref (ad 0)), (1, .ref (ad 21)), (2, .int (iI x2)), (3, .int (iI x3)), (4, .int (iI x4)), (5, .int (iI x5)), (7, .int (iI x7)), (8, .int (iI x8))] 91 [.int (iI s0)] := by
        intro x2 x3 x4 x5 x7 x8 s0 h hf hr
        unfold fX5_writeOrigin_d_b91 at hr
        refine z_istore (lv1 := [(6, .int (iI s0)), (0, .ref (ad 0)), (1, .ref (ad 21)), (2, .int (iI x2)), (3, .int (iI x3)), (4, .int (iI x4)), (5, .int (iI x5)), (7, .int (iI x7)), (8, .int (iI x8))]) hX dX5_writeOrigin_91 (by decide) rfl ?_
        refine z_iload hX dX5_writeOrigin_93 7 rfl ?_
        refine z_if_ne (tgt := 110) hX dX5_writeOrigin_95 (by decide) rfl hr (fun hr => ?_) (fun hr => ?_)
        · refine z_lv [1, 2, 3, 4, 5, 6, 0, 8] rfl ?_
          exact B110 x2 x3 x4 x5 s0 x8 h hf hr
        · refine z_iload hX dX5_writeOrigin_98 8 rfl ?_
          refine z_bipush hX dX5_writeOrigin_100 (by decide +kernel) ?_
          refine z_idiv hX dX5_writeOrigin_102 (by decide) hr (fun hr => ?_)
          refine z_iload_n hX dX5_writeOrigin_103 4 rfl ?_
          refine z_bipush hX dX5_writeOrigin_104 (by decide +kernel) ?_
          refine z_idiv hX dX5_writeOrigin_106 (by decide) hr (fun hr => ?_)
          refine z_icmp_ne (tgt := 114) hX dX5_writeOrigin_107 (by decide) rfl rfl hr (fun hr => ?_) (fun hr => ?_)
          · refine z_iconst hX dX5_writeOrigin_114 ?_
            refine z_lv [1, 2, 3, 4, 5, 6, 0, 8] rfl ?_
            exact B115 x2 x3 x4 x5 s0 x8 0 h hf hr
          · refine z_lv [1, 2, 3, 4, 5, 6, 0, 8] rfl ?_
            exact B110 x2 x3 x4 x5 s0 x8 h hf hr
      have B86 : ∀ (x2 : Int) (x3 : Int) (x4 : Int) (x5 : Int) (x7 : Int) (x8 : Int) (h : HS), zfr [8, 21, 22] h0 h → fX5_writeOrigin_d_b86 (fun a0 a1 a2 a3 a4 a5 a6 hh => fX5_writeOrigin_d_L12 n12 a0 a1 a2 a3 a4 a5 a6 hh) x2 x3 x4 x5 x7 x8 h = some o → ZW G X sh_7 ad h 0 0 [(0, .ref (ad 0)), (1, .ref (ad 21)), (2, .int (iI x2)), (3, .int (iI x3)), (4, .int (iI x4)), (5, .int (iI x5)), (7, .int (iI x7)), (8, .int (iI x8))] 86 [] := by
        intro x2 x3 x4 x5 x7 x8 h hf hr
        unfold fX5_writeOrigin_d_b86 at hr
        refine z_iconst hX dX5_writeOrigin_86 ?_
        refine z_goto (tgt := 91) hX dX5_writeOrigin_87 (by decide) ?_
        exact B91 x2 x3 x4 x5 x7 x8 1 h hf hr
      unfold fX5_writeOrigin_d_L12 at hr
      refine z_iload hX dX5_writeOrigin_12 8 rfl ?_
      refine z_bipush hX dX5_writeOrigin_14 (by decide +kernel) ?_
      refine z_icmp_ge (tgt := 123) hX dX5_writeOrigin_16 (by decide) rfl (wr_of (by decide) (by decide)) hr (fun hr => ?_) (fun hr => ?_)
      · refine z_iload hX dX5_writeOrigin_123 5 rfl ?_
        refine z_if_eq (tgt := 149) hX dX5_writeOrigin_125 (by decide) rfl hr (fun hr => ?_) (fun hr => ?_)
        · refine z_lv [1, 3, 6] rfl ?_
          exact B149 x3 x6 h hf hr
        · refine z_iload hX dX5_writeOrigin_128 6 rfl ?_
          refine z_if_eq (tgt := 138) hX dX5_writeOrigin_130 (by decide) rfl hr (fun hr => ?_) (fun hr => ?_)
          · refine z_lv [1, 3, 6] rfl ?_
            exact B138 x3 x6 h hf hr
          · refine z_iload hX dX5_writeOrigin_133 7 rfl ?_
            refine z_if_eq (tgt := 149) hX dX5_writeOrigin_135 (by decide) rfl hr (fun hr => ?_) (fun hr => ?_)
            · refine z_lv [1, 3, 6] rfl ?_
              exact B149 x3 x6 h hf hr
            · refine z_lv [1, 3, 6] rfl ?_
              exact B138 x3 x6 h hf hr
      · refine z_iload hX dX5_writeOrigin_19 8 rfl ?_
        refine z_iload_n hX dX5_writeOrigin_21 3 rfl ?_
        refine z_icmp_eq (tgt := 117) hX dX5_writeOrigin_22 (by decide) rfl rfl hr (fun hr => ?_) (fun hr => ?_)
        · exact B117 x2 x3 x4 x5 x6 x7 x8 h hf hr
        · refine z_aload_n hX dX5_writeOrigin_25 0 rfl ?_
          refine z_getR (j := 7) hX dX5_writeOrigin_26 fl_21 0 rfl rfl ?_
          refine z_iload hX dX5_writeOrigin_29 8 rfl ?_
          obtain ⟨r3, hc3, hr⟩ := z_bind hr
          refine z_callV_i (As := [.int (iI x8)]) (k1 := 0) (n1 := 0) (nA := 1) hX (mX0_pieceOn hc3) dX5_writeOrigin_31 gX5_writeOrigin_X0_pieceOn rfl ⟨rfl, by decide, by decide, by decide +kernel⟩ ⟨by decide, by decide⟩ ⟨by decide, by decide⟩ 7 rfl rfl rfl rfl (Nat.le_of_ble_eq_true rfl) (by decide +kernel) rfl rfl (fun hg3 => ?_)
          refine z_iload_n hX dX5_writeOrigin_34 2 rfl ?_
          refine z_icmp_ne (tgt := 117) hX dX5_writeOrigin_35 (by decide) rfl rfl hr (fun hr => ?_) (fun hr => ?_)
          · exact B117 x2 x3 x4 x5 x6 x7 x8 h hf hr
          · refine z_aload_n hX dX5_writeOrigin_38 0 rfl ?_
            refine z_getR (j := 7) hX dX5_writeOrigin_39 fl_21 0 rfl rfl ?_
            refine z_iload hX dX5_writeOrigin_42 8 rfl ?_
            refine z_iload hX dX5_writeOrigin_44 4 rfl ?_
            obtain ⟨r4, hc4, hr⟩ := z_bind hr
            refine z_callV_i (As := [.int (iI x8), .int (iI x4)]) (k1 := 0) (n1 := 0) (nA := 2) hX (mX0_reaches hc4) dX5_writeOrigin_46 gX5_writeOrigin_X0_reaches rfl ⟨rfl, by decide, by decide, by decide +kernel⟩ ⟨by decide, by decide⟩ ⟨by decide, by decide⟩ 7 rfl rfl rfl rfl (Nat.le_of_ble_eq_true rfl) (by decide +kernel) rfl rfl (fun hg4 => ?_)
            refine z_if_eq (tgt := 117) hX dX5_writeOrigin_49 (by decide) rfl hr (fun hr => ?_) (fun hr => ?_)
            · exact B117 x2 x3 x4 x5 x6 x7 x8 h hf hr
            · refine z_aload_n hX dX5_writeOrigin_52 0 rfl ?_
              refine z_getR (j := 7) hX dX5_writeOrigin_53 fl_21 0 rfl rfl ?_
              refine z_iload hX dX5_writeOrigin_56 8 rfl ?_
              refine z_iload hX dX5_writeOrigin_58 4 rfl ?_
              obtain ⟨r5, hc5, hr⟩ := z_bind hr
              refine z_callV_i (As := [.int (iI x8), .int (iI x4)]) (k1 := 0) (n1 := 0) (nA := 2) hX (mX0_keepsRoyalsSafe hc5) dX5_writeOrigin_60 gX5_writeOrigin_X0_keepsRoyalsSafe rfl ⟨rfl, by decide, by decide, by decide +kernel⟩ ⟨by decide, by decide⟩ ⟨by decide, by decide⟩ 7 rfl rfl rfl rfl (Nat.le_of_ble_eq_true rfl) (by decide +kernel) rfl rfl (fun hg5 => ?_)
              have hf : zfr [8, 21, 22] h0 r5.2 := zfr_tr hf (by decide) hg5
              refine z_if_eq (tgt := 117) hX dX5_writeOrigin_63 (by decide) rfl hr (fun hr => ?_) (fun hr => ?_)
              · exact B117 x2 x3 x4 x5 x6 x7 x8 r5.2 hf hr
              · refine z_iconst hX dX5_writeOrigin_66 ?_
                refine z_istore (lv1 := [(5, .int (iI 1)), (0, .ref (ad 0)), (1, .ref (ad 21)), (2, .int (iI x2)), (3, .int (iI x3)), (4, .int (iI x4)), (6, .int (iI x6)), (7, .int (iI x7)), (8, .int (iI x8))]) hX dX5_writeOrigin_67 (by decide) rfl ?_
                refine z_iload hX dX5_writeOrigin_69 6 rfl ?_
                refine z_if_ne (tgt := 86) hX dX5_writeOrigin_71 (by decide) rfl hr (fun hr => ?_) (fun hr => ?_)
                · refine z_lv [1, 2, 3, 4, 5, 0, 7, 8] rfl ?_
                  exact B86 x2 x3 x4 1 x7 x8 r5.2 hf hr
                · refine z_iload hX dX5_writeOrigin_74 8 rfl ?_
                  refine z_bipush hX dX5_writeOrigin_76 (by decide +kernel) ?_
                  refine z_irem hX dX5_writeOrigin_78 (by decide) hr (fun hr => ?_)
                  refine z_iload_n hX dX5_writeOrigin_79 4 rfl ?_
                  refine z_bipush hX dX5_writeOrigin_80 (by decide +kernel) ?_
                  refine z_irem hX dX5_writeOrigin_82 (by decide) hr (fun hr => ?_)
                  refine z_icmp_ne (tgt := 90) hX dX5_writeOrigin_83 (by decide) rfl rfl hr (fun hr => ?_) (fun hr => ?_)
                  · refine z_iconst hX dX5_writeOrigin_90 ?_
                    refine z_lv [1, 2, 3, 4, 5, 0, 7, 8] rfl ?_
                    exact B91 x2 x3 x4 1 x7 x8 0 r5.2 hf hr
                  · refine z_lv [1, 2, 3, 4, 5, 0, 7, 8] rfl ?_
                    exact B86 x2 x3 x4 1 x7 x8 r5.2 hf hr
  unfold fX5_writeOrigin_d at hr
  refine z_iconst hX dX5_writeOrigin_0 ?_
  refine z_istore (lv1 := [(5, .int (iI 0)), (0, .ref (ad 0)), (1, .ref (ad 21)), (2, .int (iI p2)), (3, .int (iI p3)), (4, .int (iI p4))]) hX dX5_writeOrigin_1 (by decide) rfl ?_
  refine z_iconst hX dX5_writeOrigin_3 ?_
  refine z_istore (lv1 := [(6, .int (iI 0)), (5, .int (iI 0)), (0, .ref (ad 0)), (1, .ref (ad 21)), (2, .int (iI p2)), (3, .int (iI p3)), (4, .int (iI p4))]) hX dX5_writeOrigin_4 (by decide) rfl ?_
  refine z_iconst hX dX5_writeOrigin_6 ?_
  refine z_istore (lv1 := [(7, .int (iI 0)), (6, .int (iI 0)), (5, .int (iI 0)), (0, .ref (ad 0)), (1, .ref (ad 21)), (2, .int (iI p2)), (3, .int (iI p3)), (4, .int (iI p4))]) hX dX5_writeOrigin_7 (by decide) rfl ?_
  refine z_iconst hX dX5_writeOrigin_9 ?_
  refine z_istore (lv1 := [(8, .int (iI 0)), (7, .int (iI 0)), (6, .int (iI 0)), (5, .int (iI 0)), (0, .ref (ad 0)), (1, .ref (ad 21)), (2, .int (iI p2)), (3, .int (iI p3)), (4, .int (iI p4))]) hX dX5_writeOrigin_10 (by decide) rfl ?_
  refine z_lv [4, 5, 6, 7, 8, 3, 2, 1, 0] rfl ?_
  exact B12 zF p2 p3 p4 0 0 0 0 h0 hf hr

def fX5_writeMove_d_b51 (x2 : Int) (x3 : Int) (h : HS) : Option (HS) := if (0 : Int) ≤ x3 ∧ x3 < 2147483648 then (fX3_append_d (97 + (x3 % 8)) h).bind fun r1 => if (0 : Int) ≤ x3 ∧ x3 < 2147483648 then (fX3_append_d (49 + (x3 / 8)) r1).bind fun r2 => (fX0_signBehind x2 x3 r2).bind fun r3 => if wr r3.1 = ((-1) : Int) then some r3.2 else (fX3_append_d r3.1 r3.2).bind fun r4 => some r4 else none else none
def fX5_writeMove_d (p2 : Int) (p3 : Int) (h : HS) : Option (HS) := (fX0_pieceOn p2 h).bind fun r5 => if (0 : Int) ≤ r5 ∧ r5 < 2147483648 then (fX1_letter (r5 / 2) h).bind fun r6 => (fX3_append_d r6 h).bind fun r7 => (fX5_writeOrigin_d r5 p2 p3 r7).bind fun r8 => (fX0_isTaken p3 r8).bind fun r9 => if wr r9 = 0 then fX5_writeMove_d_b51 p2 p3 r8 else (fX3_append_d 120 r8).bind fun r10 => fX5_writeMove_d_b51 p2 p3 r10 else none
set_option maxRecDepth 100000 in
set_option maxHeartbeats 4000000 in
theorem mX5_writeMove_d {G : ZG} {l0 : Launch} {ad : Nat → Nat} {h0 : HS} {p2 : Int} {p3 : Int} {o : HS} (hr : fX5_writeMove_d p2 p3 h0 = some o) : ZMv G l0 yX5_writeMove wsX5_writeMove ({ frames := 5, cells := 0, slots := 0, locals := 137 }) [.ref (ad 0), .ref (ad 21), .int (iI p2), .int (iI p3)] sh_7 ad h0 [8, 21, 22] o := by
  refine ZMv.of (cc := cX5_writeMove) (maxL := 6) (ret := none) (own := RX5) (lv0 := [(0, .ref (ad 0)), (1, .ref (ad 21)), (2, .int (iI p2)), (3, .int (iI p3))]) (by decide) rfl rfl rfl (Nat.le_of_ble_eq_true rfl) rfl ?_
  intro X hX hQ
  have hf : zfr [8, 21, 22] h0 h0 := zfr_rf
  have fl_12 : zFld wsX5_writeMove RX5 12 5 RX5 TX5 16 0 := ⟨by decide +kernel, by decide +kernel, by decide, rfl⟩
  have fl_21 : zFld wsX5_writeMove RX5 21 5 RX5 TX5 16 1 := ⟨by decide +kernel, by decide +kernel, by decide, rfl⟩
  have B51 : ∀ (x2 : Int) (x3 : Int) (h : HS), zfr [8, 21, 22] h0 h → fX5_writeMove_d_b51 x2 x3 h = some o → ZW G X sh_7 ad h 0 0 [(0, .ref (ad 0)), (1, .ref (ad 21)), (2, .int (iI x2)), (3, .int (iI x3))] 51 [] := by
    intro x2 x3 h hf hr
    unfold fX5_writeMove_d_b51 at hr
    refine z_aload_n hX dX5_writeMove_51 1 rfl ?_
    refine z_bipush hX dX5_writeMove_52 (by decide +kernel) ?_
    refine z_iload_n hX dX5_writeMove_54 3 rfl ?_
    refine z_bipush hX dX5_writeMove_55 (by decide +kernel) ?_
    refine z_irem hX dX5_writeMove_57 (by decide) hr (fun hr => ?_)
    refine z_iadd hX dX5_writeMove_58 ?_
    obtain ⟨r1, hc1, hr⟩ := z_bind hr
    refine z_callV_v (As := [.int (iI (97 + (x3 % 8)))]) (k1 := 0) (n1 := 0) (nA := 1) hX (mX3_append_d hc1) dX5_writeMove_59 gX5_writeMove_X3_append rfl ⟨rfl, by decide, by decide, by decide +kernel⟩ ⟨by decide, by decide⟩ ⟨by decide, by decide⟩ 21 rfl rfl rfl rfl (Nat.le_of_ble_eq_true rfl) (by decide +kernel) rfl rfl (fun hg1 => ?_)
    have hf : zfr [8, 21, 22] h0 r1 := zfr_tr hf (by decide) hg1
    refine z_aload_n hX dX5_writeMove_62 1 rfl ?_
    refine z_bipush hX dX5_writeMove_63 (by decide +kernel) ?_
    refine z_iload_n hX dX5_writeMove_65 3 rfl ?_
    refine z_bipush hX dX5_writeMove_66 (by decide +kernel) ?_
    refine z_idiv hX dX5_writeMove_68 (by decide) hr (fun hr => ?_)
    refine z_iadd hX dX5_writeMove_69 ?_
    obtain ⟨r2, hc2, hr⟩ := z_bind hr
    refine z_callV_v (As := [.int (iI (49 + (x3 / 8)))]) (k1 := 0) (n1 := 0) (nA := 1) hX (mX3_append_d hc2) dX5_writeMove_70 gX5_writeMove_X3_append rfl ⟨rfl, by decide, by decide, by decide +kernel⟩ ⟨by decide, by decide⟩ ⟨by decide, by decide⟩ 21 rfl rfl rfl rfl (Nat.le_of_ble_eq_true rfl) (by decide +kernel) rfl rfl (fun hg2 => ?_)
    have hf : zfr [8, 21, 22] h0 r2 := zfr_tr hf (by decide) hg2
    refine z_aload_n hX dX5_writeMove_73 0 rfl ?_
    refine z_getR (j := 7) hX dX5_writeMove_74 fl_21 0 rfl rfl ?_
    refine z_iload_n hX dX5_writeMove_77 2 rfl ?_
    refine z_iload_n hX dX5_writeMove_78 3 rfl ?_
    obtain ⟨r3, hc3, hr⟩ := z_bind hr
    refine z_callV_i (As := [.int (iI x2), .int (iI x3)]) (k1 := 0) (n1 := 0) (nA := 2) hX (mX0_signBehind hc3) dX5_writeMove_79 gX5_writeMove_X0_signBehind rfl ⟨rfl, by decide, by decide, by decide +kernel⟩ ⟨by decide, by decide⟩ ⟨by decide, by decide⟩ 7 rfl rfl rfl rfl (Nat.le_of_ble_eq_true rfl) (by decide +kernel) rfl rfl (fun hg3 => ?_)
    have hf : zfr [8, 21, 22] h0 r3.2 := zfr_tr hf (by decide) hg3
    refine z_istore (lv1 := [(5, .int (iI r3.1)), (0, .ref (ad 0)), (1, .ref (ad 21)), (2, .int (iI x2)), (3, .int (iI x3))]) hX dX5_writeMove_82 (by decide) rfl ?_
    refine z_iload hX dX5_writeMove_84 0 rfl ?_
    refine z_iconst hX dX5_writeMove_86 ?_
    refine z_icmp_eq (tgt := 96) hX dX5_writeMove_87 (by decide) rfl (wr_of (by decide) (by decide)) hr (fun hr => ?_) (fun hr => ?_)
    · obtain rfl := Option.some.inj hr
      exact hQ _ _ dX5_writeMove_96 hf
    · refine z_aload_n hX dX5_writeMove_90 2 rfl ?_
      refine z_iload hX dX5_writeMove_91 0 rfl ?_
      obtain ⟨r4, hc4, hr⟩ := z_bind hr
      refine z_callV_v (As := [.int (iI r3.1)]) (k1 := 0) (n1 := 0) (nA := 1) hX (mX3_append_d hc4) dX5_writeMove_93 gX5_writeMove_X3_append rfl ⟨rfl, by decide, by decide, by decide +kernel⟩ ⟨by decide, by decide⟩ ⟨by decide, by decide⟩ 21 rfl rfl rfl rfl (Nat.le_of_ble_eq_true rfl) (by decide +kernel) rfl rfl (fun hg4 => ?_)
      have hf : zfr [8, 21, 22] h0 r4 := zfr_tr hf (by decide) hg4
      obtain rfl := Option.some.inj hr
      exact hQ _ _ dX5_writeMove_96 hf
  unfold fX5_writeMove_d at hr
  refine z_aload_n hX dX5_writeMove_0 0 rfl ?_
  refine z_getR (j := 7) hX dX5_writeMove_1 fl_21 0 rfl rfl ?_
  refine z_iload_n hX dX5_writeMove_4 2 rfl ?_
  obtain ⟨r5, hc5, hr⟩ := z_bind hr
  refine z_callV_i (As := [.int (iI p2)]) (k1 := 0) (n1 := 0) (nA := 1) hX (mX0_pieceOn hc5) dX5_writeMove_5 gX5_writeMove_X0_pieceOn rfl ⟨rfl, by decide, by decide, by decide +kernel⟩ ⟨by decide, by decide⟩ ⟨by decide, by decide⟩ 7 rfl rfl rfl rfl (Nat.le_of_ble_eq_true rfl) (by decide +kernel) rfl rfl (fun hg5 => ?_)
  refine z_istore (lv1 := [(4, .int (iI r5)), (0, .ref (ad 0)), (1, .ref (ad 21)), (2, .int (iI p2)), (3, .int (iI p3))]) hX dX5_writeMove_8 (by decide) rfl ?_
  refine z_aload_n hX dX5_writeMove_10 2 rfl ?_
  refine z_aload_n hX dX5_writeMove_11 1 rfl ?_
  refine z_getR (j := 1) hX dX5_writeMove_12 fl_12 0 rfl rfl ?_
  refine z_iload hX dX5_writeMove_15 0 rfl ?_
  refine z_iconst hX dX5_writeMove_17 ?_
  refine z_idiv hX dX5_writeMove_18 (by decide) hr (fun hr => ?_)
  obtain ⟨r6, hc6, hr⟩ := z_bind hr
  refine z_callV_i (As := [.int (iI (r5 / 2))]) (k1 := 0) (n1 := 0) (nA := 1) hX (mX1_letter hc6) dX5_writeMove_19 gX5_writeMove_X1_letter rfl ⟨rfl, by decide, by decide, by decide +kernel⟩ ⟨by decide, by decide⟩ ⟨by decide, by decide⟩ 1 rfl rfl rfl rfl (Nat.le_of_ble_eq_true rfl) (by decide +kernel) rfl rfl (fun hg6 => ?_)
  obtain ⟨r7, hc7, hr⟩ := z_bind hr
  refine z_callV_v (As := [.int (iI r6)]) (k1 := 0) (n1 := 0) (nA := 1) hX (mX3_append_d hc7) dX5_writeMove_22 gX5_writeMove_X3_append rfl ⟨rfl, by decide, by decide, by decide +kernel⟩ ⟨by decide, by decide⟩ ⟨by decide, by decide⟩ 21 rfl rfl rfl rfl (Nat.le_of_ble_eq_true rfl) (by decide +kernel) rfl rfl (fun hg7 => ?_)
  have hf : zfr [8, 21, 22] h0 r7 := zfr_tr hf (by decide) hg7
  refine z_aload_n hX dX5_writeMove_25 1 rfl ?_
  refine z_aload_n hX dX5_writeMove_26 2 rfl ?_
  refine z_iload hX dX5_writeMove_27 0 rfl ?_
  refine z_iload_n hX dX5_writeMove_29 3 rfl ?_
  refine z_iload_n hX dX5_writeMove_30 4 rfl ?_
  obtain ⟨r8, hc8, hr⟩ := z_bind hr
  refine z_callV_v (As := [.ref (ad 21), .int (iI r5), .int (iI p2), .int (iI p3)]) (k1 := 0) (n1 := 0) (nA := 4) hX (mX5_writeOrigin_d hc8) dX5_writeMove_31 gX5_writeMove_X5_writeOrigin rfl ⟨rfl, by decide, by decide, by decide +kernel⟩ ⟨by decide, by decide⟩ ⟨by decide, by decide⟩ 0 rfl rfl rfl rfl (Nat.le_of_ble_eq_true rfl) (by decide +kernel) rfl rfl (fun hg8 => ?_)
  have hf : zfr [8, 21, 22] h0 r8 := zfr_tr hf (by decide) hg8
  refine z_aload_n hX dX5_writeMove_34 1 rfl ?_
  refine z_getR (j := 7) hX dX5_writeMove_35 fl_21 0 rfl rfl ?_
  refine z_iload_n hX dX5_writeMove_38 4 rfl ?_
  obtain ⟨r9, hc9, hr⟩ := z_bind hr
  refine z_callV_i (As := [.int (iI p3)]) (k1 := 0) (n1 := 0) (nA := 1) hX (mX0_isTaken hc9) dX5_writeMove_39 gX5_writeMove_X0_isTaken rfl ⟨rfl, by decide, by decide, by decide +kernel⟩ ⟨by decide, by decide⟩ ⟨by decide, by decide⟩ 7 rfl rfl rfl rfl (Nat.le_of_ble_eq_true rfl) (by decide +kernel) rfl rfl (fun hg9 => ?_)
  refine z_if_eq (tgt := 51) hX dX5_writeMove_42 (by decide) rfl hr (fun hr => ?_) (fun hr => ?_)
  · refine z_lv [1, 2, 3, 4] rfl ?_
    exact B51 p2 p3 r8 hf hr
  · refine z_aload_n hX dX5_writeMove_45 2 rfl ?_
    refine z_bipush hX dX5_writeMove_46 (by decide +kernel) ?_
    obtain ⟨r10, hc10, hr⟩ := z_bind hr
    refine z_callV_v (As := [.int (iI 120)]) (k1 := 0) (n1 := 0) (nA := 1) hX (mX3_append_d hc10) dX5_writeMove_48 gX5_writeMove_X3_append rfl ⟨rfl, by decide, by decide, by decide +kernel⟩ ⟨by decide, by decide⟩ ⟨by decide, by decide⟩ 21 rfl rfl rfl rfl (Nat.le_of_ble_eq_true rfl) (by decide +kernel) rfl rfl (fun hg10 => ?_)
    have hf : zfr [8, 21, 22] h0 r10 := zfr_tr hf (by decide) hg10
    refine z_lv [1, 2, 3, 4] rfl ?_
    exact B51 p2 p3 r10 hf hr

def fX5_writeOpening (p1 : Int) (h : HS) : Option (HS) := if wr p1 ≤ 0 then some h else (fX3_separate_d h).bind fun r1 => (fX3_append_d 40 r1).bind fun r2 => some r2
set_option maxRecDepth 100000 in
set_option maxHeartbeats 4000000 in
theorem mX5_writeOpening {G : ZG} {l0 : Launch} {ad : Nat → Nat} {h0 : HS} {p1 : Int} {o : HS} (hr : fX5_writeOpening p1 h0 = some o) : ZMv G l0 yX5_writeOpening wsX5_writeOpening ({ frames := 2, cells := 0, slots := 0, locals := 41 }) [.ref (ad 0), .int (iI p1)] sh_7 ad h0 [21, 22] o := by
  refine ZMv.of (cc := cX5_writeOpening) (maxL := 2) (ret := none) (own := RX5) (lv0 := [(0, .ref (ad 0)), (1, .int (iI p1))]) (by decide) rfl rfl rfl (Nat.le_of_ble_eq_true rfl) rfl ?_
  intro X hX hQ
  have hf : zfr [21, 22] h0 h0 := zfr_rf
  have fl_53 : zFld wsX5_writeOpening RX5 53 5 RX5 TX5 16 7 := ⟨by decide +kernel, by decide +kernel, by decide, rfl⟩
  unfold fX5_writeOpening at hr
  refine z_iload_n hX dX5_writeOpening_0 1 rfl ?_
  refine z_if_le (tgt := 20) hX dX5_writeOpening_1 (by decide) rfl hr (fun hr => ?_) (fun hr => ?_)
  · obtain rfl := Option.some.inj hr
    exact hQ _ _ dX5_writeOpening_20 hf
  · refine z_aload_n hX dX5_writeOpening_4 0 rfl ?_
    refine z_getR (j := 21) hX dX5_writeOpening_5 fl_53 0 rfl rfl ?_
    obtain ⟨r1, hc1, hr⟩ := z_bind hr
    refine z_callV_v (As := []) (k1 := 0) (n1 := 0) (nA := 0) hX (mX3_separate_d hc1) dX5_writeOpening_8 gX5_writeOpening_X3_separate rfl ⟨rfl, by decide, by decide, by decide +kernel⟩ ⟨by decide, by decide⟩ ⟨by decide, by decide⟩ 21 rfl rfl rfl rfl (Nat.le_of_ble_eq_true rfl) (by decide +kernel) rfl rfl (fun hg1 => ?_)
    have hf : zfr [21, 22] h0 r1 := zfr_tr hf (by decide) hg1
    refine z_aload_n hX dX5_writeOpening_11 0 rfl ?_
    refine z_getR (j := 21) hX dX5_writeOpening_12 fl_53 0 rfl rfl ?_
    refine z_bipush hX dX5_writeOpening_15 (by decide +kernel) ?_
    obtain ⟨r2, hc2, hr⟩ := z_bind hr
    refine z_callV_v (As := [.int (iI 40)]) (k1 := 0) (n1 := 0) (nA := 1) hX (mX3_append_d hc2) dX5_writeOpening_17 gX5_writeOpening_X3_append rfl ⟨rfl, by decide, by decide, by decide +kernel⟩ ⟨by decide, by decide⟩ ⟨by decide, by decide⟩ 21 rfl rfl rfl rfl (Nat.le_of_ble_eq_true rfl) (by decide +kernel) rfl rfl (fun hg2 => ?_)
    have hf : zfr [21, 22] h0 r2 := zfr_tr hf (by decide) hg2
    obtain rfl := Option.some.inj hr
    exact hQ _ _ dX5_writeOpening_20 hf

def fX5_leaveLine_L12 : Nat → Int → HS → Option (Int × HS)
  | 0, _, _ => none
  | nf + 1, x1, h => if wr x1 ≤ 0 then some ((-1), h) else (fX4_placeOf (h 0 8) h).bind fun r1 => (fX5_stepUp h).bind fun r2 => if wr r1 ≤ 0 then fX5_leaveLine_L12 nf (x1 + (-1)) r2 else (fX3_append_d 41 r2).bind fun r3 => some ((r1 + 1), r3)
def fX5_leaveLine (h : HS) : Option (Int × HS) := (fX4_depth (h 0 8) h).bind fun r4 => fX5_leaveLine_L12 zF r4 h
set_option maxRecDepth 100000 in
set_option maxHeartbeats 4000000 in
theorem mX5_leaveLine {G : ZG} {l0 : Launch} {ad : Nat → Nat} {h0 : HS} {o : Int × HS} (hr : fX5_leaveLine h0 = some o) : ZMi G l0 yX5_leaveLine wsX5_leaveLine ({ frames := 3, cells := 0, slots := 0, locals := 68 }) [.ref (ad 0)] sh_7 ad h0 [0, 8, 21, 22] o.1 o.2 := by
  refine ZMi.of (cc := cX5_leaveLine) (maxL := 3) (ret := (some .int)) (own := RX5) (lv0 := [(0, .ref (ad 0))]) (by decide) rfl rfl rfl (Nat.le_of_ble_eq_true rfl) rfl ?_
  intro X hX hQ
  have hf : zfr [0, 8, 21, 22] h0 h0 := zfr_rf
  have fl_28 : zFld wsX5_leaveLine RX5 28 5 RX5 TX5 16 2 := ⟨by decide +kernel, by decide +kernel, by decide, rfl⟩
  have fl_53 : zFld wsX5_leaveLine RX5 53 5 RX5 TX5 16 7 := ⟨by decide +kernel, by decide +kernel, by decide, rfl⟩
  have fl_56 : zFld wsX5_leaveLine RX5 56 5 RX5 TX5 16 8 := ⟨by decide +kernel, by decide +kernel, by decide, rfl⟩
  have B12 : ∀ (nf : Nat) (x1 : Int) (h : HS), zfr [0, 8, 21, 22] h0 h → fX5_leaveLine_L12 nf x1 h = some o → ZW G X sh_7 ad h 0 0 [(0, .ref (ad 0)), (1, .int (iI x1))] 12 [] := by
    intro nf
    induction nf with
    | zero => intro x1 h hf hr; exact z_none hr
    | succ n12 ih12 =>
      intro x1 h hf hr
      unfold fX5_leaveLine_L12 at hr
      refine z_iload_n hX dX5_leaveLine_12 1 rfl ?_
      refine z_if_le (tgt := 55) hX dX5_leaveLine_13 (by decide) rfl hr (fun hr => ?_) (fun hr => ?_)
      · refine z_iconst hX dX5_leaveLine_55 ?_
        obtain rfl := Option.some.inj hr
        exact hQ _ _ dX5_leaveLine_56 hf
      · refine z_aload_n hX dX5_leaveLine_16 0 rfl ?_
        refine z_getR (j := 9) hX dX5_leaveLine_17 fl_28 0 rfl rfl ?_
        refine z_aload_n hX dX5_leaveLine_20 0 rfl ?_
        refine z_getI hX dX5_leaveLine_21 fl_56 0 rfl rfl ?_
        obtain ⟨r1, hc1, hr⟩ := z_bind hr
        refine z_callV_i (As := [.int (iI (h 0 8))]) (k1 := 0) (n1 := 0) (nA := 1) hX (mX4_placeOf hc1) dX5_leaveLine_24 gX5_leaveLine_X4_placeOf rfl ⟨rfl, by decide, by decide, by decide +kernel⟩ ⟨by decide, by decide⟩ ⟨by decide, by decide⟩ 9 rfl rfl rfl rfl (Nat.le_of_ble_eq_true rfl) (by decide +kernel) rfl rfl (fun hg1 => ?_)
        refine z_istore_n (lv1 := [(2, .int (iI r1)), (0, .ref (ad 0)), (1, .int (iI x1))]) hX dX5_leaveLine_27 (by decide) rfl ?_
        refine z_aload_n hX dX5_leaveLine_28 1 rfl ?_
        obtain ⟨r2, hc2, hr⟩ := z_bind hr
        refine z_callV_v (As := []) (k1 := 0) (n1 := 0) (nA := 0) hX (mX5_stepUp hc2) dX5_leaveLine_29 gX5_leaveLine_X5_stepUp rfl ⟨rfl, by decide, by decide, by decide +kernel⟩ ⟨by decide, by decide⟩ ⟨by decide, by decide⟩ 0 rfl rfl rfl rfl (Nat.le_of_ble_eq_true rfl) (by decide +kernel) rfl rfl (fun hg2 => ?_)
        have hf : zfr [0, 8, 21, 22] h0 r2 := zfr_tr hf (by decide) hg2
        refine z_iload_n hX dX5_leaveLine_32 0 rfl ?_
        refine z_if_le (tgt := 49) hX dX5_leaveLine_33 (by decide) rfl hr (fun hr => ?_) (fun hr => ?_)
        · refine z_iinc (lv1 := [(1, .int (iI (x1 + (-1)))), (2, .int (iI r1)), (0, .ref (ad 0))]) hX dX5_leaveLine_49 2 rfl (by decide) rfl ?_
          refine z_goto (tgt := 12) hX dX5_leaveLine_52 (by decide) ?_
          refine z_lv [2, 0] rfl ?_
          exact ih12 (x1 + (-1)) r2 hf hr
        · refine z_aload_n hX dX5_leaveLine_36 1 rfl ?_
          refine z_getR (j := 21) hX dX5_leaveLine_37 fl_53 0 rfl rfl ?_
          refine z_bipush hX dX5_leaveLine_40 (by decide +kernel) ?_
          obtain ⟨r3, hc3, hr⟩ := z_bind hr
          refine z_callV_v (As := [.int (iI 41)]) (k1 := 0) (n1 := 0) (nA := 1) hX (mX3_append_d hc3) dX5_leaveLine_42 gX5_leaveLine_X3_append rfl ⟨rfl, by decide, by decide, by decide +kernel⟩ ⟨by decide, by decide⟩ ⟨by decide, by decide⟩ 21 rfl rfl rfl rfl (Nat.le_of_ble_eq_true rfl) (by decide +kernel) rfl rfl (fun hg3 => ?_)
          have hf : zfr [0, 8, 21, 22] h0 r3 := zfr_tr hf (by decide) hg3
          refine z_iload_n hX dX5_leaveLine_45 0 rfl ?_
          refine z_iconst hX dX5_leaveLine_46 ?_
          refine z_iadd hX dX5_leaveLine_47 ?_
          obtain rfl := Option.some.inj hr
          exact hQ _ _ dX5_leaveLine_48 hf
  unfold fX5_leaveLine at hr
  refine z_aload_n hX dX5_leaveLine_0 0 rfl ?_
  refine z_getR (j := 9) hX dX5_leaveLine_1 fl_28 0 rfl rfl ?_
  refine z_aload_n hX dX5_leaveLine_4 0 rfl ?_
  refine z_getI hX dX5_leaveLine_5 fl_56 0 rfl rfl ?_
  obtain ⟨r4, hc4, hr⟩ := z_bind hr
  refine z_callV_i (As := [.int (iI (h0 0 8))]) (k1 := 0) (n1 := 0) (nA := 1) hX (mX4_depth hc4) dX5_leaveLine_8 gX5_leaveLine_X4_depth rfl ⟨rfl, by decide, by decide, by decide +kernel⟩ ⟨by decide, by decide⟩ ⟨by decide, by decide⟩ 9 rfl rfl rfl rfl (Nat.le_of_ble_eq_true rfl) (by decide +kernel) rfl rfl (fun hg4 => ?_)
  refine z_istore_n (lv1 := [(1, .int (iI r4)), (0, .ref (ad 0))]) hX dX5_leaveLine_11 (by decide) rfl ?_
  refine z_lv [1, 0] rfl ?_
  exact B12 zF r4 h0 hf hr

def fX5_goOn_b32 (s0 : Int) (h : HS) : Option (Int × HS) := if wr s0 = ((-1) : Int) then (fX5_leaveLine h).bind fun r2 => some (r2.1, r2.2) else (fX5_stepDown s0 h).bind fun r1 => some (0, r1)
def fX5_goOn_b11 (x2 : Int) (h : HS) : Option (Int × HS) := if wr x2 = ((-1) : Int) then (fX4_child (h 0 8) 0 h).bind fun r3 => fX5_goOn_b32 r3 h else fX5_goOn_b32 x2 h
def fX5_goOn (p1 : Int) (p2 : Int) (h : HS) : Option (Int × HS) := if wr p1 = 0 then if wr p2 = ((-1) : Int) then fX5_goOn_b11 p2 h else some (1, h) else fX5_goOn_b11 p2 h
set_option maxRecDepth 100000 in
set_option maxHeartbeats 4000000 in
theorem mX5_goOn {G : ZG} {l0 : Launch} {ad : Nat → Nat} {h0 : HS} {p1 : Int} {p2 : Int} {o : Int × HS} (hr : fX5_goOn p1 p2 h0 = some o) : ZMi G l0 yX5_goOn wsX5_goOn ({ frames := 4, cells := 0, slots := 0, locals := 90 }) [.ref (ad 0), .int (iI p1), .int (iI p2)] sh_7 ad h0 [0, 8, 13, 21, 22] o.1 o.2 := by
  refine ZMi.of (cc := cX5_goOn) (maxL := 4) (ret := (some .int)) (own := RX5) (lv0 := [(0, .ref (ad 0)), (1, .int (iI p1)), (2, .int (iI p2))]) (by decide) rfl rfl rfl (Nat.le_of_ble_eq_true rfl) rfl ?_
  intro X hX hQ
  have hf : zfr [0, 8, 13, 21, 22] h0 h0 := zfr_rf
  have fl_28 : zFld wsX5_goOn RX5 28 5 RX5 TX5 16 2 := ⟨by decide +kernel, by decide +kernel, by decide, rfl⟩
  have fl_56 : zFld wsX5_goOn RX5 56 5 RX5 TX5 16 8 := ⟨by decide +kernel, by decide +kernel, by decide, rfl⟩
  have B32 : ∀ (s0 : Int) (h : HS), zfr [0, 8, 13, 21, 22] h0 h → fX5_goOn_b32 s0 h = some o → ZW G X sh_7 ad h 0 0 [(0, .ref (ad 0))] 32 [.int (iI s0)] := by
    intro s0 h hf hr
    unfold fX5_goOn_b32 at hr
    refine z_istore_n (lv1 := [(3, .int (iI s0)), (0, .ref (ad 0))]) hX dX5_goOn_32 (by decide) rfl ?_
    refine z_iload_n hX dX5_goOn_33 0 rfl ?_
    refine z_iconst hX dX5_goOn_34 ?_
    refine z_icmp_ne (tgt := 43) hX dX5_goOn_35 (by decide) rfl (wr_of (by decide) (by decide)) hr (fun hr => ?_) (fun hr => ?_)
    · refine z_aload_n hX dX5_goOn_43 1 rfl ?_
      refine z_iload_n hX dX5_goOn_44 0 rfl ?_
      obtain ⟨r1, hc1, hr⟩ := z_bind hr
      refine z_callV_v (As := [.int (iI s0)]) (k1 := 0) (n1 := 0) (nA := 1) hX (mX5_stepDown hc1) dX5_goOn_45 gX5_goOn_X5_stepDown rfl ⟨rfl, by decide, by decide, by decide +kernel⟩ ⟨by decide, by decide⟩ ⟨by decide, by decide⟩ 0 rfl rfl rfl rfl (Nat.le_of_ble_eq_true rfl) (by decide +kernel) rfl rfl (fun hg1 => ?_)
      have hf : zfr [0, 8, 13, 21, 22] h0 r1 := zfr_tr hf (by decide) hg1
      refine z_iconst hX dX5_goOn_48 ?_
      obtain rfl := Option.some.inj hr
      exact hQ _ _ dX5_goOn_49 hf
    · refine z_aload_n hX dX5_goOn_38 1 rfl ?_
      obtain ⟨r2, hc2, hr⟩ := z_bind hr
      refine z_callV_i (As := []) (k1 := 0) (n1 := 0) (nA := 0) hX (mX5_leaveLine hc2) dX5_goOn_39 gX5_goOn_X5_leaveLine rfl ⟨rfl, by decide, by decide, by decide +kernel⟩ ⟨by decide, by decide⟩ ⟨by decide, by decide⟩ 0 rfl rfl rfl rfl (Nat.le_of_ble_eq_true rfl) (by decide +kernel) rfl rfl (fun hg2 => ?_)
      have hf : zfr [0, 8, 13, 21, 22] h0 r2.2 := zfr_tr hf (by decide) hg2
      obtain rfl := Option.some.inj hr
      exact hQ _ _ dX5_goOn_42 hf
  have B11 : ∀ (x2 : Int) (h : HS), zfr [0, 8, 13, 21, 22] h0 h → fX5_goOn_b11 x2 h = some o → ZW G X sh_7 ad h 0 0 [(0, .ref (ad 0)), (2, .int (iI x2))] 11 [] := by
    intro x2 h hf hr
    unfold fX5_goOn_b11 at hr
    refine z_iload_n hX dX5_goOn_11 1 rfl ?_
    refine z_iconst hX dX5_goOn_12 ?_
    refine z_icmp_ne (tgt := 31) hX dX5_goOn_13 (by decide) rfl (wr_of (by decide) (by decide)) hr (fun hr => ?_) (fun hr => ?_)
    · refine z_iload_n hX dX5_goOn_31 1 rfl ?_
      refine z_lv [0] rfl ?_
      exact B32 x2 h hf hr
    · refine z_aload_n hX dX5_goOn_16 0 rfl ?_
      refine z_getR (j := 9) hX dX5_goOn_17 fl_28 0 rfl rfl ?_
      refine z_aload_n hX dX5_goOn_20 0 rfl ?_
      refine z_getI hX dX5_goOn_21 fl_56 0 rfl rfl ?_
      refine z_iconst hX dX5_goOn_24 ?_
      obtain ⟨r3, hc3, hr⟩ := z_bind hr
      refine z_callV_i (As := [.int (iI (h 0 8)), .int (iI 0)]) (k1 := 0) (n1 := 0) (nA := 2) hX (mX4_child hc3) dX5_goOn_25 gX5_goOn_X4_child rfl ⟨rfl, by decide, by decide, by decide +kernel⟩ ⟨by decide, by decide⟩ ⟨by decide, by decide⟩ 9 rfl rfl rfl rfl (Nat.le_of_ble_eq_true rfl) (by decide +kernel) rfl rfl (fun hg3 => ?_)
      refine z_goto (tgt := 32) hX dX5_goOn_28 (by decide) ?_
      refine z_lv [0] rfl ?_
      exact B32 r3 h hf hr
  unfold fX5_goOn at hr
  refine z_iload_n hX dX5_goOn_0 1 rfl ?_
  refine z_if_ne (tgt := 11) hX dX5_goOn_1 (by decide) rfl hr (fun hr => ?_) (fun hr => ?_)
  · refine z_lv [0, 2] rfl ?_
    exact B11 p2 h0 hf hr
  · refine z_iload_n hX dX5_goOn_4 2 rfl ?_
    refine z_iconst hX dX5_goOn_5 ?_
    refine z_icmp_eq (tgt := 11) hX dX5_goOn_6 (by decide) rfl (wr_of (by decide) (by decide)) hr (fun hr => ?_) (fun hr => ?_)
    · refine z_lv [0, 2] rfl ?_
      exact B11 p2 h0 hf hr
    · refine z_iconst hX dX5_goOn_9 ?_
      obtain rfl := Option.some.inj hr
      exact hQ _ _ dX5_goOn_10 hf

def fX5_digestNode_L41 : Nat → Int → Int64 → Int → HS → Option (Int64)
  | 0, _, _, _, _ => none
  | nf + 1, x3, x4, x6, h => (fX4_childCount x3 h).bind fun r1 => if wr r1 ≤ wr x6 then some x4 else (fX4_child x3 x6 h).bind fun r2 => fX5_digestNode_L41 nf x3 ((x4 * (31 : Int64)) + (iI r2).toInt64) (x6 + 1) h
def fX5_digestNode_L6 : Nat → Int → Int64 → Int → HS → Option (Int64)
  | 0, _, _, _, _ => none
  | nf + 1, x3, x4, x6, h => if (5 : Int) ≤ wr x6 then fX5_digestNode_L41 zF x3 x4 0 h else (fX4_fact x3 x6 h).bind fun r3 => fX5_digestNode_L6 nf x3 ((x4 * (31 : Int64)) + (iI r3).toInt64) (x6 + 1) h
def fX5_digestNode (p1 : Int64) (p2 : Int) (h : HS) : Option (Int64) := fX5_digestNode_L6 zF p2 p1 0 h
set_option maxRecDepth 100000 in
set_option maxHeartbeats 4000000 in
theorem mX5_digestNode {G : ZG} {l0 : Launch} {ad : Nat → Nat} {h0 : HS} {p1 : Int64} {p2 : Int} {o : Int64} (hr : fX5_digestNode p1 p2 h0 = some o) : ZMl G l0 yX5_digestNode wsX5_digestNode ({ frames := 3, cells := 0, slots := 0, locals := 64 }) [.ref (ad 0), .long p1, .int (iI p2)] sh_7 ad h0 [] o h0 := by
  refine ZMl.of (cc := cX5_digestNode) (maxL := 7) (ret := (some .long)) (own := RX5) (lv0 := [(0, .ref (ad 0)), (1, .long p1), (3, .int (iI p2))]) (by decide) rfl rfl rfl (Nat.le_of_ble_eq_true rfl) rfl ?_
  intro X hX hQ
  have hf : zfr [] h0 h0 := zfr_rf
  have fl_28 : zFld wsX5_digestNode RX5 28 5 RX5 TX5 16 2 := ⟨by decide +kernel, by decide +kernel, by decide, rfl⟩
  have B41 : ∀ (nf : Nat) (x3 : Int) (x4 : Int64) (x6 : Int), fX5_digestNode_L41 nf x3 x4 x6 h0 = some o → ZW G X sh_7 ad h0 0 0 [(0, .ref (ad 0)), (3, .int (iI x3)), (4, .long x4), (6, .int (iI x6))] 41 [] := by
    intro nf
    induction nf with
    | zero => intro x3 x4 x6 hr; exact z_none hr
    | succ n41 ih41 =>
      intro x3 x4 x6 hr
      unfold fX5_digestNode_L41 at hr
      refine z_iload hX dX5_digestNode_41 3 rfl ?_
      refine z_aload_n hX dX5_digestNode_43 0 rfl ?_
      refine z_getR (j := 9) hX dX5_digestNode_44 fl_28 0 rfl rfl ?_
      refine z_iload_n hX dX5_digestNode_47 1 rfl ?_
      obtain ⟨r1, hc1, hr⟩ := z_bind hr
      refine z_callV_i (As := [.int (iI x3)]) (k1 := 0) (n1 := 0) (nA := 1) hX (mX4_childCount hc1) dX5_digestNode_48 gX5_digestNode_X4_childCount rfl ⟨rfl, by decide, by decide, by decide +kernel⟩ ⟨by decide, by decide⟩ ⟨by decide, by decide⟩ 9 rfl rfl rfl rfl (Nat.le_of_ble_eq_true rfl) (by decide +kernel) rfl rfl (fun hg1 => ?_)
      refine z_icmp_ge (tgt := 80) hX dX5_digestNode_51 (by decide) rfl rfl hr (fun hr => ?_) (fun hr => ?_)
      · refine z_lload hX dX5_digestNode_80 2 rfl ?_
        obtain rfl := Option.some.inj hr
        exact hQ _ _ dX5_digestNode_82 hf
      · refine z_lload hX dX5_digestNode_54 2 rfl ?_
        refine z_ldc2 (v := 31) hX dX5_digestNode_56 (by decide +kernel) ?_
        refine z_lmul hX dX5_digestNode_59 ?_
        refine z_aload_n hX dX5_digestNode_60 0 rfl ?_
        refine z_getR (j := 9) hX dX5_digestNode_61 fl_28 0 rfl rfl ?_
        refine z_iload_n hX dX5_digestNode_64 1 rfl ?_
        refine z_iload hX dX5_digestNode_65 3 rfl ?_
        obtain ⟨r2, hc2, hr⟩ := z_bind hr
        refine z_callV_i (As := [.int (iI x3), .int (iI x6)]) (k1 := 0) (n1 := 0) (nA := 2) hX (mX4_child hc2) dX5_digestNode_67 gX5_digestNode_X4_child rfl ⟨rfl, by decide, by decide, by decide +kernel⟩ ⟨by decide, by decide⟩ ⟨by decide, by decide⟩ 9 rfl rfl rfl rfl (Nat.le_of_ble_eq_true rfl) (by decide +kernel) rfl rfl (fun hg2 => ?_)
        refine z_i2l hX dX5_digestNode_70 ?_
        refine z_ladd hX dX5_digestNode_71 ?_
        refine z_lstore (lv1 := [(4, .long ((x4 * (31 : Int64)) + (iI r2).toInt64)), (0, .ref (ad 0)), (3, .int (iI x3)), (6, .int (iI x6))]) hX dX5_digestNode_72 (by decide) rfl ?_
        refine z_iinc (lv1 := [(6, .int (iI (x6 + 1))), (4, .long ((x4 * (31 : Int64)) + (iI r2).toInt64)), (0, .ref (ad 0)), (3, .int (iI x3))]) hX dX5_digestNode_74 3 rfl (by decide) rfl ?_
        refine z_goto (tgt := 41) hX dX5_digestNode_77 (by decide) ?_
        refine z_lv [2, 3, 1, 0] rfl ?_
        exact ih41 x3 ((x4 * (31 : Int64)) + (iI r2).toInt64) (x6 + 1) hr
  have B6 : ∀ (nf : Nat) (x3 : Int) (x4 : Int64) (x6 : Int), fX5_digestNode_L6 nf x3 x4 x6 h0 = some o → ZW G X sh_7 ad h0 0 0 [(0, .ref (ad 0)), (3, .int (iI x3)), (4, .long x4), (6, .int (iI x6))] 6 [] := by
    intro nf
    induction nf with
    | zero => intro x3 x4 x6 hr; exact z_none hr
    | succ n6 ih6 =>
      intro x3 x4 x6 hr
      unfold fX5_digestNode_L6 at hr
      refine z_iload hX dX5_digestNode_6 3 rfl ?_
      refine z_iconst hX dX5_digestNode_8 ?_
      refine z_icmp_ge (tgt := 38) hX dX5_digestNode_9 (by decide) rfl (wr_of (by decide) (by decide)) hr (fun hr => ?_) (fun hr => ?_)
      · refine z_iconst hX dX5_digestNode_38 ?_
        refine z_istore (lv1 := [(6, .int (iI 0)), (0, .ref (ad 0)), (3, .int (iI x3)), (4, .long x4)]) hX dX5_digestNode_39 (by decide) rfl ?_
        refine z_lv [1, 2, 3, 0] rfl ?_
        exact B41 zF x3 x4 0 hr
      · refine z_lload hX dX5_digestNode_12 2 rfl ?_
        refine z_ldc2 (v := 31) hX dX5_digestNode_14 (by decide +kernel) ?_
        refine z_lmul hX dX5_digestNode_17 ?_
        refine z_aload_n hX dX5_digestNode_18 0 rfl ?_
        refine z_getR (j := 9) hX dX5_digestNode_19 fl_28 0 rfl rfl ?_
        refine z_iload_n hX dX5_digestNode_22 1 rfl ?_
        refine z_iload hX dX5_digestNode_23 3 rfl ?_
        obtain ⟨r3, hc3, hr⟩ := z_bind hr
        refine z_callV_i (As := [.int (iI x3), .int (iI x6)]) (k1 := 0) (n1 := 0) (nA := 2) hX (mX4_fact hc3) dX5_digestNode_25 gX5_digestNode_X4_fact rfl ⟨rfl, by decide, by decide, by decide +kernel⟩ ⟨by decide, by decide⟩ ⟨by decide, by decide⟩ 9 rfl rfl rfl rfl (Nat.le_of_ble_eq_true rfl) (by decide +kernel) rfl rfl (fun hg3 => ?_)
        refine z_i2l hX dX5_digestNode_28 ?_
        refine z_ladd hX dX5_digestNode_29 ?_
        refine z_lstore (lv1 := [(4, .long ((x4 * (31 : Int64)) + (iI r3).toInt64)), (0, .ref (ad 0)), (3, .int (iI x3)), (6, .int (iI x6))]) hX dX5_digestNode_30 (by decide) rfl ?_
        refine z_iinc (lv1 := [(6, .int (iI (x6 + 1))), (4, .long ((x4 * (31 : Int64)) + (iI r3).toInt64)), (0, .ref (ad 0)), (3, .int (iI x3))]) hX dX5_digestNode_32 3 rfl (by decide) rfl ?_
        refine z_goto (tgt := 6) hX dX5_digestNode_35 (by decide) ?_
        refine z_lv [2, 3, 1, 0] rfl ?_
        exact ih6 x3 ((x4 * (31 : Int64)) + (iI r3).toInt64) (x6 + 1) hr
  unfold fX5_digestNode at hr
  refine z_lload_n hX dX5_digestNode_0 1 rfl ?_
  refine z_lstore (lv1 := [(4, .long p1), (0, .ref (ad 0)), (1, .long p1), (3, .int (iI p2))]) hX dX5_digestNode_1 (by decide) rfl ?_
  refine z_iconst hX dX5_digestNode_3 ?_
  refine z_istore (lv1 := [(6, .int (iI 0)), (4, .long p1), (0, .ref (ad 0)), (1, .long p1), (3, .int (iI p2))]) hX dX5_digestNode_4 (by decide) rfl ?_
  refine z_lv [2, 4, 1, 0] rfl ?_
  exact B6 zF p2 p1 0 hr

def fX5_empty (h : HS) : Option (Int × HS) := (fX3_size h).bind fun r1 => (fX3_wipe h).bind fun r2 => some (r1, r2)
set_option maxRecDepth 100000 in
set_option maxHeartbeats 4000000 in
theorem mX5_empty {G : ZG} {l0 : Launch} {ad : Nat → Nat} {h0 : HS} {o : Int × HS} (hr : fX5_empty h0 = some o) : ZMi G l0 yX5_empty wsX5_empty ({ frames := 1, cells := 0, slots := 0, locals := 20 }) [.ref (ad 0)] sh_7 ad h0 [19] o.1 o.2 := by
  refine ZMi.of (cc := cX5_empty) (maxL := 2) (ret := (some .int)) (own := RX5) (lv0 := [(0, .ref (ad 0))]) (by decide) rfl rfl rfl (Nat.le_of_ble_eq_true rfl) rfl ?_
  intro X hX hQ
  have hf : zfr [19] h0 h0 := zfr_rf
  have fl_49 : zFld wsX5_empty RX5 49 5 RX5 TX5 16 6 := ⟨by decide +kernel, by decide +kernel, by decide, rfl⟩
  unfold fX5_empty at hr
  refine z_aload_n hX dX5_empty_0 0 rfl ?_
  refine z_getR (j := 19) hX dX5_empty_1 fl_49 0 rfl rfl ?_
  obtain ⟨r1, hc1, hr⟩ := z_bind hr
  refine z_callV_i (As := []) (k1 := 0) (n1 := 0) (nA := 0) hX (mX3_size hc1) dX5_empty_4 gX5_empty_X3_size rfl ⟨rfl, by decide, by decide, by decide +kernel⟩ ⟨by decide, by decide⟩ ⟨by decide, by decide⟩ 19 rfl rfl rfl rfl (Nat.le_of_ble_eq_true rfl) (by decide +kernel) rfl rfl (fun hg1 => ?_)
  refine z_istore_n (lv1 := [(1, .int (iI r1)), (0, .ref (ad 0))]) hX dX5_empty_7 (by decide) rfl ?_
  refine z_aload_n hX dX5_empty_8 1 rfl ?_
  refine z_getR (j := 19) hX dX5_empty_9 fl_49 0 rfl rfl ?_
  obtain ⟨r2, hc2, hr⟩ := z_bind hr
  refine z_callV_v (As := []) (k1 := 0) (n1 := 0) (nA := 0) hX (mX3_wipe hc2) dX5_empty_12 gX5_empty_X3_wipe rfl ⟨rfl, by decide, by decide, by decide +kernel⟩ ⟨by decide, by decide⟩ ⟨by decide, by decide⟩ 19 rfl rfl rfl rfl (Nat.le_of_ble_eq_true rfl) (by decide +kernel) rfl rfl (fun hg2 => ?_)
  have hf : zfr [19] h0 r2 := zfr_tr hf (by decide) hg2
  refine z_iload_n hX dX5_empty_15 0 rfl ?_
  obtain rfl := Option.some.inj hr
  exact hQ _ _ dX5_empty_16 hf

def fX5_read_b58 (x1 : Int) (s1 : Int) (h : HS) : Option (Int × HS) := some (x1, (hs h 0 13 s1))
def fX5_read (h : HS) : Option (Int × HS) := (fX3_size h).bind fun r1 => (fX5_judge 0 r1 h).bind fun r2 => if wr r2.1 = 0 then some (r2.1, (hs (hs (hs r2.2 0 13 (-1)) 0 14 (((hs r2.2 0 13 (-1))) 0 11)) 0 15 (((hs (hs r2.2 0 13 (-1)) 0 14 (((hs r2.2 0 13 (-1))) 0 11))) 0 12))) else if wr r2.1 = (1 : Int) then (fX2_misfit r2.2).bind fun r3 => fX5_read_b58 r2.1 r3 r2.2 else fX5_read_b58 r2.1 0 r2.2
set_option maxRecDepth 100000 in
set_option maxHeartbeats 4000000 in
theorem mX5_read {G : ZG} {l0 : Launch} {ad : Nat → Nat} {h0 : HS} {o : Int × HS} (hr : fX5_read h0 = some o) : ZMi G l0 yX5_read wsX5_read ({ frames := 6, cells := 0, slots := 0, locals := 166 }) [.ref (ad 0)] sh_7 ad h0 [0, 8, 18] o.1 o.2 := by
  refine ZMi.of (cc := cX5_read) (maxL := 2) (ret := (some .int)) (own := RX5) (lv0 := [(0, .ref (ad 0))]) (by decide) rfl rfl rfl (Nat.le_of_ble_eq_true rfl) rfl ?_
  intro X hX hQ
  have hf : zfr [0, 8, 18] h0 h0 := zfr_rf
  have fl_35 : zFld wsX5_read RX5 35 5 RX5 TX5 16 3 := ⟨by decide +kernel, by decide +kernel, by decide, rfl⟩
  have fl_49 : zFld wsX5_read RX5 49 5 RX5 TX5 16 6 := ⟨by decide +kernel, by decide +kernel, by decide, rfl⟩
  have fl_67 : zFld wsX5_read RX5 67 5 RX5 TX5 16 11 := ⟨by decide +kernel, by decide +kernel, by decide, rfl⟩
  have fl_70 : zFld wsX5_read RX5 70 5 RX5 TX5 16 12 := ⟨by decide +kernel, by decide +kernel, by decide, rfl⟩
  have fl_73 : zFld wsX5_read RX5 73 5 RX5 TX5 16 13 := ⟨by decide +kernel, by decide +kernel, by decide, rfl⟩
  have fl_76 : zFld wsX5_read RX5 76 5 RX5 TX5 16 14 := ⟨by decide +kernel, by decide +kernel, by decide, rfl⟩
  have fl_79 : zFld wsX5_read RX5 79 5 RX5 TX5 16 15 := ⟨by decide +kernel, by decide +kernel, by decide, rfl⟩
  have pu_X5_13 : zPut TX5 16 13 tyX5 .int := ⟨tyX5_ok, nmX5, rfl, by decide +kernel⟩
  have pu_X5_14 : zPut TX5 16 14 tyX5 .int := ⟨tyX5_ok, nmX5, rfl, by decide +kernel⟩
  have pu_X5_15 : zPut TX5 16 15 tyX5 .int := ⟨tyX5_ok, nmX5, rfl, by decide +kernel⟩
  have B58 : ∀ (x1 : Int) (s1 : Int) (h : HS), zfr [0, 8, 18] h0 h → fX5_read_b58 x1 s1 h = some o → ZW G X sh_7 ad h 0 0 [(1, .int (iI x1))] 58 [.int (iI s1), .ref (ad 0)] := by
    intro x1 s1 h hf hr
    unfold fX5_read_b58 at hr
    refine z_putI hX dX5_read_58 fl_73 pu_X5_13 0 rfl rfl ?_
    have hf : zfr [0, 8, 18] h0 (hs h 0 13 s1) := zfr_hs hf (by decide)
    refine z_iload_n hX dX5_read_61 0 rfl ?_
    obtain rfl := Option.some.inj hr
    exact hQ _ _ dX5_read_62 hf
  unfold fX5_read at hr
  refine z_aload_n hX dX5_read_0 0 rfl ?_
  refine z_iconst hX dX5_read_1 ?_
  refine z_aload_n hX dX5_read_2 0 rfl ?_
  refine z_getR (j := 19) hX dX5_read_3 fl_49 0 rfl rfl ?_
  obtain ⟨r1, hc1, hr⟩ := z_bind hr
  refine z_callV_i (As := []) (k1 := 0) (n1 := 0) (nA := 0) hX (mX3_size hc1) dX5_read_6 gX5_read_X3_size rfl ⟨rfl, by decide, by decide, by decide +kernel⟩ ⟨by decide, by decide⟩ ⟨by decide, by decide⟩ 19 rfl rfl rfl rfl (Nat.le_of_ble_eq_true rfl) (by decide +kernel) rfl rfl (fun hg1 => ?_)
  obtain ⟨r2, hc2, hr⟩ := z_bind hr
  refine z_callV_i (As := [.int (iI 0), .int (iI r1)]) (k1 := 0) (n1 := 0) (nA := 2) hX (mX5_judge hc2) dX5_read_9 gX5_read_X5_judge rfl ⟨rfl, by decide, by decide, by decide +kernel⟩ ⟨by decide, by decide⟩ ⟨by decide, by decide⟩ 0 rfl rfl rfl rfl (Nat.le_of_ble_eq_true rfl) (by decide +kernel) rfl rfl (fun hg2 => ?_)
  have hf : zfr [0, 8, 18] h0 r2.2 := zfr_tr hf (by decide) hg2
  refine z_istore_n (lv1 := [(1, .int (iI r2.1)), (0, .ref (ad 0))]) hX dX5_read_12 (by decide) rfl ?_
  refine z_iload_n hX dX5_read_13 0 rfl ?_
  refine z_if_ne (tgt := 41) hX dX5_read_14 (by decide) rfl hr (fun hr => ?_) (fun hr => ?_)
  · refine z_aload_n hX dX5_read_41 1 rfl ?_
    refine z_iload_n hX dX5_read_42 0 rfl ?_
    refine z_iconst hX dX5_read_43 ?_
    refine z_icmp_ne (tgt := 57) hX dX5_read_44 (by decide) rfl (wr_of (by decide) (by decide)) hr (fun hr => ?_) (fun hr => ?_)
    · refine z_iconst hX dX5_read_57 ?_
      refine z_lv [0] rfl ?_
      exact B58 r2.1 0 r2.2 hf hr
    · refine z_aload_n hX dX5_read_47 1 rfl ?_
      refine z_getR (j := 18) hX dX5_read_48 fl_35 0 rfl rfl ?_
      obtain ⟨r3, hc3, hr⟩ := z_bind hr
      refine z_callV_i (As := []) (k1 := 0) (n1 := 0) (nA := 0) hX (mX2_misfit hc3) dX5_read_51 gX5_read_X2_misfit rfl ⟨rfl, by decide, by decide, by decide +kernel⟩ ⟨by decide, by decide⟩ ⟨by decide, by decide⟩ 18 rfl rfl rfl rfl (Nat.le_of_ble_eq_true rfl) (by decide +kernel) rfl rfl (fun hg3 => ?_)
      refine z_goto (tgt := 58) hX dX5_read_54 (by decide) ?_
      refine z_lv [0] rfl ?_
      exact B58 r2.1 r3 r2.2 hf hr
  · refine z_aload_n hX dX5_read_17 1 rfl ?_
    refine z_iconst hX dX5_read_18 ?_
    refine z_putI hX dX5_read_19 fl_73 pu_X5_13 0 rfl rfl ?_
    have hf : zfr [0, 8, 18] h0 (hs r2.2 0 13 (-1)) := zfr_hs hf (by decide)
    refine z_aload_n hX dX5_read_22 1 rfl ?_
    refine z_aload_n hX dX5_read_23 1 rfl ?_
    refine z_getI hX dX5_read_24 fl_67 0 rfl rfl ?_
    refine z_putI hX dX5_read_27 fl_76 pu_X5_14 0 rfl rfl ?_
    have hf : zfr [0, 8, 18] h0 (hs (hs r2.2 0 13 (-1)) 0 14 (((hs r2.2 0 13 (-1))) 0 11)) := zfr_hs hf (by decide)
    refine z_aload_n hX dX5_read_30 1 rfl ?_
    refine z_aload_n hX dX5_read_31 1 rfl ?_
    refine z_getI hX dX5_read_32 fl_70 0 rfl rfl ?_
    refine z_putI hX dX5_read_35 fl_79 pu_X5_15 0 rfl rfl ?_
    have hf : zfr [0, 8, 18] h0 (hs (hs (hs r2.2 0 13 (-1)) 0 14 (((hs r2.2 0 13 (-1))) 0 11)) 0 15 (((hs (hs r2.2 0 13 (-1)) 0 14 (((hs r2.2 0 13 (-1))) 0 11))) 0 12)) := zfr_hs hf (by decide)
    refine z_goto (tgt := 61) hX dX5_read_38 (by decide) ?_
    refine z_iload_n hX dX5_read_61 0 rfl ?_
    obtain rfl := Option.some.inj hr
    exact hQ _ _ dX5_read_62 hf

def fX5_clear (h : HS) : Option (Int × HS) := (fX4_size h).bind fun r1 => (fX5_beginAnew h).bind fun r2 => some (r1, r2)
set_option maxRecDepth 100000 in
set_option maxHeartbeats 4000000 in
theorem mX5_clear {G : ZG} {l0 : Launch} {ad : Nat → Nat} {h0 : HS} {o : Int × HS} (hr : fX5_clear h0 = some o) : ZMi G l0 yX5_clear wsX5_clear ({ frames := 5, cells := 0, slots := 0, locals := 108 }) [.ref (ad 0)] sh_7 ad h0 [0, 8, 9, 10, 11, 12, 13, 14, 15, 16, 17, 23] o.1 o.2 := by
  refine ZMi.of (cc := cX5_clear) (maxL := 2) (ret := (some .int)) (own := RX5) (lv0 := [(0, .ref (ad 0))]) (by decide) rfl rfl rfl (Nat.le_of_ble_eq_true rfl) rfl ?_
  intro X hX hQ
  have hf : zfr [0, 8, 9, 10, 11, 12, 13, 14, 15, 16, 17, 23] h0 h0 := zfr_rf
  have fl_28 : zFld wsX5_clear RX5 28 5 RX5 TX5 16 2 := ⟨by decide +kernel, by decide +kernel, by decide, rfl⟩
  unfold fX5_clear at hr
  refine z_aload_n hX dX5_clear_0 0 rfl ?_
  refine z_getR (j := 9) hX dX5_clear_1 fl_28 0 rfl rfl ?_
  obtain ⟨r1, hc1, hr⟩ := z_bind hr
  refine z_callV_i (As := []) (k1 := 0) (n1 := 0) (nA := 0) hX (mX4_size hc1) dX5_clear_4 gX5_clear_X4_size rfl ⟨rfl, by decide, by decide, by decide +kernel⟩ ⟨by decide, by decide⟩ ⟨by decide, by decide⟩ 9 rfl rfl rfl rfl (Nat.le_of_ble_eq_true rfl) (by decide +kernel) rfl rfl (fun hg1 => ?_)
  refine z_istore_n (lv1 := [(1, .int (iI r1)), (0, .ref (ad 0))]) hX dX5_clear_7 (by decide) rfl ?_
  refine z_aload_n hX dX5_clear_8 1 rfl ?_
  obtain ⟨r2, hc2, hr⟩ := z_bind hr
  refine z_callV_v (As := []) (k1 := 0) (n1 := 0) (nA := 0) hX (mX5_beginAnew hc2) dX5_clear_9 gX5_clear_X5_beginAnew rfl ⟨rfl, by decide, by decide, by decide +kernel⟩ ⟨by decide, by decide⟩ ⟨by decide, by decide⟩ 0 rfl rfl rfl rfl (Nat.le_of_ble_eq_true rfl) (by decide +kernel) rfl rfl (fun hg2 => ?_)
  have hf : zfr [0, 8, 9, 10, 11, 12, 13, 14, 15, 16, 17, 23] h0 r2 := zfr_tr hf (by decide) hg2
  refine z_iload_n hX dX5_clear_12 0 rfl ?_
  obtain rfl := Option.some.inj hr
  exact hQ _ _ dX5_clear_13 hf

def fX5_readGame_b151 (x1 : Int) (h : HS) : Option (Int × HS) := if wr x1 = 0 then if wr (h 0 9) ≤ 0 then some (x1, h) else (fX3_size h).bind fun r1 => some (8, (hs h 0 13 r1)) else some (x1, h)
def fX5_readGame_b142 (k23 : Int → Int → HS → Option (Int × HS)) (x1 : Int) (x2 : Int) (s1 : Int) (h : HS) : Option (Int × HS) := k23 x1 (x2 + 1) (hs h 0 13 s1)
def fX5_readGame_b132 (k23 : Int → Int → HS → Option (Int × HS)) (x1 : Int) (x2 : Int) (h : HS) : Option (Int × HS) := if wr x1 = 0 then fX5_readGame_b142 k23 x1 x2 (-1) h else fX5_readGame_b142 k23 x1 x2 x2 h
def fX5_readGame_b127 (k23 : Int → Int → HS → Option (Int × HS)) (x1 : Int) (x2 : Int) (h : HS) : Option (Int × HS) := if (0 : Int) = 0 ∨ (0 : Int) = 1 then fX5_readGame_b132 k23 x1 x2 (hs h 0 10 0) else none
def fX5_readGame_L23 : Nat → Int → Int → HS → Option (Int × HS)
  | 0, _, _, _ => none
  | nf + 1, x1, x2, h => (fX3_size h).bind fun r2 => if wr r2 ≤ wr x2 then fX5_readGame_b151 x1 h else if wr x1 = 0 then (fX3_get x2 h).bind fun r3 => if wr r3 = (40 : Int) then (fX5_openVariation h).bind fun r10 => fX5_readGame_b132 (fun a0 a1 hh => fX5_readGame_L23 nf a0 a1 hh) r10.1 x2 r10.2 else (fX3_get x2 h).bind fun r4 => if wr r4 = (41 : Int) then (fX5_closeVariation h).bind fun r9 => fX5_readGame_b132 (fun a0 a1 hh => fX5_readGame_L23 nf a0 a1 hh) r9.1 x2 r9.2 else (fX3_isWordStart x2 h).bind fun r5 => if wr r5 = 0 then fX5_readGame_b132 (fun a0 a1 hh => fX5_readGame_L23 nf a0 a1 hh) x1 x2 h else (fX3_wordEnd x2 h).bind fun r6 => (fX5_judge x2 r6 h).bind fun r7 => if wr r7.1 = 0 then (fX5_follow (r7.2 0 11) (r7.2 0 12) r7.2).bind fun r8 => if wr r8.1 = 0 then fX5_readGame_b127 (fun a0 a1 hh => fX5_readGame_L23 nf a0 a1 hh) 9 x2 r8.2 else fX5_readGame_b127 (fun a0 a1 hh => fX5_readGame_L23 nf a0 a1 hh) r7.1 x2 r8.2 else fX5_readGame_b127 (fun a0 a1 hh => fX5_readGame_L23 nf a0 a1 hh) r7.1 x2 r7.2 else fX5_readGame_b151 x1 h
def fX5_readGame (h : HS) : Option (Int × HS) := (fX5_beginAnew h).bind fun r11 => if (0 : Int) = 0 ∨ (0 : Int) = 1 then fX5_readGame_L23 zF 0 0 (hs (hs (hs r11 0 9 0) 0 10 0) 0 13 (-1)) else none
set_option maxRecDepth 100000 in
set_option maxHeartbeats 4000000 in
theorem mX5_readGame {G : ZG} {l0 : Launch} {ad : Nat → Nat} {h0 : HS} {o : Int × HS} (hr : fX5_readGame h0 = some o) : ZMi G l0 yX5_readGame wsX5_readGame ({ frames := 6, cells := 0, slots := 0, locals := 166 }) [.ref (ad 0)] sh_7 ad h0 [0, 8, 9, 10, 11, 12, 13, 14, 15, 16, 17, 18, 23, 24] o.1 o.2 := by
  refine ZMi.of (cc := cX5_readGame) (maxL := 3) (ret := (some .int)) (own := RX5) (lv0 := [(0, .ref (ad 0))]) (by decide) rfl rfl rfl (Nat.le_of_ble_eq_true rfl) rfl ?_
  intro X hX hQ
  have hf : zfr [0, 8, 9, 10, 11, 12, 13, 14, 15, 16, 17, 18, 23, 24] h0 h0 := zfr_rf
  have fl_49 : zFld wsX5_readGame RX5 49 5 RX5 TX5 16 6 := ⟨by decide +kernel, by decide +kernel, by decide, rfl⟩
  have fl_60 : zFld wsX5_readGame RX5 60 5 RX5 TX5 16 9 := ⟨by decide +kernel, by decide +kernel, by decide, rfl⟩
  have fl_63 : zFld wsX5_readGame RX5 63 5 RX5 TX5 16 10 := ⟨by decide +kernel, by decide +kernel, by decide, rfl⟩
  have fl_67 : zFld wsX5_readGame RX5 67 5 RX5 TX5 16 11 := ⟨by decide +kernel, by decide +kernel, by decide, rfl⟩
  have fl_70 : zFld wsX5_readGame RX5 70 5 RX5 TX5 16 12 := ⟨by decide +kernel, by decide +kernel, by decide, rfl⟩
  have fl_73 : zFld wsX5_readGame RX5 73 5 RX5 TX5 16 13 := ⟨by decide +kernel, by decide +kernel, by decide, rfl⟩
  have pu_X5_9 : zPut TX5 16 9 tyX5 .int := ⟨tyX5_ok, nmX5, rfl, by decide +kernel⟩
  have pu_X5_10 : zPut TX5 16 10 tyX5 .boolean := ⟨tyX5_ok, nmX5, rfl, by decide +kernel⟩
  have pu_X5_13 : zPut TX5 16 13 tyX5 .int := ⟨tyX5_ok, nmX5, rfl, by decide +kernel⟩
  have B151 : ∀ (x1 : Int) (h : HS), zfr [0, 8, 9, 10, 11, 12, 13, 14, 15, 16, 17, 18, 23, 24] h0 h → fX5_readGame_b151 x1 h = some o → ZW G X sh_7 ad h 0 0 [(0, .ref (ad 0)), (1, .int (iI x1))] 151 [] := by
    intro x1 h hf hr
    unfold fX5_readGame_b151 at hr
    refine z_iload_n hX dX5_readGame_151 1 rfl ?_
    refine z_if_ne (tgt := 176) hX dX5_readGame_152 (by decide) rfl hr (fun hr => ?_) (fun hr => ?_)
    · refine z_iload_n hX dX5_readGame_176 1 rfl ?_
      obtain rfl := Option.some.inj hr
      exact hQ _ _ dX5_readGame_177 hf
    · refine z_aload_n hX dX5_readGame_155 0 rfl ?_
      refine z_getI hX dX5_readGame_156 fl_60 0 rfl rfl ?_
      refine z_if_le (tgt := 176) hX dX5_readGame_159 (by decide) rfl hr (fun hr => ?_) (fun hr => ?_)
      · refine z_iload_n hX dX5_readGame_176 1 rfl ?_
        obtain rfl := Option.some.inj hr
        exact hQ _ _ dX5_readGame_177 hf
      · refine z_bipush hX dX5_readGame_162 (by decide +kernel) ?_
        refine z_istore_n (lv1 := [(1, .int (iI 8)), (0, .ref (ad 0))]) hX dX5_readGame_164 (by decide) rfl ?_
        refine z_aload_n hX dX5_readGame_165 1 rfl ?_
        refine z_aload_n hX dX5_readGame_166 1 rfl ?_
        refine z_getR (j := 19) hX dX5_readGame_167 fl_49 0 rfl rfl ?_
        obtain ⟨r1, hc1, hr⟩ := z_bind hr
        refine z_callV_i (As := []) (k1 := 0) (n1 := 0) (nA := 0) hX (mX3_size hc1) dX5_readGame_170 gX5_readGame_X3_size rfl ⟨rfl, by decide, by decide, by decide +kernel⟩ ⟨by decide, by decide⟩ ⟨by decide, by decide⟩ 19 rfl rfl rfl rfl (Nat.le_of_ble_eq_true rfl) (by decide +kernel) rfl rfl (fun hg1 => ?_)
        refine z_putI hX dX5_readGame_173 fl_73 pu_X5_13 0 rfl rfl ?_
        have hf : zfr [0, 8, 9, 10, 11, 12, 13, 14, 15, 16, 17, 18, 23, 24] h0 (hs h 0 13 r1) := zfr_hs hf (by decide)
        refine z_iload_n hX dX5_readGame_176 0 rfl ?_
        obtain rfl := Option.some.inj hr
        exact hQ _ _ dX5_readGame_177 hf
  have B23 : ∀ (nf : Nat) (x1 : Int) (x2 : Int) (h : HS), zfr [0, 8, 9, 10, 11, 12, 13, 14, 15, 16, 17, 18, 23, 24] h0 h → fX5_readGame_L23 nf x1 x2 h = some o → ZW G X sh_7 ad h 0 0 [(0, .ref (ad 0)), (1, .int (iI x1)), (2, .int (iI x2))] 23 [] := by
    intro nf
    induction nf with
    | zero => intro x1 x2 h hf hr; exact z_none hr
    | succ n23 ih23 =>
      intro x1 x2 h hf hr
      have B142 : ∀ (x1 : Int) (x2 : Int) (s1 : Int) (h : HS), zfr [0, 8, 9, 10, 11, 12, 13, 14, 15, 16, 17, 18, 23, 24] h0 h → fX5_readGame_b142 (fun a0 a1 hh => fX5_readGame_L23 n23 a0 a1 hh) x1 x2 s1 h = some o → ZW G X sh_7 ad h 0 0 [(0, .ref (ad 0)), (1, .int (iI x1)), (2, .int (iI x2))] 142 [.int (iI s1), .ref (ad 0)] := by
        intro x1 x2 s1 h hf hr
        unfold fX5_readGame_b142 at hr
        refine z_putI hX dX5_readGame_142 fl_73 pu_X5_13 0 rfl rfl ?_
        have hf : zfr [0, 8, 9, 10, 11, 12, 13, 14, 15, 16, 17, 18, 23, 24] h0 (hs h 0 13 s1) := zfr_hs hf (by decide)
        refine z_iinc (lv1 := [(2, .int (iI (x2 + 1))), (0, .ref (ad 0)), (1, .int (iI x1))]) hX dX5_readGame_145 2 rfl (by decide) rfl ?_
        refine z_goto (tgt := 23) hX dX5_readGame_148 (by decide) ?_
        refine z_lv [1, 2, 0] rfl ?_
        exact ih23 x1 (x2 + 1) (hs h 0 13 s1) hf hr
      have B132 : ∀ (x1 : Int) (x2 : Int) (h : HS), zfr [0, 8, 9, 10, 11, 12, 13, 14, 15, 16, 17, 18, 23, 24] h0 h → fX5_readGame_b132 (fun a0 a1 hh => fX5_readGame_L23 n23 a0 a1 hh) x1 x2 h = some o → ZW G X sh_7 ad h 0 0 [(0, .ref (ad 0)), (1, .int (iI x1)), (2, .int (iI x2))] 132 [] := by
        intro x1 x2 h hf hr
        unfold fX5_readGame_b132 at hr
        refine z_aload_n hX dX5_readGame_132 0 rfl ?_
        refine z_iload_n hX dX5_readGame_133 1 rfl ?_
        refine z_if_ne (tgt := 141) hX dX5_readGame_134 (by decide) rfl hr (fun hr => ?_) (fun hr => ?_)
        · refine z_iload_n hX dX5_readGame_141 2 rfl ?_
          exact B142 x1 x2 x2 h hf hr
        · refine z_iconst hX dX5_readGame_137 ?_
          refine z_goto (tgt := 142) hX dX5_readGame_138 (by decide) ?_
          exact B142 x1 x2 (-1) h hf hr
      have B127 : ∀ (x1 : Int) (x2 : Int) (h : HS), zfr [0, 8, 9, 10, 11, 12, 13, 14, 15, 16, 17, 18, 23, 24] h0 h → fX5_readGame_b127 (fun a0 a1 hh => fX5_readGame_L23 n23 a0 a1 hh) x1 x2 h = some o → ZW G X sh_7 ad h 0 0 [(0, .ref (ad 0)), (1, .int (iI x1)), (2, .int (iI x2))] 127 [] := by
        intro x1 x2 h hf hr
        unfold fX5_readGame_b127 at hr
        refine z_aload_n hX dX5_readGame_127 0 rfl ?_
        refine z_iconst hX dX5_readGame_128 ?_
        refine z_putZ hX dX5_readGame_129 fl_63 pu_X5_10 0 rfl rfl hr (fun hr => ?_)
        have hf : zfr [0, 8, 9, 10, 11, 12, 13, 14, 15, 16, 17, 18, 23, 24] h0 (hs h 0 10 0) := zfr_hs hf (by decide)
        exact B132 x1 x2 (hs h 0 10 0) hf hr
      unfold fX5_readGame_L23 at hr
      refine z_iload_n hX dX5_readGame_23 2 rfl ?_
      refine z_aload_n hX dX5_readGame_24 0 rfl ?_
      refine z_getR (j := 19) hX dX5_readGame_25 fl_49 0 rfl rfl ?_
      obtain ⟨r2, hc2, hr⟩ := z_bind hr
      refine z_callV_i (As := []) (k1 := 0) (n1 := 0) (nA := 0) hX (mX3_size hc2) dX5_readGame_28 gX5_readGame_X3_size rfl ⟨rfl, by decide, by decide, by decide +kernel⟩ ⟨by decide, by decide⟩ ⟨by decide, by decide⟩ 19 rfl rfl rfl rfl (Nat.le_of_ble_eq_true rfl) (by decide +kernel) rfl rfl (fun hg2 => ?_)
      refine z_icmp_ge (tgt := 151) hX dX5_readGame_31 (by decide) rfl rfl hr (fun hr => ?_) (fun hr => ?_)
      · refine z_lv [0, 1] rfl ?_
        exact B151 x1 h hf hr
      · refine z_iload_n hX dX5_readGame_34 1 rfl ?_
        refine z_if_ne (tgt := 151) hX dX5_readGame_35 (by decide) rfl hr (fun hr => ?_) (fun hr => ?_)
        · refine z_lv [0, 1] rfl ?_
          exact B151 x1 h hf hr
        · refine z_aload_n hX dX5_readGame_38 0 rfl ?_
          refine z_getR (j := 19) hX dX5_readGame_39 fl_49 0 rfl rfl ?_
          refine z_iload_n hX dX5_readGame_42 2 rfl ?_
          obtain ⟨r3, hc3, hr⟩ := z_bind hr
          refine z_callV_i (As := [.int (iI x2)]) (k1 := 0) (n1 := 0) (nA := 1) hX (mX3_get hc3) dX5_readGame_43 gX5_readGame_X3_get rfl ⟨rfl, by decide, by decide, by decide +kernel⟩ ⟨by decide, by decide⟩ ⟨by decide, by decide⟩ 19 rfl rfl rfl rfl (Nat.le_of_ble_eq_true rfl) (by decide +kernel) rfl rfl (fun hg3 => ?_)
          refine z_bipush hX dX5_readGame_46 (by decide +kernel) ?_
          refine z_icmp_ne (tgt := 59) hX dX5_readGame_48 (by decide) rfl (wr_of (by decide) (by decide)) hr (fun hr => ?_) (fun hr => ?_)
          · refine z_aload_n hX dX5_readGame_59 0 rfl ?_
            refine z_getR (j := 19) hX dX5_readGame_60 fl_49 0 rfl rfl ?_
            refine z_iload_n hX dX5_readGame_63 2 rfl ?_
            obtain ⟨r4, hc4, hr⟩ := z_bind hr
            refine z_callV_i (As := [.int (iI x2)]) (k1 := 0) (n1 := 0) (nA := 1) hX (mX3_get hc4) dX5_readGame_64 gX5_readGame_X3_get rfl ⟨rfl, by decide, by decide, by decide +kernel⟩ ⟨by decide, by decide⟩ ⟨by decide, by decide⟩ 19 rfl rfl rfl rfl (Nat.le_of_ble_eq_true rfl) (by decide +kernel) rfl rfl (fun hg4 => ?_)
            refine z_bipush hX dX5_readGame_67 (by decide +kernel) ?_
            refine z_icmp_ne (tgt := 80) hX dX5_readGame_69 (by decide) rfl (wr_of (by decide) (by decide)) hr (fun hr => ?_) (fun hr => ?_)
            · refine z_aload_n hX dX5_readGame_80 0 rfl ?_
              refine z_getR (j := 19) hX dX5_readGame_81 fl_49 0 rfl rfl ?_
              refine z_iload_n hX dX5_readGame_84 2 rfl ?_
              obtain ⟨r5, hc5, hr⟩ := z_bind hr
              refine z_callV_i (As := [.int (iI x2)]) (k1 := 0) (n1 := 0) (nA := 1) hX (mX3_isWordStart hc5) dX5_readGame_85 gX5_readGame_X3_isWordStart rfl ⟨rfl, by decide, by decide, by decide +kernel⟩ ⟨by decide, by decide⟩ ⟨by decide, by decide⟩ 19 rfl rfl rfl rfl (Nat.le_of_ble_eq_true rfl) (by decide +kernel) rfl rfl (fun hg5 => ?_)
              refine z_if_eq (tgt := 132) hX dX5_readGame_88 (by decide) rfl hr (fun hr => ?_) (fun hr => ?_)
              · exact B132 x1 x2 h hf hr
              · refine z_aload_n hX dX5_readGame_91 0 rfl ?_
                refine z_iload_n hX dX5_readGame_92 2 rfl ?_
                refine z_aload_n hX dX5_readGame_93 0 rfl ?_
                refine z_getR (j := 19) hX dX5_readGame_94 fl_49 0 rfl rfl ?_
                refine z_iload_n hX dX5_readGame_97 2 rfl ?_
                obtain ⟨r6, hc6, hr⟩ := z_bind hr
                refine z_callV_i (As := [.int (iI x2)]) (k1 := 0) (n1 := 0) (nA := 1) hX (mX3_wordEnd hc6) dX5_readGame_98 gX5_readGame_X3_wordEnd rfl ⟨rfl, by decide, by decide, by decide +kernel⟩ ⟨by decide, by decide⟩ ⟨by decide, by decide⟩ 19 rfl rfl rfl rfl (Nat.le_of_ble_eq_true rfl) (by decide +kernel) rfl rfl (fun hg6 => ?_)
                obtain ⟨r7, hc7, hr⟩ := z_bind hr
                refine z_callV_i (As := [.int (iI x2), .int (iI r6)]) (k1 := 0) (n1 := 0) (nA := 2) hX (mX5_judge hc7) dX5_readGame_101 gX5_readGame_X5_judge rfl ⟨rfl, by decide, by decide, by decide +kernel⟩ ⟨by decide, by decide⟩ ⟨by decide, by decide⟩ 0 rfl rfl rfl rfl (Nat.le_of_ble_eq_true rfl) (by decide +kernel) rfl rfl (fun hg7 => ?_)
                have hf : zfr [0, 8, 9, 10, 11, 12, 13, 14, 15, 16, 17, 18, 23, 24] h0 r7.2 := zfr_tr hf (by decide) hg7
                refine z_istore_n (lv1 := [(1, .int (iI r7.1)), (0, .ref (ad 0)), (2, .int (iI x2))]) hX dX5_readGame_104 (by decide) rfl ?_
                refine z_iload_n hX dX5_readGame_105 0 rfl ?_
                refine z_if_ne (tgt := 127) hX dX5_readGame_106 (by decide) rfl hr (fun hr => ?_) (fun hr => ?_)
                · refine z_lv [1, 0, 2] rfl ?_
                  exact B127 r7.1 x2 r7.2 hf hr
                · refine z_aload_n hX dX5_readGame_109 1 rfl ?_
                  refine z_aload_n hX dX5_readGame_110 1 rfl ?_
                  refine z_getI hX dX5_readGame_111 fl_67 0 rfl rfl ?_
                  refine z_aload_n hX dX5_readGame_114 1 rfl ?_
                  refine z_getI hX dX5_readGame_115 fl_70 0 rfl rfl ?_
                  obtain ⟨r8, hc8, hr⟩ := z_bind hr
                  refine z_callV_i (As := [.int (iI (r7.2 0 11)), .int (iI (r7.2 0 12))]) (k1 := 0) (n1 := 0) (nA := 2) hX (mX5_follow hc8) dX5_readGame_118 gX5_readGame_X5_follow rfl ⟨rfl, by decide, by decide, by decide +kernel⟩ ⟨by decide, by decide⟩ ⟨by decide, by decide⟩ 0 rfl rfl rfl rfl (Nat.le_of_ble_eq_true rfl) (by decide +kernel) rfl rfl (fun hg8 => ?_)
                  have hf : zfr [0, 8, 9, 10, 11, 12, 13, 14, 15, 16, 17, 18, 23, 24] h0 r8.2 := zfr_tr hf (by decide) hg8
                  refine z_if_ne (tgt := 127) hX dX5_readGame_121 (by decide) rfl hr (fun hr => ?_) (fun hr => ?_)
                  · refine z_lv [1, 0, 2] rfl ?_
                    exact B127 r7.1 x2 r8.2 hf hr
                  · refine z_bipush hX dX5_readGame_124 (by decide +kernel) ?_
                    refine z_istore_n (lv1 := [(1, .int (iI 9)), (0, .ref (ad 0)), (2, .int (iI x2))]) hX dX5_readGame_126 (by decide) rfl ?_
                    refine z_lv [1, 0, 2] rfl ?_
                    exact B127 9 x2 r8.2 hf hr
            · refine z_aload_n hX dX5_readGame_72 0 rfl ?_
              obtain ⟨r9, hc9, hr⟩ := z_bind hr
              refine z_callV_i (As := []) (k1 := 0) (n1 := 0) (nA := 0) hX (mX5_closeVariation hc9) dX5_readGame_73 gX5_readGame_X5_closeVariation rfl ⟨rfl, by decide, by decide, by decide +kernel⟩ ⟨by decide, by decide⟩ ⟨by decide, by decide⟩ 0 rfl rfl rfl rfl (Nat.le_of_ble_eq_true rfl) (by decide +kernel) rfl rfl (fun hg9 => ?_)
              have hf : zfr [0, 8, 9, 10, 11, 12, 13, 14, 15, 16, 17, 18, 23, 24] h0 r9.2 := zfr_tr hf (by decide) hg9
              refine z_istore_n (lv1 := [(1, .int (iI r9.1)), (0, .ref (ad 0)), (2, .int (iI x2))]) hX dX5_readGame_76 (by decide) rfl ?_
              refine z_goto (tgt := 132) hX dX5_readGame_77 (by decide) ?_
              refine z_lv [1, 0, 2] rfl ?_
              exact B132 r9.1 x2 r9.2 hf hr
          · refine z_aload_n hX dX5_readGame_51 0 rfl ?_
            obtain ⟨r10, hc10, hr⟩ := z_bind hr
            refine z_callV_i (As := []) (k1 := 0) (n1 := 0) (nA := 0) hX (mX5_openVariation hc10) dX5_readGame_52 gX5_readGame_X5_openVariation rfl ⟨rfl, by decide, by decide, by decide +kernel⟩ ⟨by decide, by decide⟩ ⟨by decide, by decide⟩ 0 rfl rfl rfl rfl (Nat.le_of_ble_eq_true rfl) (by decide +kernel) rfl rfl (fun hg10 => ?_)
            have hf : zfr [0, 8, 9, 10, 11, 12, 13, 14, 15, 16, 17, 18, 23, 24] h0 r10.2 := zfr_tr hf (by decide) hg10
            refine z_istore_n (lv1 := [(1, .int (iI r10.1)), (0, .ref (ad 0)), (2, .int (iI x2))]) hX dX5_readGame_55 (by decide) rfl ?_
            refine z_goto (tgt := 132) hX dX5_readGame_56 (by decide) ?_
            refine z_lv [1, 0, 2] rfl ?_
            exact B132 r10.1 x2 r10.2 hf hr
  unfold fX5_readGame at hr
  refine z_aload_n hX dX5_readGame_0 0 rfl ?_
  obtain ⟨r11, hc11, hr⟩ := z_bind hr
  refine z_callV_v (As := []) (k1 := 0) (n1 := 0) (nA := 0) hX (mX5_beginAnew hc11) dX5_readGame_1 gX5_readGame_X5_beginAnew rfl ⟨rfl, by decide, by decide, by decide +kernel⟩ ⟨by decide, by decide⟩ ⟨by decide, by decide⟩ 0 rfl rfl rfl rfl (Nat.le_of_ble_eq_true rfl) (by decide +kernel) rfl rfl (fun hg11 => ?_)
  have hf : zfr [0, 8, 9, 10, 11, 12, 13, 14, 15, 16, 17, 18, 23, 24] h0 r11 := zfr_tr hf (by decide) hg11
  refine z_aload_n hX dX5_readGame_4 0 rfl ?_
  refine z_iconst hX dX5_readGame_5 ?_
  refine z_putI hX dX5_readGame_6 fl_60 pu_X5_9 0 rfl rfl ?_
  have hf : zfr [0, 8, 9, 10, 11, 12, 13, 14, 15, 16, 17, 18, 23, 24] h0 (hs r11 0 9 0) := zfr_hs hf (by decide)
  refine z_aload_n hX dX5_readGame_9 0 rfl ?_
  refine z_iconst hX dX5_readGame_10 ?_
  refine z_putZ hX dX5_readGame_11 fl_63 pu_X5_10 0 rfl rfl hr (fun hr => ?_)
  have hf : zfr [0, 8, 9, 10, 11, 12, 13, 14, 15, 16, 17, 18, 23, 24] h0 (hs (hs r11 0 9 0) 0 10 0) := zfr_hs hf (by decide)
  refine z_aload_n hX dX5_readGame_14 0 rfl ?_
  refine z_iconst hX dX5_readGame_15 ?_
  refine z_putI hX dX5_readGame_16 fl_73 pu_X5_13 0 rfl rfl ?_
  have hf : zfr [0, 8, 9, 10, 11, 12, 13, 14, 15, 16, 17, 18, 23, 24] h0 (hs (hs (hs r11 0 9 0) 0 10 0) 0 13 (-1)) := zfr_hs hf (by decide)
  refine z_iconst hX dX5_readGame_19 ?_
  refine z_istore_n (lv1 := [(1, .int (iI 0)), (0, .ref (ad 0))]) hX dX5_readGame_20 (by decide) rfl ?_
  refine z_iconst hX dX5_readGame_21 ?_
  refine z_istore_n (lv1 := [(2, .int (iI 0)), (1, .int (iI 0)), (0, .ref (ad 0))]) hX dX5_readGame_22 (by decide) rfl ?_
  refine z_lv [2, 1, 0] rfl ?_
  exact B23 zF 0 0 (hs (hs (hs r11 0 9 0) 0 10 0) 0 13 (-1)) hf hr

