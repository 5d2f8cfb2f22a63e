def fX5_write_b14 (h : HS) : Option (Int × Int × HS) := some (1, 0, h)
def fX5_write (p1 : Int) (p2 : Int) (h : HS) : Option (Int × Int × HS) := (fX5_isSquare p1 h).bind fun r1 => if wr r1 = 0 then fX5_write_b14 h else (fX5_isSquare p2 h).bind fun r2 => if wr r2 = 0 then fX5_write_b14 h else (fX5_reasonAgainst p1 p2 h).bind fun r3 => if wr r3.1 = 0 then (fX3_wipe r3.2).bind fun r4 => (fX5_writeMove p1 p2 r4).bind fun r5 => (fX3_size r5).bind fun r6 => some (0, r6, r5) else some (3, 0, r3.2)
set_option maxRecDepth 100000 in
set_option maxHeartbeats 4000000 in
theorem mX5_write {G : ZG} {l0 : Launch} {ad : Nat → Nat} {h0 : HS} {p1 : Int} {p2 : Int} {o : Int × Int × HS} (hst : l0.stackTraces = false) (hr : fX5_write p1 p2 h0 = some o) : ZTi G l0 yX5_write wsX5_write ({ frames := 6, cells := 1, slots := 6, locals := 162 }) [.ref (ad 0), .int (iI p1), .int (iI p2)] sh_7 ad ad h0 [8, 19, 20] o.1 o.2.1 o.2.2 := by
  refine ZTi.of (cc := cX5_write) (maxL := 3) (ret := (some .int)) (lv0 := [(0, .ref (ad 0)), (1, .int (iI p1)), (2, .int (iI p2))]) hst (by decide) rfl rfl rfl (Nat.le_of_ble_eq_true rfl) rfl ?_
  intro X hX hQ hT
  have hf : zfr [8, 19, 20] h0 h0 := zfr_rf
  have fl_49 : zFld wsX5_write RX5 49 5 RX5 TX5 16 6 := ⟨by decide +kernel, by decide +kernel, by decide, rfl⟩
  have B14 : ∀ (h : HS), zfr [8, 19, 20] h0 h → fX5_write_b14 h = some o → ZW G X sh_7 ad h 0 0 [] 14 [] := by
    intro h hf hr
    unfold fX5_write_b14 at hr
    obtain rfl := Option.some.inj hr
    have th : zThr wsX5_write 110 143 114 1 zMsg_143 := ⟨by decide +kernel, by decide +kernel, ⟨by decide +kernel, by decide +kernel, by decide⟩, by decide +kernel, by decide +kernel, by decide +kernel⟩
    exact hT _ 14 110 143 114 _ _ zMsg_143 _ th dX5_write_14 dX5_write_17 dX5_write_18 dX5_write_20 dX5_write_23 (by decide) (Nat.le_of_ble_eq_true rfl) (by decide) (by decide) (by decide : (1 : Int) ≠ 0) hf
  unfold fX5_write at hr
  refine z_iload_n hX dX5_write_0 1 rfl ?_
  obtain ⟨r1, hc1, hr⟩ := z_bind hr
  refine z_callS_i (As := [.int (iI p1)]) (k1 := 0) (n1 := 0) (nA := 1) hX (mX5_isSquare hc1) dX5_write_1 gX5_write_X5_isSquare rfl ⟨by decide, by decide, by decide +kernel⟩ ⟨by decide, by decide⟩ ⟨by decide, by decide⟩ rfl rfl (Nat.le_of_ble_eq_true rfl) (by decide +kernel) rfl rfl (fun hg1 => ?_)
  refine z_if_eq (tgt := 14) hX dX5_write_4 (by decide) rfl hr (fun hr => ?_) (fun hr => ?_)
  · refine z_lv [] rfl ?_
    exact B14 h0 hf hr
  · refine z_iload_n hX dX5_write_7 2 rfl ?_
    obtain ⟨r2, hc2, hr⟩ := z_bind hr
    refine z_callS_i (As := [.int (iI p2)]) (k1 := 0) (n1 := 0) (nA := 1) hX (mX5_isSquare hc2) dX5_write_8 gX5_write_X5_isSquare rfl ⟨by decide, by decide, by decide +kernel⟩ ⟨by decide, by decide⟩ ⟨by decide, by decide⟩ rfl rfl (Nat.le_of_ble_eq_true rfl) (by decide +kernel) rfl rfl (fun hg2 => ?_)
    refine z_if_ne (tgt := 24) hX dX5_write_11 (by decide) rfl hr (fun hr => ?_) (fun hr => ?_)
    · refine z_aload_n hX dX5_write_24 0 rfl ?_
      refine z_iload_n hX dX5_write_25 1 rfl ?_
      refine z_iload_n hX dX5_write_26 2 rfl ?_
      obtain ⟨r3, hc3, hr⟩ := z_bind hr
      refine z_callV_i (As := [.int (iI p1), .int (iI p2)]) (k1 := 0) (n1 := 0) (nA := 2) hX (mX5_reasonAgainst hc3) dX5_write_27 gX5_write_X5_reasonAgainst rfl ⟨rfl, by decide, by decide, by decide +kernel⟩ ⟨by decide, by decide⟩ ⟨by decide, by decide⟩ 0 rfl rfl rfl rfl (Nat.le_of_ble_eq_true rfl) (by decide +kernel) rfl rfl (fun hg3 => ?_)
      have hf : zfr [8, 19, 20] h0 r3.2 := zfr_tr hf (by decide) hg3
      refine z_if_eq (tgt := 43) hX dX5_write_30 (by decide) rfl hr (fun hr => ?_) (fun hr => ?_)
      · refine z_aload_n hX dX5_write_43 0 rfl ?_
        refine z_getR (j := 19) hX dX5_write_44 fl_49 0 rfl rfl ?_
        obtain ⟨r4, hc4, hr⟩ := z_bind hr
        refine z_callV_v (As := []) (k1 := 0) (n1 := 0) (nA := 0) hX (mX3_wipe hc4) dX5_write_47 gX5_write_X3_wipe rfl ⟨rfl, by decide, by decide, by decide +kernel⟩ ⟨by decide, by decide⟩ ⟨by decide, by decide⟩ 19 rfl rfl rfl rfl (Nat.le_of_ble_eq_true rfl) (by decide +kernel) rfl rfl (fun hg4 => ?_)
        have hf : zfr [8, 19, 20] h0 r4 := zfr_tr hf (by decide) hg4
        refine z_aload_n hX dX5_write_50 0 rfl ?_
        refine z_aload_n hX dX5_write_51 0 rfl ?_
        refine z_getR (j := 19) hX dX5_write_52 fl_49 0 rfl rfl ?_
        refine z_iload_n hX dX5_write_55 1 rfl ?_
        refine z_iload_n hX dX5_write_56 2 rfl ?_
        obtain ⟨r5, hc5, hr⟩ := z_bind hr
        refine z_callV_v (As := [.ref (ad 19), .int (iI p1), .int (iI p2)]) (k1 := 0) (n1 := 0) (nA := 3) hX (mX5_writeMove hc5) dX5_write_57 gX5_write_X5_writeMove rfl ⟨rfl, by decide, by decide, by decide +kernel⟩ ⟨by decide, by decide⟩ ⟨by decide, by decide⟩ 0 rfl rfl rfl rfl (Nat.le_of_ble_eq_true rfl) (by decide +kernel) rfl rfl (fun hg5 => ?_)
        have hf : zfr [8, 19, 20] h0 r5 := zfr_tr hf (by decide) hg5
        refine z_aload_n hX dX5_write_60 0 rfl ?_
        refine z_getR (j := 19) hX dX5_write_61 fl_49 0 rfl rfl ?_
        obtain ⟨r6, hc6, hr⟩ := z_bind hr
        refine z_callV_i (As := []) (k1 := 0) (n1 := 0) (nA := 0) hX (mX3_size hc6) dX5_write_64 gX5_write_X3_size rfl ⟨rfl, by decide, by decide, by decide +kernel⟩ ⟨by decide, by decide⟩ ⟨by decide, by decide⟩ 19 rfl rfl rfl rfl (Nat.le_of_ble_eq_true rfl) (by decide +kernel) rfl rfl (fun hg6 => ?_)
        refine z_widen (k1 := 1) (n1 := 6) (by decide) (by decide) ?_
        obtain rfl := Option.some.inj hr
        exact hQ _ _ dX5_write_67 rfl hf
      · obtain rfl := Option.some.inj hr
        have th : zThr wsX5_write 98 163 102 3 zMsg_163 := ⟨by decide +kernel, by decide +kernel, ⟨by decide +kernel, by decide +kernel, by decide⟩, by decide +kernel, by decide +kernel, by decide +kernel⟩
        exact hT _ 33 98 163 102 _ _ zMsg_163 _ th dX5_write_33 dX5_write_36 dX5_write_37 dX5_write_39 dX5_write_42 (by decide) (Nat.le_of_ble_eq_true rfl) (by decide) (by decide) (by decide : (3 : Int) ≠ 0) hf
    · refine z_lv [] rfl ?_
      exact B14 h0 hf hr

def fX5_byteAt_b15 (h : HS) : Option (Int × Int × HS) := some (1, 0, h)
def fX5_byteAt (p1 : Int) (h : HS) : Option (Int × Int × HS) := if wr p1 < 0 then fX5_byteAt_b15 h else (fX3_size h).bind fun r1 => if wr p1 < wr r1 then (fX3_get p1 h).bind fun r2 => some (0, r2, h) else fX5_byteAt_b15 h
set_option maxRecDepth 100000 in
set_option maxHeartbeats 4000000 in
theorem mX5_byteAt {G : ZG} {l0 : Launch} {ad : Nat → Nat} {h0 : HS} {p1 : Int} {o : Int × Int × HS} (hst : l0.stackTraces = false) (hr : fX5_byteAt p1 h0 = some o) : ZTi G l0 yX5_byteAt wsX5_byteAt ({ frames := 6, cells := 1, slots := 6, locals := 90 }) [.ref (ad 0), .int (iI p1)] sh_7 ad ad h0 [] o.1 o.2.1 o.2.2 := by
  refine ZTi.of (cc := cX5_byteAt) (maxL := 2) (ret := (some .int)) (lv0 := [(0, .ref (ad 0)), (1, .int (iI p1))]) hst (by decide) rfl rfl rfl (Nat.le_of_ble_eq_true rfl) rfl ?_
  intro X hX hQ hT
  have hf : zfr [] h0 h0 := zfr_rf
  have fl_49 : zFld wsX5_byteAt RX5 49 5 RX5 TX5 16 6 := ⟨by decide +kernel, by decide +kernel, by decide, rfl⟩
  have B15 : ∀ (h : HS), zfr [] h0 h → fX5_byteAt_b15 h = some o → ZW G X sh_7 ad h 0 0 [] 15 [] := by
    intro h hf hr
    unfold fX5_byteAt_b15 at hr
    obtain rfl := Option.some.inj hr
    have th : zThr wsX5_byteAt 110 202 114 1 zMsg_202 := ⟨by decide +kernel, by decide +kernel, ⟨by decide +kernel, by decide +kernel, by decide⟩, by decide +kernel, by decide +kernel, by decide +kernel⟩
    exact hT _ 15 110 202 114 _ _ zMsg_202 _ th dX5_byteAt_15 dX5_byteAt_18 dX5_byteAt_19 dX5_byteAt_21 dX5_byteAt_24 (by decide) (Nat.le_of_ble_eq_true rfl) (by decide) (by decide) (by decide : (1 : Int) ≠ 0) hf
  unfold fX5_byteAt at hr
  refine z_iload_n hX dX5_byteAt_0 1 rfl ?_
  refine z_if_lt (tgt := 15) hX dX5_byteAt_1 (by decide) rfl hr (fun hr => ?_) (fun hr => ?_)
  · refine z_lv [] rfl ?_
    exact B15 h0 hf hr
  · refine z_iload_n hX dX5_byteAt_4 1 rfl ?_
    refine z_aload_n hX dX5_byteAt_5 0 rfl ?_
    refine z_getR (j := 19) hX dX5_byteAt_6 fl_49 0 rfl rfl ?_
    obtain ⟨r1, hc1, hr⟩ := z_bind hr
    refine z_callV_i (As := []) (k1 := 0) (n1 := 0) (nA := 0) hX (mX3_size hc1) dX5_byteAt_9 gX5_byteAt_X3_size rfl ⟨rfl, by decide, by decide, by decide +kernel⟩ ⟨by decide, by decide⟩ ⟨by decide, by decide⟩ 19 rfl rfl rfl rfl (Nat.le_of_ble_eq_true rfl) (by decide +kernel) rfl rfl (fun hg1 => ?_)
    refine z_icmp_lt (tgt := 25) hX dX5_byteAt_12 (by decide) rfl rfl hr (fun hr => ?_) (fun hr => ?_)
    · refine z_aload_n hX dX5_byteAt_25 0 rfl ?_
      refine z_getR (j := 19) hX dX5_byteAt_26 fl_49 0 rfl rfl ?_
      refine z_iload_n hX dX5_byteAt_29 1 rfl ?_
      obtain ⟨r2, hc2, hr⟩ := z_bind hr
      refine z_callV_i (As := [.int (iI p1)]) (k1 := 0) (n1 := 0) (nA := 1) hX (mX3_get hc2) dX5_byteAt_30 gX5_byteAt_X3_get rfl ⟨rfl, by decide, by decide, by decide +kernel⟩ ⟨by decide, by decide⟩ ⟨by decide, by decide⟩ 19 rfl rfl rfl rfl (Nat.le_of_ble_eq_true rfl) (by decide +kernel) rfl rfl (fun hg2 => ?_)
      refine z_widen (k1 := 1) (n1 := 6) (by decide) (by decide) ?_
      obtain rfl := Option.some.inj hr
      exact hQ _ _ dX5_byteAt_33 rfl hf
    · refine z_lv [] rfl ?_
      exact B15 h0 hf hr

def fX5_node_b20 (h : HS) : Option (Int × Int × HS) := some (1, 0, h)
def fX5_node (p1 : Int) (p2 : Int) (h : HS) : Option (Int × Int × HS) := (fX4_has p1 h).bind fun r1 => if wr r1 = 0 then fX5_node_b20 h else if wr p2 < 0 then fX5_node_b20 h else if wr p2 < (5 : Int) then (fX4_fact p1 p2 h).bind fun r2 => some (0, r2, h) else fX5_node_b20 h
set_option maxRecDepth 100000 in
set_option maxHeartbeats 4000000 in
theorem mX5_node {G : ZG} {l0 : Launch} {ad : Nat → Nat} {h0 : HS} {p1 : Int} {p2 : Int} {o : Int × Int × HS} (hst : l0.stackTraces = false) (hr : fX5_node p1 p2 h0 = some o) : ZTi G l0 yX5_node wsX5_node ({ frames := 6, cells := 1, slots := 6, locals := 90 }) [.ref (ad 0), .int (iI p1), .int (iI p2)] sh_7 ad ad h0 [] o.1 o.2.1 o.2.2 := by
  refine ZTi.of (cc := cX5_node) (maxL := 3) (ret := (some .int)) (lv0 := [(0, .ref (ad 0)), (1, .int (iI p1)), (2, .int (iI p2))]) hst (by decide) rfl rfl rfl (Nat.le_of_ble_eq_true rfl) rfl ?_
  intro X hX hQ hT
  have hf : zfr [] h0 h0 := zfr_rf
  have fl_28 : zFld wsX5_node RX5 28 5 RX5 TX5 16 2 := ⟨by decide +kernel, by decide +kernel, by decide, rfl⟩
  have B20 : ∀ (h : HS), zfr [] h0 h → fX5_node_b20 h = some o → ZW G X sh_7 ad h 0 0 [] 20 [] := by
    intro h hf hr
    unfold fX5_node_b20 at hr
    obtain rfl := Option.some.inj hr
    have th : zThr wsX5_node 110 208 114 1 zMsg_208 := ⟨by decide +kernel, by decide +kernel, ⟨by decide +kernel, by decide +kernel, by decide⟩, by decide +kernel, by decide +kernel, by decide +kernel⟩
    exact hT _ 20 110 208 114 _ _ zMsg_208 _ th dX5_node_20 dX5_node_23 dX5_node_24 dX5_node_26 dX5_node_29 (by decide) (Nat.le_of_ble_eq_true rfl) (by decide) (by decide) (by decide : (1 : Int) ≠ 0) hf
  unfold fX5_node at hr
  refine z_aload_n hX dX5_node_0 0 rfl ?_
  refine z_getR (j := 9) hX dX5_node_1 fl_28 0 rfl rfl ?_
  refine z_iload_n hX dX5_node_4 1 rfl ?_
  obtain ⟨r1, hc1, hr⟩ := z_bind hr
  refine z_callV_i (As := [.int (iI p1)]) (k1 := 0) (n1 := 0) (nA := 1) hX (mX4_has hc1) dX5_node_5 gX5_node_X4_has rfl ⟨rfl, by decide, by decide, by decide +kernel⟩ ⟨by decide, by decide⟩ ⟨by decide, by decide⟩ 9 rfl rfl rfl rfl (Nat.le_of_ble_eq_true rfl) (by decide +kernel) rfl rfl (fun hg1 => ?_)
  refine z_if_eq (tgt := 20) hX dX5_node_8 (by decide) rfl hr (fun hr => ?_) (fun hr => ?_)
  · refine z_lv [] rfl ?_
    exact B20 h0 hf hr
  · refine z_iload_n hX dX5_node_11 2 rfl ?_
    refine z_if_lt (tgt := 20) hX dX5_node_12 (by decide) rfl hr (fun hr => ?_) (fun hr => ?_)
    · refine z_lv [] rfl ?_
      exact B20 h0 hf hr
    · refine z_iload_n hX dX5_node_15 2 rfl ?_
      refine z_iconst hX dX5_node_16 ?_
      refine z_icmp_lt (tgt := 30) hX dX5_node_17 (by decide) rfl (wr_of (by decide) (by decide)) hr (fun hr => ?_) (fun hr => ?_)
      · refine z_aload_n hX dX5_node_30 0 rfl ?_
        refine z_getR (j := 9) hX dX5_node_31 fl_28 0 rfl rfl ?_
        refine z_iload_n hX dX5_node_34 1 rfl ?_
        refine z_iload_n hX dX5_node_35 2 rfl ?_
        obtain ⟨r2, hc2, hr⟩ := z_bind hr
        refine z_callV_i (As := [.int (iI p1), .int (iI p2)]) (k1 := 0) (n1 := 0) (nA := 2) hX (mX4_fact hc2) dX5_node_36 gX5_node_X4_fact rfl ⟨rfl, by decide, by decide, by decide +kernel⟩ ⟨by decide, by decide⟩ ⟨by decide, by decide⟩ 9 rfl rfl rfl rfl (Nat.le_of_ble_eq_true rfl) (by decide +kernel) rfl rfl (fun hg2 => ?_)
        refine z_widen (k1 := 1) (n1 := 6) (by decide) (by decide) ?_
        obtain rfl := Option.some.inj hr
        exact hQ _ _ dX5_node_39 rfl hf
      · refine z_lv [] rfl ?_
        exact B20 h0 hf hr

def fX5_continuation_b27 (h : HS) : Option (Int × Int × HS) := some (1, 0, h)
def fX5_continuation (p1 : Int) (p2 : Int) (h : HS) : Option (Int × Int × HS) := (fX4_has p1 h).bind fun r1 => if wr r1 = 0 then fX5_continuation_b27 h else if wr p2 < 0 then fX5_continuation_b27 h else (fX4_childCount p1 h).bind fun r2 => if wr p2 < wr r2 then (fX4_child p1 p2 h).bind fun r3 => some (0, r3, h) else fX5_continuation_b27 h
set_option maxRecDepth 100000 in
set_option maxHeartbeats 4000000 in
theorem mX5_continuation {G : ZG} {l0 : Launch} {ad : Nat → Nat} {h0 : HS} {p1 : Int} {p2 : Int} {o : Int × Int × HS} (hst : l0.stackTraces = false) (hr : fX5_continuation p1 p2 h0 = some o) : ZTi G l0 yX5_continuation wsX5_continuation ({ frames := 6, cells := 1, slots := 6, locals := 90 }) [.ref (ad 0), .int (iI p1), .int (iI p2)] sh_7 ad ad h0 [] o.1 o.2.1 o.2.2 := by
  refine ZTi.of (cc := cX5_continuation) (maxL := 3) (ret := (some .int)) (lv0 := [(0, .ref (ad 0)), (1, .int (iI p1)), (2, .int (iI p2))]) hst (by decide) rfl rfl rfl (Nat.le_of_ble_eq_true rfl) rfl ?_
  intro X hX hQ hT
  have hf : zfr [] h0 h0 := zfr_rf
  have fl_28 : zFld wsX5_continuation RX5 28 5 RX5 TX5 16 2 := ⟨by decide +kernel, by decide +kernel, by decide, rfl⟩
  have B27 : ∀ (h : HS), zfr [] h0 h → fX5_continuation_b27 h = some o → ZW G X sh_7 ad h 0 0 [] 27 [] := by
    intro h hf hr
    unfold fX5_continuation_b27 at hr
    obtain rfl := Option.some.inj hr
    have th : zThr wsX5_continuation 110 216 114 1 zMsg_216 := ⟨by decide +kernel, by decide +kernel, ⟨by decide +kernel, by decide +kernel, by decide⟩, by decide +kernel, by decide +kernel, by decide +kernel⟩
    exact hT _ 27 110 216 114 _ _ zMsg_216 _ th dX5_continuation_27 dX5_continuation_30 dX5_continuation_31 dX5_continuation_33 dX5_continuation_36 (by decide) (Nat.le_of_ble_eq_true rfl) (by decide) (by decide) (by decide : (1 : Int) ≠ 0) hf
  unfold fX5_continuation at hr
  refine z_aload_n hX dX5_continuation_0 0 rfl ?_
  refine z_getR (j := 9) hX dX5_continuation_1 fl_28 0 rfl rfl ?_
  refine z_iload_n hX dX5_continuation_4 1 rfl ?_
  obtain ⟨r1, hc1, hr⟩ := z_bind hr
  refine z_callV_i (As := [.int (iI p1)]) (k1 := 0) (n1 := 0) (nA := 1) hX (mX4_has hc1) dX5_continuation_5 gX5_continuation_X4_has rfl ⟨rfl, by decide, by decide, by decide +kernel⟩ ⟨by decide, by decide⟩ ⟨by decide, by decide⟩ 9 rfl rfl rfl rfl (Nat.le_of_ble_eq_true rfl) (by decide +kernel) rfl rfl (fun hg1 => ?_)
  refine z_if_eq (tgt := 27) hX dX5_continuation_8 (by decide) rfl hr (fun hr => ?_) (fun hr => ?_)
  · refine z_lv [] rfl ?_
    exact B27 h0 hf hr
  · refine z_iload_n hX dX5_continuation_11 2 rfl ?_
    refine z_if_lt (tgt := 27) hX dX5_continuation_12 (by decide) rfl hr (fun hr => ?_) (fun hr => ?_)
    · refine z_lv [] rfl ?_
      exact B27 h0 hf hr
    · refine z_iload_n hX dX5_continuation_15 2 rfl ?_
      refine z_aload_n hX dX5_continuation_16 0 rfl ?_
      refine z_getR (j := 9) hX dX5_continuation_17 fl_28 0 rfl rfl ?_
      refine z_iload_n hX dX5_continuation_20 1 rfl ?_
      obtain ⟨r2, hc2, hr⟩ := z_bind hr
      refine z_callV_i (As := [.int (iI p1)]) (k1 := 0) (n1 := 0) (nA := 1) hX (mX4_childCount hc2) dX5_continuation_21 gX5_continuation_X4_childCount rfl ⟨rfl, by decide, by decide, by decide +kernel⟩ ⟨by decide, by decide⟩ ⟨by decide, by decide⟩ 9 rfl rfl rfl rfl (Nat.le_of_ble_eq_true rfl) (by decide +kernel) rfl rfl (fun hg2 => ?_)
      refine z_icmp_lt (tgt := 37) hX dX5_continuation_24 (by decide) rfl rfl hr (fun hr => ?_) (fun hr => ?_)
      · refine z_aload_n hX dX5_continuation_37 0 rfl ?_
        refine z_getR (j := 9) hX dX5_continuation_38 fl_28 0 rfl rfl ?_
        refine z_iload_n hX dX5_continuation_41 1 rfl ?_
        refine z_iload_n hX dX5_continuation_42 2 rfl ?_
        obtain ⟨r3, hc3, hr⟩ := z_bind hr
        refine z_callV_i (As := [.int (iI p1), .int (iI p2)]) (k1 := 0) (n1 := 0) (nA := 2) hX (mX4_child hc3) dX5_continuation_43 gX5_continuation_X4_child rfl ⟨rfl, by decide, by decide, by decide +kernel⟩ ⟨by decide, by decide⟩ ⟨by decide, by decide⟩ 9 rfl rfl rfl rfl (Nat.le_of_ble_eq_true rfl) (by decide +kernel) rfl rfl (fun hg3 => ?_)
        refine z_widen (k1 := 1) (n1 := 6) (by decide) (by decide) ?_
        obtain rfl := Option.some.inj hr
        exact hQ _ _ dX5_continuation_46 rfl hf
      · refine z_lv [] rfl ?_
        exact B27 h0 hf hr

def fX5_goTo (p1 : Int) (h : HS) : Option (Int × Int × HS) := (fX4_has p1 h).bind fun r1 => if wr r1 = 0 then some (1, 0, h) else (fX5_visit p1 h).bind fun r2 => (fX5_turn r2).bind fun r3 => some (0, r3, r2)
set_option maxRecDepth 100000 in
set_option maxHeartbeats 4000000 in
theorem mX5_goTo {G : ZG} {l0 : Launch} {ad : Nat → Nat} {h0 : HS} {p1 : Int} {o : Int × Int × HS} (hst : l0.stackTraces = false) (hr : fX5_goTo p1 h0 = some o) : ZTi G l0 yX5_goTo wsX5_goTo ({ frames := 6, cells := 1, slots := 6, locals := 90 }) [.ref (ad 0), .int (iI p1)] sh_7 ad ad h0 [0, 8, 13, 23] o.1 o.2.1 o.2.2 := by
  refine ZTi.of (cc := cX5_goTo) (maxL := 2) (ret := (some .int)) (lv0 := [(0, .ref (ad 0)), (1, .int (iI p1))]) hst (by decide) rfl rfl rfl (Nat.le_of_ble_eq_true rfl) rfl ?_
  intro X hX hQ hT
  have hf : zfr [0, 8, 13, 23] h0 h0 := zfr_rf
  have fl_28 : zFld wsX5_goTo RX5 28 5 RX5 TX5 16 2 := ⟨by decide +kernel, by decide +kernel, by decide, rfl⟩
  unfold fX5_goTo at hr
  refine z_aload_n hX dX5_goTo_0 0 rfl ?_
  refine z_getR (j := 9) hX dX5_goTo_1 fl_28 0 rfl rfl ?_
  refine z_iload_n hX dX5_goTo_4 1 rfl ?_
  obtain ⟨r1, hc1, hr⟩ := z_bind hr
  refine z_callV_i (As := [.int (iI p1)]) (k1 := 0) (n1 := 0) (nA := 1) hX (mX4_has hc1) dX5_goTo_5 gX5_goTo_X4_has rfl ⟨rfl, by decide, by decide, by decide +kernel⟩ ⟨by decide, by decide⟩ ⟨by decide, by decide⟩ 9 rfl rfl rfl rfl (Nat.le_of_ble_eq_true rfl) (by decide +kernel) rfl rfl (fun hg1 => ?_)
  refine z_if_ne (tgt := 21) hX dX5_goTo_8 (by decide) rfl hr (fun hr => ?_) (fun hr => ?_)
  · refine z_aload_n hX dX5_goTo_21 0 rfl ?_
    refine z_iload_n hX dX5_goTo_22 1 rfl ?_
    obtain ⟨r2, hc2, hr⟩ := z_bind hr
    refine z_callV_v (As := [.int (iI p1)]) (k1 := 0) (n1 := 0) (nA := 1) hX (mX5_visit hc2) dX5_goTo_23 gX5_goTo_X5_visit rfl ⟨rfl, by decide, by decide, by decide +kernel⟩ ⟨by decide, by decide⟩ ⟨by decide, by decide⟩ 0 rfl rfl rfl rfl (Nat.le_of_ble_eq_true rfl) (by decide +kernel) rfl rfl (fun hg2 => ?_)
    have hf : zfr [0, 8, 13, 23] h0 r2 := zfr_tr hf (by decide) hg2
    refine z_aload_n hX dX5_goTo_26 0 rfl ?_
    obtain ⟨r3, hc3, hr⟩ := z_bind hr
    refine z_callV_i (As := []) (k1 := 0) (n1 := 0) (nA := 0) hX (mX5_turn hc3) dX5_goTo_27 gX5_goTo_X5_turn rfl ⟨rfl, by decide, by decide, by decide +kernel⟩ ⟨by decide, by decide⟩ ⟨by decide, by decide⟩ 0 rfl rfl rfl rfl (Nat.le_of_ble_eq_true rfl) (by decide +kernel) rfl rfl (fun hg3 => ?_)
    refine z_widen (k1 := 1) (n1 := 6) (by decide) (by decide) ?_
    obtain rfl := Option.some.inj hr
    exact hQ _ _ dX5_goTo_30 rfl hf
  · obtain rfl := Option.some.inj hr
    have th : zThr wsX5_goTo 110 221 114 1 zMsg_221 := ⟨by decide +kernel, by decide +kernel, ⟨by decide +kernel, by decide +kernel, by decide⟩, by decide +kernel, by decide +kernel, by decide +kernel⟩
    exact hT _ 11 110 221 114 _ _ zMsg_221 _ th dX5_goTo_11 dX5_goTo_14 dX5_goTo_15 dX5_goTo_17 dX5_goTo_20 (by decide) (Nat.le_of_ble_eq_true rfl) (by decide) (by decide) (by decide : (1 : Int) ≠ 0) hf

def fX5_promote_b15 (h : HS) : Option (Int × Int × HS) := some (1, 0, h)
def fX5_promote (p1 : Int) (h : HS) : Option (Int × Int × HS) := (fX4_has p1 h).bind fun r1 => if wr r1 = 0 then fX5_promote_b15 h else if wr p1 = 0 then fX5_promote_b15 h else (fX4_makeMain p1 h).bind fun r2 => some (0, r2.1, r2.2)
set_option maxRecDepth 100000 in
set_option maxHeartbeats 4000000 in
theorem mX5_promote {G : ZG} {l0 : Launch} {ad : Nat → Nat} {h0 : HS} {p1 : Int} {o : Int × Int × HS} (hst : l0.stackTraces = false) (hr : fX5_promote p1 h0 = some o) : ZTi G l0 yX5_promote wsX5_promote ({ frames := 6, cells := 1, slots := 6, locals := 92 }) [.ref (ad 0), .int (iI p1)] sh_7 ad ad h0 [16, 17] o.1 o.2.1 o.2.2 := by
  refine ZTi.of (cc := cX5_promote) (maxL := 2) (ret := (some .int)) (lv0 := [(0, .ref (ad 0)), (1, .int (iI p1))]) hst (by decide) rfl rfl rfl (Nat.le_of_ble_eq_true rfl) rfl ?_
  intro X hX hQ hT
  have hf : zfr [16, 17] h0 h0 := zfr_rf
  have fl_28 : zFld wsX5_promote RX5 28 5 RX5 TX5 16 2 := ⟨by decide +kernel, by decide +kernel, by decide, rfl⟩
  have B15 : ∀ (h : HS), zfr [16, 17] h0 h → fX5_promote_b15 h = some o → ZW G X sh_7 ad h 0 0 [] 15 [] := by
    intro h hf hr
    unfold fX5_promote_b15 at hr
    obtain rfl := Option.some.inj hr
    have th : zThr wsX5_promote 110 226 114 1 zMsg_226 := ⟨by decide +kernel, by decide +kernel, ⟨by decide +kernel, by decide +kernel, by decide⟩, by decide +kernel, by decide +kernel, by decide +kernel⟩
    exact hT _ 15 110 226 114 _ _ zMsg_226 _ th dX5_promote_15 dX5_promote_18 dX5_promote_19 dX5_promote_21 dX5_promote_24 (by decide) (Nat.le_of_ble_eq_true rfl) (by decide) (by decide) (by decide : (1 : Int) ≠ 0) hf
  unfold fX5_promote at hr
  refine z_aload_n hX dX5_promote_0 0 rfl ?_
  refine z_getR (j := 9) hX dX5_promote_1 fl_28 0 rfl rfl ?_
  refine z_iload_n hX dX5_promote_4 1 rfl ?_
  obtain ⟨r1, hc1, hr⟩ := z_bind hr
  refine z_callV_i (As := [.int (iI p1)]) (k1 := 0) (n1 := 0) (nA := 1) hX (mX4_has hc1) dX5_promote_5 gX5_promote_X4_has rfl ⟨rfl, by decide, by decide, by decide +kernel⟩ ⟨by decide, by decide⟩ ⟨by decide, by decide⟩ 9 rfl rfl rfl rfl (Nat.le_of_ble_eq_true rfl) (by decide +kernel) rfl rfl (fun hg1 => ?_)
  refine z_if_eq (tgt := 15) hX dX5_promote_8 (by decide) rfl hr (fun hr => ?_) (fun hr => ?_)
  · refine z_lv [] rfl ?_
    exact B15 h0 hf hr
  · refine z_iload_n hX dX5_promote_11 1 rfl ?_
    refine z_if_ne (tgt := 25) hX dX5_promote_12 (by decide) rfl hr (fun hr => ?_) (fun hr => ?_)
    · refine z_aload_n hX dX5_promote_25 0 rfl ?_
      refine z_getR (j := 9) hX dX5_promote_26 fl_28 0 rfl rfl ?_
      refine z_iload_n hX dX5_promote_29 1 rfl ?_
      obtain ⟨r2, hc2, hr⟩ := z_bind hr
      refine z_callV_i (As := [.int (iI p1)]) (k1 := 0) (n1 := 0) (nA := 1) hX (mX4_makeMain hc2) dX5_promote_30 gX5_promote_X4_makeMain rfl ⟨rfl, by decide, by decide, by decide +kernel⟩ ⟨by decide, by decide⟩ ⟨by decide, by decide⟩ 9 rfl rfl rfl rfl (Nat.le_of_ble_eq_true rfl) (by decide +kernel) rfl rfl (fun hg2 => ?_)
      have hf : zfr [16, 17] h0 r2.2 := zfr_tr hf (by decide) hg2
      refine z_widen (k1 := 1) (n1 := 6) (by decide) (by decide) ?_
      obtain rfl := Option.some.inj hr
      exact hQ _ _ dX5_promote_33 rfl hf
    · refine z_lv [] rfl ?_
      exact B15 h0 hf hr

def fX5_state_x (p1 : Int) (h : HS) : Option (Int × HS) := if wr p1 = 0 then (fX5_turn h).bind fun r1 => some (r1, h) else if wr p1 = 1 then (fX5_turn h).bind fun r2 => (fX0_inCheck r2 h).bind fun r3 => if wr r3 = 0 then some (0, h) else some (1, h) else if wr p1 = 2 then (fX5_turn h).bind fun r4 => (fX0_countLegalMoves r4 4096 h).bind fun r5 => some (r5.1, r5.2) else if wr p1 = 3 then some ((h 0 8), h) else if wr p1 = 4 then (fX4_size h).bind fun r6 => some (r6, h) else if wr p1 = 5 then (fX1_size h).bind fun r7 => some (r7, h) else if wr p1 = 6 then (fX3_size h).bind fun r8 => some (r8, h) else none
set_option maxRecDepth 100000 in
set_option maxHeartbeats 4000000 in
theorem mX5_state_x {G : ZG} {l0 : Launch} {ad : Nat → Nat} {h0 : HS} {p1 : Int} {o : Int × HS} (hr : fX5_state_x p1 h0 = some o) : ZMi G l0 yX5_state wsX5_state ({ frames := 4, cells := 0, slots := 0, locals := 112 }) [.ref (ad 0), .int (iI p1)] sh_7 ad h0 [8] o.1 o.2 := by
  refine ZMi.of (cc := cX5_state) (maxL := 2) (ret := (some .int)) (own := RX5) (lv0 := [(0, .ref (ad 0)), (1, .int (iI p1))]) (by decide) rfl rfl rfl (Nat.le_of_ble_eq_true rfl) rfl ?_
  intro X hX hQ
  have hf : zfr [8] h0 h0 := zfr_rf
  have fl_12 : zFld wsX5_state RX5 12 5 RX5 TX5 16 0 := ⟨by decide +kernel, by decide +kernel, by decide, rfl⟩
  have fl_21 : zFld wsX5_state RX5 21 5 RX5 TX5 16 1 := ⟨by decide +kernel, by decide +kernel, by decide, rfl⟩
  have fl_28 : zFld wsX5_state RX5 28 5 RX5 TX5 16 2 := ⟨by decide +kernel, by decide +kernel, by decide, rfl⟩
  have fl_49 : zFld wsX5_state RX5 49 5 RX5 TX5 16 6 := ⟨by decide +kernel, by decide +kernel, by decide, rfl⟩
  have fl_56 : zFld wsX5_state RX5 56 5 RX5 TX5 16 8 := ⟨by decide +kernel, by decide +kernel, by decide, rfl⟩
  unfold fX5_state_x at hr
  refine z_iload_n hX dX5_state_0 1 rfl ?_
  by_cases n0 : wr p1 = 0
  · have hr := z_ifp hr n0
    refine z_tableIn (v := 0) (tgt := 44) hX dX5_state_1 n0 (by decide) (by decide) rfl (by decide) ?_
    refine z_aload_n hX dX5_state_44 0 rfl ?_
    obtain ⟨r1, hc1, hr⟩ := z_bind hr
    refine z_callV_i (As := []) (k1 := 0) (n1 := 0) (nA := 0) hX (mX5_turn hc1) dX5_state_45 gX5_state_X5_turn rfl ⟨rfl, by decide, by decide, by decide +kernel⟩ ⟨by decide, by decide⟩ ⟨by decide, by decide⟩ 0 rfl rfl rfl rfl (Nat.le_of_ble_eq_true rfl) (by decide +kernel) rfl rfl (fun hg1 => ?_)
    obtain rfl := Option.some.inj hr
    exact hQ _ _ dX5_state_48 hf
  · have hr := z_ifn hr n0
    by_cases n1 : wr p1 = 1
    · have hr := z_ifp hr n1
      refine z_tableIn (v := 1) (tgt := 49) hX dX5_state_1 n1 (by decide) (by decide) rfl (by decide) ?_
      refine z_aload_n hX dX5_state_49 0 rfl ?_
      refine z_getR (j := 7) hX dX5_state_50 fl_21 0 rfl rfl ?_
      refine z_aload_n hX dX5_state_53 0 rfl ?_
      obtain ⟨r2, hc2, hr⟩ := z_bind hr
      refine z_callV_i (As := []) (k1 := 0) (n1 := 0) (nA := 0) hX (mX5_turn hc2) dX5_state_54 gX5_state_X5_turn rfl ⟨rfl, by decide, by decide, by decide +kernel⟩ ⟨by decide, by decide⟩ ⟨by decide, by decide⟩ 0 rfl rfl rfl rfl (Nat.le_of_ble_eq_true rfl) (by decide +kernel) rfl rfl (fun hg2 => ?_)
      obtain ⟨r3, hc3, hr⟩ := z_bind hr
      refine z_callV_i (As := [.int (iI r2)]) (k1 := 0) (n1 := 0) (nA := 1) hX (mX0_inCheck hc3) dX5_state_57 gX5_state_X0_inCheck rfl ⟨rfl, by decide, by decide, by decide +kernel⟩ ⟨by decide, by decide⟩ ⟨by decide, by decide⟩ 7 rfl rfl rfl rfl (Nat.le_of_ble_eq_true rfl) (by decide +kernel) rfl rfl (fun hg3 => ?_)
      refine z_if_eq (tgt := 67) hX dX5_state_60 (by decide) rfl hr (fun hr => ?_) (fun hr => ?_)
      · refine z_iconst hX dX5_state_67 ?_
        obtain rfl := Option.some.inj hr
        exact hQ _ _ dX5_state_68 hf
      · refine z_iconst hX dX5_state_63 ?_
        refine z_goto (tgt := 68) hX dX5_state_64 (by decide) ?_
        obtain rfl := Option.some.inj hr
        exact hQ _ _ dX5_state_68 hf
    · have hr := z_ifn hr n1
      by_cases n2 : wr p1 = 2
      · have hr := z_ifp hr n2
        refine z_tableIn (v := 2) (tgt := 69) hX dX5_state_1 n2 (by decide) (by decide) rfl (by decide) ?_
        refine z_aload_n hX dX5_state_69 0 rfl ?_
        refine z_getR (j := 7) hX dX5_state_70 fl_21 0 rfl rfl ?_
        refine z_aload_n hX dX5_state_73 0 rfl ?_
        obtain ⟨r4, hc4, hr⟩ := z_bind hr
        refine z_callV_i (As := []) (k1 := 0) (n1 := 0) (nA := 0) hX (mX5_turn hc4) dX5_state_74 gX5_state_X5_turn rfl ⟨rfl, by decide, by decide, by decide +kernel⟩ ⟨by decide, by decide⟩ ⟨by decide, by decide⟩ 0 rfl rfl rfl rfl (Nat.le_of_ble_eq_true rfl) (by decide +kernel) rfl rfl (fun hg4 => ?_)
        refine z_sipush hX dX5_state_77 (by decide +kernel) ?_
        obtain ⟨r5, hc5, hr⟩ := z_bind hr
        refine z_callV_i (As := [.int (iI r4), .int (iI 4096)]) (k1 := 0) (n1 := 0) (nA := 2) hX (mX0_countLegalMoves hc5) dX5_state_80 gX5_state_X0_countLegalMoves rfl ⟨rfl, by decide, by decide, by decide +kernel⟩ ⟨by decide, by decide⟩ ⟨by decide, by decide⟩ 7 rfl rfl rfl rfl (Nat.le_of_ble_eq_true rfl) (by decide +kernel) rfl rfl (fun hg5 => ?_)
        have hf : zfr [8] h0 r5.2 := zfr_tr hf (by decide) hg5
        obtain rfl := Option.some.inj hr
        exact hQ _ _ dX5_state_83 hf
      · have hr := z_ifn hr n2
        by_cases n3 : wr p1 = 3
        · have hr := z_ifp hr n3
          refine z_tableIn (v := 3) (tgt := 84) hX dX5_state_1 n3 (by decide) (by decide) rfl (by decide) ?_
          refine z_aload_n hX dX5_state_84 0 rfl ?_
          refine z_getI hX dX5_state_85 fl_56 0 rfl rfl ?_
          obtain rfl := Option.some.inj hr
          exact hQ _ _ dX5_state_88 hf
        · have hr := z_ifn hr n3
          by_cases n4 : wr p1 = 4
          · have hr := z_ifp hr n4
            refine z_tableIn (v := 4) (tgt := 89) hX dX5_state_1 n4 (by decide) (by decide) rfl (by decide) ?_
            refine z_aload_n hX dX5_state_89 0 rfl ?_
            refine z_getR (j := 9) hX dX5_state_90 fl_28 0 rfl rfl ?_
            obtain ⟨r6, hc6, hr⟩ := z_bind hr
            refine z_callV_i (As := []) (k1 := 0) (n1 := 0) (nA := 0) hX (mX4_size hc6) dX5_state_93 gX5_state_X4_size rfl ⟨rfl, by decide, by decide, by decide +kernel⟩ ⟨by decide, by decide⟩ ⟨by decide, by decide⟩ 9 rfl rfl rfl rfl (Nat.le_of_ble_eq_true rfl) (by decide +kernel) rfl rfl (fun hg6 => ?_)
            obtain rfl := Option.some.inj hr
            exact hQ _ _ dX5_state_96 hf
          · have hr := z_ifn hr n4
            by_cases n5 : wr p1 = 5
            · have hr := z_ifp hr n5
              refine z_tableIn (v := 5) (tgt := 97) hX dX5_state_1 n5 (by decide) (by decide) rfl (by decide) ?_
              refine z_aload_n hX dX5_state_97 0 rfl ?_
              refine z_getR (j := 1) hX dX5_state_98 fl_12 0 rfl rfl ?_
              obtain ⟨r7, hc7, hr⟩ := z_bind hr
              refine z_callV_i (As := []) (k1 := 0) (n1 := 0) (nA := 0) hX (mX1_size hc7) dX5_state_101 gX5_state_X1_size rfl ⟨rfl, by decide, by decide, by decide +kernel⟩ ⟨by decide, by decide⟩ ⟨by decide, by decide⟩ 1 rfl rfl rfl rfl (Nat.le_of_ble_eq_true rfl) (by decide +kernel) rfl rfl (fun hg7 => ?_)
              obtain rfl := Option.some.inj hr
              exact hQ _ _ dX5_state_104 hf
            · have hr := z_ifn hr n5
              by_cases n6 : wr p1 = 6
              · have hr := z_ifp hr n6
                refine z_tableIn (v := 6) (tgt := 105) hX dX5_state_1 n6 (by decide) (by decide) rfl (by decide) ?_
                refine z_aload_n hX dX5_state_105 0 rfl ?_
                refine z_getR (j := 19) hX dX5_state_106 fl_49 0 rfl rfl ?_
                obtain ⟨r8, hc8, hr⟩ := z_bind hr
                refine z_callV_i (As := []) (k1 := 0) (n1 := 0) (nA := 0) hX (mX3_size hc8) dX5_state_109 gX5_state_X3_size rfl ⟨rfl, by decide, by decide, by decide +kernel⟩ ⟨by decide, by decide⟩ ⟨by decide, by decide⟩ 19 rfl rfl rfl rfl (Nat.le_of_ble_eq_true rfl) (by decide +kernel) rfl rfl (fun hg8 => ?_)
                obtain rfl := Option.some.inj hr
                exact hQ _ _ dX5_state_112 hf
              · have hr := z_ifn hr n6
                refine z_tableOut (tgt := 113) hX dX5_state_1 (by omega) (by decide) ?_
                exact z_none hr

def fX5_digest_L89 : Nat → Int64 → Int → HS → Option (Int64 × HS)
  | 0, _, _, _ => none
  | nf + 1, x1, x3, h => (fX3_size h).bind fun r1 => if wr r1 ≤ wr x3 then some (x1, h) else (fX3_get x3 h).bind fun r2 => fX5_digest_L89 nf ((x1 * (31 : Int64)) + (iI r2).toInt64) (x3 + 1) h
def fX5_digest_L63 : Nat → Int64 → Int → HS → Option (Int64 × HS)
  | 0, _, _, _ => none
  | nf + 1, x1, x3, h => (fX4_size h).bind fun r3 => if wr r3 ≤ wr x3 then fX5_digest_L89 zF x1 0 h else (fX5_digestNode x1 x3 h).bind fun r4 => fX5_digest_L63 nf r4 (x3 + 1) h
def fX5_digest_L33 : Nat → Int64 → Int → HS → Option (Int64 × HS)
  | 0, _, _, _ => none
  | nf + 1, x1, x3, h => if (64 : Int) ≤ wr x3 then fX5_digest_L63 zF x1 0 h else (fX0_pieceOn x3 h).bind fun r5 => fX5_digest_L33 nf ((x1 * (31 : Int64)) + (iI r5).toInt64) (x3 + 1) h
def fX5_digest_L6 : Nat → Int64 → Int → HS → Option (Int64 × HS)
  | 0, _, _, _ => none
  | nf + 1, x1, x3, h => if (7 : Int) ≤ wr x3 then fX5_digest_L33 zF x1 0 h else (fX5_state_x x3 h).bind fun r6 => fX5_digest_L6 nf ((x1 * (31 : Int64)) + (iI r6.1).toInt64) (x3 + 1) r6.2
def fX5_digest (h : HS) : Option (Int64 × HS) := fX5_digest_L6 zF (353 : Int64) 0 h
set_option maxRecDepth 100000 in
set_option maxHeartbeats 4000000 in
theorem mX5_digest {G : ZG} {l0 : Launch} {ad : Nat → Nat} {h0 : HS} {o : Int64 × HS} (hr : fX5_digest h0 = some o) : ZMl G l0 yX5_digest wsX5_digest ({ frames := 5, cells := 0, slots := 0, locals := 133 }) [.ref (ad 0)] sh_7 ad h0 [8] o.1 o.2 := by
  refine ZMl.of (cc := cX5_digest) (maxL := 4) (ret := (some .long)) (own := RX5) (lv0 := [(0, .ref (ad 0))]) (by decide) rfl rfl rfl (Nat.le_of_ble_eq_true rfl) rfl ?_
  intro X hX hQ
  have hf : zfr [8] h0 h0 := zfr_rf
  have fl_21 : zFld wsX5_digest RX5 21 5 RX5 TX5 16 1 := ⟨by decide +kernel, by decide +kernel, by decide, rfl⟩
  have fl_28 : zFld wsX5_digest RX5 28 5 RX5 TX5 16 2 := ⟨by decide +kernel, by decide +kernel, by decide, rfl⟩
  have fl_49 : zFld wsX5_digest RX5 49 5 RX5 TX5 16 6 := ⟨by decide +kernel, by decide +kernel, by decide, rfl⟩
  have B89 : ∀ (nf : Nat) (x1 : Int64) (x3 : Int) (h : HS), zfr [8] h0 h → fX5_digest_L89 nf x1 x3 h = some o → ZW G X sh_7 ad h 0 0 [(0, .ref (ad 0)), (1, .long x1), (3, .int (iI x3))] 89 [] := by
    intro nf
    induction nf with
    | zero => intro x1 x3 h hf hr; exact z_none hr
    | succ n89 ih89 =>
      intro x1 x3 h hf hr
      unfold fX5_digest_L89 at hr
      refine z_iload_n hX dX5_digest_89 2 rfl ?_
      refine z_aload_n hX dX5_digest_90 0 rfl ?_
      refine z_getR (j := 19) hX dX5_digest_91 fl_49 0 rfl rfl ?_
      obtain ⟨r1, hc1, hr⟩ := z_bind hr
      refine z_callV_i (As := []) (k1 := 0) (n1 := 0) (nA := 0) hX (mX3_size hc1) dX5_digest_94 gX5_digest_X3_size rfl ⟨rfl, by decide, by decide, by decide +kernel⟩ ⟨by decide, by decide⟩ ⟨by decide, by decide⟩ 19 rfl rfl rfl rfl (Nat.le_of_ble_eq_true rfl) (by decide +kernel) rfl rfl (fun hg1 => ?_)
      refine z_icmp_ge (tgt := 122) hX dX5_digest_97 (by decide) rfl rfl hr (fun hr => ?_) (fun hr => ?_)
      · refine z_lload_n hX dX5_digest_122 1 rfl ?_
        obtain rfl := Option.some.inj hr
        exact hQ _ _ dX5_digest_123 hf
      · refine z_lload_n hX dX5_digest_100 1 rfl ?_
        refine z_ldc2 (v := 31) hX dX5_digest_101 (by decide +kernel) ?_
        refine z_lmul hX dX5_digest_104 ?_
        refine z_aload_n hX dX5_digest_105 0 rfl ?_
        refine z_getR (j := 19) hX dX5_digest_106 fl_49 0 rfl rfl ?_
        refine z_iload_n hX dX5_digest_109 2 rfl ?_
        obtain ⟨r2, hc2, hr⟩ := z_bind hr
        refine z_callV_i (As := [.int (iI x3)]) (k1 := 0) (n1 := 0) (nA := 1) hX (mX3_get hc2) dX5_digest_110 gX5_digest_X3_get rfl ⟨rfl, by decide, by decide, by decide +kernel⟩ ⟨by decide, by decide⟩ ⟨by decide, by decide⟩ 19 rfl rfl rfl rfl (Nat.le_of_ble_eq_true rfl) (by decide +kernel) rfl rfl (fun hg2 => ?_)
        refine z_i2l hX dX5_digest_113 ?_
        refine z_ladd hX dX5_digest_114 ?_
        refine z_lstore_n (lv1 := [(1, .long ((x1 * (31 : Int64)) + (iI r2).toInt64)), (0, .ref (ad 0)), (3, .int (iI x3))]) hX dX5_digest_115 (by decide) rfl ?_
        refine z_iinc (lv1 := [(3, .int (iI (x3 + 1))), (1, .long ((x1 * (31 : Int64)) + (iI r2).toInt64)), (0, .ref (ad 0))]) hX dX5_digest_116 2 rfl (by decide) rfl ?_
        refine z_goto (tgt := 89) hX dX5_digest_119 (by decide) ?_
        refine z_lv [2, 1, 0] rfl ?_
        exact ih89 ((x1 * (31 : Int64)) + (iI r2).toInt64) (x3 + 1) h hf hr
  have B63 : ∀ (nf : Nat) (x1 : Int64) (x3 : Int) (h : HS), zfr [8] h0 h → fX5_digest_L63 nf x1 x3 h = some o → ZW G X sh_7 ad h 0 0 [(0, .ref (ad 0)), (1, .long x1), (3, .int (iI x3))] 63 [] := by
    intro nf
    induction nf with
    | zero => intro x1 x3 h hf hr; exact z_none hr
    | succ n63 ih63 =>
      intro x1 x3 h hf hr
      unfold fX5_digest_L63 at hr
      refine z_iload_n hX dX5_digest_63 2 rfl ?_
      refine z_aload_n hX dX5_digest_64 0 rfl ?_
      refine z_getR (j := 9) hX dX5_digest_65 fl_28 0 rfl rfl ?_
      obtain ⟨r3, hc3, hr⟩ := z_bind hr
      refine z_callV_i (As := []) (k1 := 0) (n1 := 0) (nA := 0) hX (mX4_size hc3) dX5_digest_68 gX5_digest_X4_size rfl ⟨rfl, by decide, by decide, by decide +kernel⟩ ⟨by decide, by decide⟩ ⟨by decide, by decide⟩ 9 rfl rfl rfl rfl (Nat.le_of_ble_eq_true rfl) (by decide +kernel) rfl rfl (fun hg3 => ?_)
      refine z_icmp_ge (tgt := 87) hX dX5_digest_71 (by decide) rfl rfl hr (fun hr => ?_) (fun hr => ?_)
      · refine z_iconst hX dX5_digest_87 ?_
        refine z_istore_n (lv1 := [(3, .int (iI 0)), (0, .ref (ad 0)), (1, .long x1)]) hX dX5_digest_88 (by decide) rfl ?_
        refine z_lv [1, 2, 0] rfl ?_
        exact B89 zF x1 0 h hf hr
      · refine z_aload_n hX dX5_digest_74 0 rfl ?_
        refine z_lload_n hX dX5_digest_75 1 rfl ?_
        refine z_iload_n hX dX5_digest_76 2 rfl ?_
        obtain ⟨r4, hc4, hr⟩ := z_bind hr
        refine z_callV_l (As := [.long x1, .int (iI x3)]) (k1 := 0) (n1 := 0) (nA := 2) hX (mX5_digestNode hc4) dX5_digest_77 gX5_digest_X5_digestNode rfl ⟨rfl, by decide, by decide, by decide +kernel⟩ ⟨by decide, by decide⟩ ⟨by decide, by decide⟩ 0 rfl rfl rfl rfl (Nat.le_of_ble_eq_true rfl) (by decide +kernel) rfl rfl (fun hg4 => ?_)
        refine z_lstore_n (lv1 := [(1, .long r4), (0, .ref (ad 0)), (3, .int (iI x3))]) hX dX5_digest_80 (by decide) rfl ?_
        refine z_iinc (lv1 := [(3, .int (iI (x3 + 1))), (1, .long r4), (0, .ref (ad 0))]) hX dX5_digest_81 2 rfl (by decide) rfl ?_
        refine z_goto (tgt := 63) hX dX5_digest_84 (by decide) ?_
        refine z_lv [2, 1, 0] rfl ?_
        exact ih63 r4 (x3 + 1) h hf hr
  have B33 : ∀ (nf : Nat) (x1 : Int64) (x3 : Int) (h : HS), zfr [8] h0 h → fX5_digest_L33 nf x1 x3 h = some o → ZW G X sh_7 ad h 0 0 [(0, .ref (ad 0)), (1, .long x1), (3, .int (iI x3))] 33 [] := by
    intro nf
    induction nf with
    | zero => intro x1 x3 h hf hr; exact z_none hr
    | succ n33 ih33 =>
      intro x1 x3 h hf hr
      unfold fX5_digest_L33 at hr
      refine z_iload_n hX dX5_digest_33 2 rfl ?_
      refine z_bipush hX dX5_digest_34 (by decide +kernel) ?_
      refine z_icmp_ge (tgt := 61) hX dX5_digest_36 (by decide) rfl (wr_of (by decide) (by decide)) hr (fun hr => ?_) (fun hr => ?_)
      · refine z_iconst hX dX5_digest_61 ?_
        refine z_istore_n (lv1 := [(3, .int (iI 0)), (0, .ref (ad 0)), (1, .long x1)]) hX dX5_digest_62 (by decide) rfl ?_
        refine z_lv [1, 2, 0] rfl ?_
        exact B63 zF x1 0 h hf hr
      · refine z_lload_n hX dX5_digest_39 1 rfl ?_
        refine z_ldc2 (v := 31) hX dX5_digest_40 (by decide +kernel) ?_
        refine z_lmul hX dX5_digest_43 ?_
        refine z_aload_n hX dX5_digest_44 0 rfl ?_
        refine z_getR (j := 7) hX dX5_digest_45 fl_21 0 rfl rfl ?_
        refine z_iload_n hX dX5_digest_48 2 rfl ?_
        obtain ⟨r5, hc5, hr⟩ := z_bind hr
        refine z_callV_i (As := [.int (iI x3)]) (k1 := 0) (n1 := 0) (nA := 1) hX (mX0_pieceOn hc5) dX5_digest_49 gX5_digest_X0_pieceOn rfl ⟨rfl, by decide, by decide, by decide +kernel⟩ ⟨by decide, by decide⟩ ⟨by decide, by decide⟩ 7 rfl rfl rfl rfl (Nat.le_of_ble_eq_true rfl) (by decide +kernel) rfl rfl (fun hg5 => ?_)
        refine z_i2l hX dX5_digest_52 ?_
        refine z_ladd hX dX5_digest_53 ?_
        refine z_lstore_n (lv1 := [(1, .long ((x1 * (31 : Int64)) + (iI r5).toInt64)), (0, .ref (ad 0)), (3, .int (iI x3))]) hX dX5_digest_54 (by decide) rfl ?_
        refine z_iinc (lv1 := [(3, .int (iI (x3 + 1))), (1, .long ((x1 * (31 : Int64)) + (iI r5).toInt64)), (0, .ref (ad 0))]) hX dX5_digest_55 2 rfl (by decide) rfl ?_
        refine z_goto (tgt := 33) hX dX5_digest_58 (by decide) ?_
        refine z_lv [2, 1, 0] rfl ?_
        exact ih33 ((x1 * (31 : Int64)) + (iI r5).toInt64) (x3 + 1) h hf hr
  have B6 : ∀ (nf : Nat) (x1 : Int64) (x3 : Int) (h : HS), zfr [8] h0 h → fX5_digest_L6 nf x1 x3 h = some o → ZW G X sh_7 ad h 0 0 [(0, .ref (ad 0)), (1, .long x1), (3, .int (iI x3))] 6 [] := by
    intro nf
    induction nf with
    | zero => intro x1 x3 h hf hr; exact z_none hr
    | succ n6 ih6 =>
      intro x1 x3 h hf hr
      unfold fX5_digest_L6 at hr
      refine z_iload_n hX dX5_digest_6 2 rfl ?_
      refine z_bipush hX dX5_digest_7 (by decide +kernel) ?_
      refine z_icmp_ge (tgt := 31) hX dX5_digest_9 (by decide) rfl (wr_of (by decide) (by decide)) hr (fun hr => ?_) (fun hr => ?_)
      · refine z_iconst hX dX5_digest_31 ?_
        refine z_istore_n (lv1 := [(3, .int (iI 0)), (0, .ref (ad 0)), (1, .long x1)]) hX dX5_digest_32 (by decide) rfl ?_
        refine z_lv [1, 2, 0] rfl ?_
        exact B33 zF x1 0 h hf hr
      · refine z_lload_n hX dX5_digest_12 1 rfl ?_
        refine z_ldc2 (v := 31) hX dX5_digest_13 (by decide +kernel) ?_
        refine z_lmul hX dX5_digest_16 ?_
        refine z_aload_n hX dX5_digest_17 0 rfl ?_
        refine z_iload_n hX dX5_digest_18 2 rfl ?_
        obtain ⟨r6, hc6, hr⟩ := z_bind hr
        refine z_callV_i (As := [.int (iI x3)]) (k1 := 0) (n1 := 0) (nA := 1) hX (mX5_state_x hc6) dX5_digest_19 gX5_digest_X5_state rfl ⟨rfl, by decide, by decide, by decide +kernel⟩ ⟨by decide, by decide⟩ ⟨by decide, by decide⟩ 0 rfl rfl rfl rfl (Nat.le_of_ble_eq_true rfl) (by decide +kernel) rfl rfl (fun hg6 => ?_)
        have hf : zfr [8] h0 r6.2 := zfr_tr hf (by decide) hg6
        refine z_i2l hX dX5_digest_22 ?_
        refine z_ladd hX dX5_digest_23 ?_
        refine z_lstore_n (lv1 := [(1, .long ((x1 * (31 : Int64)) + (iI r6.1).toInt64)), (0, .ref (ad 0)), (3, .int (iI x3))]) hX dX5_digest_24 (by decide) rfl ?_
        refine z_iinc (lv1 := [(3, .int (iI (x3 + 1))), (1, .long ((x1 * (31 : Int64)) + (iI r6.1).toInt64)), (0, .ref (ad 0))]) hX dX5_digest_25 2 rfl (by decide) rfl ?_
        refine z_goto (tgt := 6) hX dX5_digest_28 (by decide) ?_
        refine z_lv [2, 1, 0] rfl ?_
        exact ih6 ((x1 * (31 : Int64)) + (iI r6.1).toInt64) (x3 + 1) r6.2 hf hr
  unfold fX5_digest at hr
  refine z_ldc2 (v := 353) hX dX5_digest_0 (by decide +kernel) ?_
  refine z_lstore_n (lv1 := [(1, .long (353 : Int64)), (0, .ref (ad 0))]) hX dX5_digest_3 (by decide) rfl ?_
  refine z_iconst hX dX5_digest_4 ?_
  refine z_istore_n (lv1 := [(3, .int (iI 0)), (1, .long (353 : Int64)), (0, .ref (ad 0))]) hX dX5_digest_5 (by decide) rfl ?_
  refine z_lv [2, 1, 0] rfl ?_
  exact B6 zF (353 : Int64) 0 h0 hf hr

