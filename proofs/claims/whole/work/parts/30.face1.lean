def fX5_addKind_b24 (h : HS) : Option (Int × Int × HS) := some (2, 0, h)
def fX5_addKind_b57 (h : HS) : Option (Int × Int × HS) := some (3, 0, h)
def fX5_addKind (p1 : Int) (h : HS) : Option (Int × Int × HS) := if wr p1 < (65 : Int) then fX5_addKind_b24 h else if (90 : Int) < wr p1 then fX5_addKind_b24 h else (fX1_withLetter p1 h).bind fun r1 => if wr r1 = ((-1) : Int) then (fX1_size h).bind fun r2 => if (6 : Int) ≤ wr r2 then fX5_addKind_b57 h else (fX4_size h).bind fun r3 => if wr r3 ≤ (1 : Int) then (fX1_include p1 h).bind fun r4 => some (0, r4.1, r4.2) else fX5_addKind_b57 h else fX5_addKind_b24 h
set_option maxRecDepth 100000 in
set_option maxHeartbeats 4000000 in
theorem mX5_addKind {G : ZG} {l0 : Launch} {ad : Nat → Nat} {h0 : HS} {p1 : Int} {o : Int × Int × HS} (hst : l0.stackTraces = false) (hr : fX5_addKind p1 h0 = some o) : ZTi G l0 yX5_addKind wsX5_addKind ({ frames := 6, cells := 1, slots := 6, locals := 90 }) [.ref (ad 0), .int (iI p1)] sh_7 ad ad h0 [1, 2] o.1 o.2.1 o.2.2 := by
  refine ZTi.of (cc := cX5_addKind) (maxL := 2) (ret := (some .int)) (lv0 := [(0, .ref (ad 0)), (1, .int (iI p1))]) hst (by decide) rfl rfl rfl (Nat.le_of_ble_eq_true rfl) rfl ?_
  intro X hX hQ hT
  have hf : zfr [1, 2] h0 h0 := zfr_rf
  have fl_12 : zFld wsX5_addKind RX5 12 5 RX5 TX5 16 0 := ⟨by decide +kernel, by decide +kernel, by decide, rfl⟩
  have fl_28 : zFld wsX5_addKind RX5 28 5 RX5 TX5 16 2 := ⟨by decide +kernel, by decide +kernel, by decide, rfl⟩
  have B24 : ∀ (h : HS), zfr [1, 2] h0 h → fX5_addKind_b24 h = some o → ZW G X sh_7 ad h 0 0 [] 24 [] := by
    intro h hf hr
    unfold fX5_addKind_b24 at hr
    obtain rfl := Option.some.inj hr
    have th : zThr wsX5_addKind 86 88 90 2 zMsg_88 := ⟨by decide +kernel, by decide +kernel, ⟨by decide +kernel, by decide +kernel, by decide⟩, by decide +kernel, by decide +kernel, by decide +kernel⟩
    exact hT _ 24 86 88 90 _ _ zMsg_88 _ th dX5_addKind_24 dX5_addKind_27 dX5_addKind_28 dX5_addKind_30 dX5_addKind_33 (by decide) (Nat.le_of_ble_eq_true rfl) (by decide) (by decide) (by decide : (2 : Int) ≠ 0) hf
  have B57 : ∀ (h : HS), zfr [1, 2] h0 h → fX5_addKind_b57 h = some o → ZW G X sh_7 ad h 0 0 [] 57 [] := by
    intro h hf hr
    unfold fX5_addKind_b57 at hr
    obtain rfl := Option.some.inj hr
    have th : zThr wsX5_addKind 98 100 102 3 zMsg_100 := ⟨by decide +kernel, by decide +kernel, ⟨by decide +kernel, by decide +kernel, by decide⟩, by decide +kernel, by decide +kernel, by decide +kernel⟩
    exact hT _ 57 98 100 102 _ _ zMsg_100 _ th dX5_addKind_57 dX5_addKind_60 dX5_addKind_61 dX5_addKind_63 dX5_addKind_66 (by decide) (Nat.le_of_ble_eq_true rfl) (by decide) (by decide) (by decide : (3 : Int) ≠ 0) hf
  unfold fX5_addKind at hr
  refine z_iload_n hX dX5_addKind_0 1 rfl ?_
  refine z_bipush hX dX5_addKind_1 (by decide +kernel) ?_
  refine z_icmp_lt (tgt := 24) hX dX5_addKind_3 (by decide) rfl (wr_of (by decide) (by decide)) hr (fun hr => ?_) (fun hr => ?_)
  · refine z_lv [] rfl ?_
    exact B24 h0 hf hr
  · refine z_iload_n hX dX5_addKind_6 1 rfl ?_
    refine z_bipush hX dX5_addKind_7 (by decide +kernel) ?_
    refine z_icmp_gt (tgt := 24) hX dX5_addKind_9 (by decide) rfl (wr_of (by decide) (by decide)) hr (fun hr => ?_) (fun hr => ?_)
    · refine z_lv [] rfl ?_
      exact B24 h0 hf hr
    · refine z_aload_n hX dX5_addKind_12 0 rfl ?_
      refine z_getR (j := 1) hX dX5_addKind_13 fl_12 0 rfl rfl ?_
      refine z_iload_n hX dX5_addKind_16 1 rfl ?_
      obtain ⟨r1, hc1, hr⟩ := z_bind hr
      refine z_callV_i (As := [.int (iI p1)]) (k1 := 0) (n1 := 0) (nA := 1) hX (mX1_withLetter hc1) dX5_addKind_17 gX5_addKind_X1_withLetter rfl ⟨rfl, by decide, by decide, by decide +kernel⟩ ⟨by decide, by decide⟩ ⟨by decide, by decide⟩ 1 rfl rfl rfl rfl (Nat.le_of_ble_eq_true rfl) (by decide +kernel) rfl rfl (fun hg1 => ?_)
      refine z_iconst hX dX5_addKind_20 ?_
      refine z_icmp_eq (tgt := 34) hX dX5_addKind_21 (by decide) rfl (wr_of (by decide) (by decide)) hr (fun hr => ?_) (fun hr => ?_)
      · refine z_aload_n hX dX5_addKind_34 0 rfl ?_
        refine z_getR (j := 1) hX dX5_addKind_35 fl_12 0 rfl rfl ?_
        obtain ⟨r2, hc2, hr⟩ := z_bind hr
        refine z_callV_i (As := []) (k1 := 0) (n1 := 0) (nA := 0) hX (mX1_size hc2) dX5_addKind_38 gX5_addKind_X1_size rfl ⟨rfl, by decide, by decide, by decide +kernel⟩ ⟨by decide, by decide⟩ ⟨by decide, by decide⟩ 1 rfl rfl rfl rfl (Nat.le_of_ble_eq_true rfl) (by decide +kernel) rfl rfl (fun hg2 => ?_)
        refine z_bipush hX dX5_addKind_41 (by decide +kernel) ?_
        refine z_icmp_ge (tgt := 57) hX dX5_addKind_43 (by decide) rfl (wr_of (by decide) (by decide)) hr (fun hr => ?_) (fun hr => ?_)
        · refine z_lv [] rfl ?_
          exact B57 h0 hf hr
        · refine z_aload_n hX dX5_addKind_46 0 rfl ?_
          refine z_getR (j := 9) hX dX5_addKind_47 fl_28 0 rfl rfl ?_
          obtain ⟨r3, hc3, hr⟩ := z_bind hr
          refine z_callV_i (As := []) (k1 := 0) (n1 := 0) (nA := 0) hX (mX4_size hc3) dX5_addKind_50 gX5_addKind_X4_size rfl ⟨rfl, by decide, by decide, by decide +kernel⟩ ⟨by decide, by decide⟩ ⟨by decide, by decide⟩ 9 rfl rfl rfl rfl (Nat.le_of_ble_eq_true rfl) (by decide +kernel) rfl rfl (fun hg3 => ?_)
          refine z_iconst hX dX5_addKind_53 ?_
          refine z_icmp_le (tgt := 67) hX dX5_addKind_54 (by decide) rfl (wr_of (by decide) (by decide)) hr (fun hr => ?_) (fun hr => ?_)
          · refine z_aload_n hX dX5_addKind_67 0 rfl ?_
            refine z_getR (j := 1) hX dX5_addKind_68 fl_12 0 rfl rfl ?_
            refine z_iload_n hX dX5_addKind_71 1 rfl ?_
            obtain ⟨r4, hc4, hr⟩ := z_bind hr
            refine z_callV_i (As := [.int (iI p1)]) (k1 := 0) (n1 := 0) (nA := 1) hX (mX1_include hc4) dX5_addKind_72 gX5_addKind_X1_include rfl ⟨rfl, by decide, by decide, by decide +kernel⟩ ⟨by decide, by decide⟩ ⟨by decide, by decide⟩ 1 rfl rfl rfl rfl (Nat.le_of_ble_eq_true rfl) (by decide +kernel) rfl rfl (fun hg4 => ?_)
            have hf : zfr [1, 2] h0 r4.2 := zfr_tr hf (by decide) hg4
            refine z_widen (k1 := 1) (n1 := 6) (by decide) (by decide) ?_
            obtain rfl := Option.some.inj hr
            exact hQ _ _ dX5_addKind_75 rfl hf
          · refine z_lv [] rfl ?_
            exact B57 h0 hf hr
      · refine z_lv [] rfl ?_
        exact B24 h0 hf hr

def fX5_addStep_b42 (h : HS) : Option (Int × Int × HS) := some (2, 0, h)
def fX5_addStep_b76 (h : HS) : Option (Int × Int × HS) := some (3, 0, h)
def fX5_addStep (p1 : Int) (p2 : Int) (p3 : Int) (p4 : Int) (h : HS) : Option (Int × Int × HS) := (fX1_has p1 h).bind fun r1 => if wr r1 = 0 then some (1, 0, h) else (fX5_isStep p2 p3 h).bind fun r2 => if wr r2 = 0 then fX5_addStep_b42 h else if wr p4 < (1 : Int) then fX5_addStep_b42 h else if wr p4 ≤ (7 : Int) then (fX1_stepCount p1 h).bind fun r3 => if (8 : Int) ≤ wr r3 then fX5_addStep_b76 h else (fX4_size h).bind fun r4 => if wr r4 ≤ (1 : Int) then (fX1_includeStep p1 p2 p3 p4 h).bind fun r5 => some (0, r5.1, r5.2) else fX5_addStep_b76 h else fX5_addStep_b42 h
set_option maxRecDepth 100000 in
set_option maxHeartbeats 4000000 in
theorem mX5_addStep {G : ZG} {l0 : Launch} {ad : Nat → Nat} {h0 : HS} {p1 : Int} {p2 : Int} {p3 : Int} {p4 : Int} {o : Int × Int × HS} (hst : l0.stackTraces = false) (hr : fX5_addStep p1 p2 p3 p4 h0 = some o) : ZTi G l0 yX5_addStep wsX5_addStep ({ frames := 6, cells := 1, slots := 6, locals := 90 }) [.ref (ad 0), .int (iI p1), .int (iI p2), .int (iI p3), .int (iI p4)] sh_7 ad ad h0 [3, 4, 5, 6] o.1 o.2.1 o.2.2 := by
  refine ZTi.of (cc := cX5_addStep) (maxL := 5) (ret := (some .int)) (lv0 := [(0, .ref (ad 0)), (1, .int (iI p1)), (2, .int (iI p2)), (3, .int (iI p3)), (4, .int (iI p4))]) hst (by decide) rfl rfl rfl (Nat.le_of_ble_eq_true rfl) rfl ?_
  intro X hX hQ hT
  have hf : zfr [3, 4, 5, 6] h0 h0 := zfr_rf
  have fl_12 : zFld wsX5_addStep RX5 12 5 RX5 TX5 16 0 := ⟨by decide +kernel, by decide +kernel, by decide, rfl⟩
  have fl_28 : zFld wsX5_addStep RX5 28 5 RX5 TX5 16 2 := ⟨by decide +kernel, by decide +kernel, by decide, rfl⟩
  have B42 : ∀ (h : HS), zfr [3, 4, 5, 6] h0 h → fX5_addStep_b42 h = some o → ZW G X sh_7 ad h 0 0 [] 42 [] := by
    intro h hf hr
    unfold fX5_addStep_b42 at hr
    obtain rfl := Option.some.inj hr
    have th : zThr wsX5_addStep 86 119 90 2 zMsg_119 := ⟨by decide +kernel, by decide +kernel, ⟨by decide +kernel, by decide +kernel, by decide⟩, by decide +kernel, by decide +kernel, by decide +kernel⟩
    exact hT _ 42 86 119 90 _ _ zMsg_119 _ th dX5_addStep_42 dX5_addStep_45 dX5_addStep_46 dX5_addStep_48 dX5_addStep_51 (by decide) (Nat.le_of_ble_eq_true rfl) (by decide) (by decide) (by decide : (2 : Int) ≠ 0) hf
  have B76 : ∀ (h : HS), zfr [3, 4, 5, 6] h0 h → fX5_addStep_b76 h = some o → ZW G X sh_7 ad h 0 0 [] 76 [] := by
    intro h hf hr
    unfold fX5_addStep_b76 at hr
    obtain rfl := Option.some.inj hr
    have th : zThr wsX5_addStep 98 124 102 3 zMsg_124 := ⟨by decide +kernel, by decide +kernel, ⟨by decide +kernel, by decide +kernel, by decide⟩, by decide +kernel, by decide +kernel, by decide +kernel⟩
    exact hT _ 76 98 124 102 _ _ zMsg_124 _ th dX5_addStep_76 dX5_addStep_79 dX5_addStep_80 dX5_addStep_82 dX5_addStep_85 (by decide) (Nat.le_of_ble_eq_true rfl) (by decide) (by decide) (by decide : (3 : Int) ≠ 0) hf
  unfold fX5_addStep at hr
  refine z_aload_n hX dX5_addStep_0 0 rfl ?_
  refine z_getR (j := 1) hX dX5_addStep_1 fl_12 0 rfl rfl ?_
  refine z_iload_n hX dX5_addStep_4 1 rfl ?_
  obtain ⟨r1, hc1, hr⟩ := z_bind hr
  refine z_callV_i (As := [.int (iI p1)]) (k1 := 0) (n1 := 0) (nA := 1) hX (mX1_has hc1) dX5_addStep_5 gX5_addStep_X1_has rfl ⟨rfl, by decide, by decide, by decide +kernel⟩ ⟨by decide, by decide⟩ ⟨by decide, by decide⟩ 1 rfl rfl rfl rfl (Nat.le_of_ble_eq_true rfl) (by decide +kernel) rfl rfl (fun hg1 => ?_)
  refine z_if_ne (tgt := 21) hX dX5_addStep_8 (by decide) rfl hr (fun hr => ?_) (fun hr => ?_)
  · refine z_iload_n hX dX5_addStep_21 2 rfl ?_
    refine z_iload_n hX dX5_addStep_22 3 rfl ?_
    obtain ⟨r2, hc2, hr⟩ := z_bind hr
    refine z_callS_i (As := [.int (iI p2), .int (iI p3)]) (k1 := 0) (n1 := 0) (nA := 2) hX (mX5_isStep hc2) dX5_addStep_23 gX5_addStep_X5_isStep rfl ⟨by decide, by decide, by decide +kernel⟩ ⟨by decide, by decide⟩ ⟨by decide, by decide⟩ rfl rfl (Nat.le_of_ble_eq_true rfl) (by decide +kernel) rfl rfl (fun hg2 => ?_)
    refine z_if_eq (tgt := 42) hX dX5_addStep_26 (by decide) rfl hr (fun hr => ?_) (fun hr => ?_)
    · refine z_lv [] rfl ?_
      exact B42 h0 hf hr
    · refine z_iload hX dX5_addStep_29 4 rfl ?_
      refine z_iconst hX dX5_addStep_31 ?_
      refine z_icmp_lt (tgt := 42) hX dX5_addStep_32 (by decide) rfl (wr_of (by decide) (by decide)) hr (fun hr => ?_) (fun hr => ?_)
      · refine z_lv [] rfl ?_
        exact B42 h0 hf hr
      · refine z_iload hX dX5_addStep_35 4 rfl ?_
        refine z_bipush hX dX5_addStep_37 (by decide +kernel) ?_
        refine z_icmp_le (tgt := 52) hX dX5_addStep_39 (by decide) rfl (wr_of (by decide) (by decide)) hr (fun hr => ?_) (fun hr => ?_)
        · refine z_aload_n hX dX5_addStep_52 0 rfl ?_
          refine z_getR (j := 1) hX dX5_addStep_53 fl_12 0 rfl rfl ?_
          refine z_iload_n hX dX5_addStep_56 1 rfl ?_
          obtain ⟨r3, hc3, hr⟩ := z_bind hr
          refine z_callV_i (As := [.int (iI p1)]) (k1 := 0) (n1 := 0) (nA := 1) hX (mX1_stepCount hc3) dX5_addStep_57 gX5_addStep_X1_stepCount rfl ⟨rfl, by decide, by decide, by decide +kernel⟩ ⟨by decide, by decide⟩ ⟨by decide, by decide⟩ 1 rfl rfl rfl rfl (Nat.le_of_ble_eq_true rfl) (by decide +kernel) rfl rfl (fun hg3 => ?_)
          refine z_bipush hX dX5_addStep_60 (by decide +kernel) ?_
          refine z_icmp_ge (tgt := 76) hX dX5_addStep_62 (by decide) rfl (wr_of (by decide) (by decide)) hr (fun hr => ?_) (fun hr => ?_)
          · refine z_lv [] rfl ?_
            exact B76 h0 hf hr
          · refine z_aload_n hX dX5_addStep_65 0 rfl ?_
            refine z_getR (j := 9) hX dX5_addStep_66 fl_28 0 rfl rfl ?_
            obtain ⟨r4, hc4, hr⟩ := z_bind hr
            refine z_callV_i (As := []) (k1 := 0) (n1 := 0) (nA := 0) hX (mX4_size hc4) dX5_addStep_69 gX5_addStep_X4_size rfl ⟨rfl, by decide, by decide, by decide +kernel⟩ ⟨by decide, by decide⟩ ⟨by decide, by decide⟩ 9 rfl rfl rfl rfl (Nat.le_of_ble_eq_true rfl) (by decide +kernel) rfl rfl (fun hg4 => ?_)
            refine z_iconst hX dX5_addStep_72 ?_
            refine z_icmp_le (tgt := 86) hX dX5_addStep_73 (by decide) rfl (wr_of (by decide) (by decide)) hr (fun hr => ?_) (fun hr => ?_)
            · refine z_aload_n hX dX5_addStep_86 0 rfl ?_
              refine z_getR (j := 1) hX dX5_addStep_87 fl_12 0 rfl rfl ?_
              refine z_iload_n hX dX5_addStep_90 1 rfl ?_
              refine z_iload_n hX dX5_addStep_91 2 rfl ?_
              refine z_iload_n hX dX5_addStep_92 3 rfl ?_
              refine z_iload hX dX5_addStep_93 4 rfl ?_
              obtain ⟨r5, hc5, hr⟩ := z_bind hr
              refine z_callV_i (As := [.int (iI p1), .int (iI p2), .int (iI p3), .int (iI p4)]) (k1 := 0) (n1 := 0) (nA := 4) hX (mX1_includeStep hc5) dX5_addStep_95 gX5_addStep_X1_includeStep rfl ⟨rfl, by decide, by decide, by decide +kernel⟩ ⟨by decide, by decide⟩ ⟨by decide, by decide⟩ 1 rfl rfl rfl rfl (Nat.le_of_ble_eq_true rfl) (by decide +kernel) rfl rfl (fun hg5 => ?_)
              have hf : zfr [3, 4, 5, 6] h0 r5.2 := zfr_tr hf (by decide) hg5
              refine z_widen (k1 := 1) (n1 := 6) (by decide) (by decide) ?_
              obtain rfl := Option.some.inj hr
              exact hQ _ _ dX5_addStep_98 rfl hf
            · refine z_lv [] rfl ?_
              exact B76 h0 hf hr
        · refine z_lv [] rfl ?_
          exact B42 h0 hf hr
  · obtain rfl := Option.some.inj hr
    have th : zThr wsX5_addStep 110 112 114 1 zMsg_112 := ⟨by decide +kernel, by decide +kernel, ⟨by decide +kernel, by decide +kernel, by decide⟩, by decide +kernel, by decide +kernel, by decide +kernel⟩
    exact hT _ 11 110 112 114 _ _ zMsg_112 _ th dX5_addStep_11 dX5_addStep_14 dX5_addStep_15 dX5_addStep_17 dX5_addStep_20 (by decide) (Nat.le_of_ble_eq_true rfl) (by decide) (by decide) (by decide : (1 : Int) ≠ 0) hf

def fX5_put_b23 (h : HS) : Option (Int × Int × HS) := some (1, 0, h)
def fX5_put_b92 (s1 : Int) (s2 : Int) (h : HS) : Option (Int × Int × HS) := (fX0_replace s1 s2 h).bind fun r1 => some (0, r1.1, r1.2)
def fX5_put_b52 (x1 : Int) (x2 : Int) (x3 : Int) (h : HS) : Option (Int × Int × HS) := (fX4_size h).bind fun r2 => if wr r2 ≤ (1 : Int) then if wr x2 = ((-1) : Int) then fX5_put_b92 x1 (-1) h else fX5_put_b92 x1 ((2 * x2) + x3) h else some (3, 0, h)
def fX5_put_b33 (x1 : Int) (x2 : Int) (x3 : Int) (h : HS) : Option (Int × Int × HS) := if wr x3 = 0 then fX5_put_b52 x1 x2 x3 h else if wr x3 = (1 : Int) then fX5_put_b52 x1 x2 x3 h else some (2, 0, h)
def fX5_put (p1 : Int) (p2 : Int) (p3 : Int) (h : HS) : Option (Int × Int × HS) := (fX5_isSquare p1 h).bind fun r3 => if wr r3 = 0 then fX5_put_b23 h else if wr p2 = ((-1) : Int) then fX5_put_b33 p1 p2 p3 h else (fX1_has p2 h).bind fun r4 => if wr r4 = 0 then fX5_put_b23 h else fX5_put_b33 p1 p2 p3 h
set_option maxRecDepth 100000 in
set_option maxHeartbeats 4000000 in
theorem mX5_put {G : ZG} {l0 : Launch} {ad : Nat → Nat} {h0 : HS} {p1 : Int} {p2 : Int} {p3 : Int} {o : Int × Int × HS} (hst : l0.stackTraces = false) (hr : fX5_put p1 p2 p3 h0 = some o) : ZTi G l0 yX5_put wsX5_put ({ frames := 6, cells := 1, slots := 6, locals := 90 }) [.ref (ad 0), .int (iI p1), .int (iI p2), .int (iI p3)] sh_7 ad ad h0 [8] o.1 o.2.1 o.2.2 := by
  refine ZTi.of (cc := cX5_put) (maxL := 4) (ret := (some .int)) (lv0 := [(0, .ref (ad 0)), (1, .int (iI p1)), (2, .int (iI p2)), (3, .int (iI p3))]) hst (by decide) rfl rfl rfl (Nat.le_of_ble_eq_true rfl) rfl ?_
  intro X hX hQ hT
  have hf : zfr [8] h0 h0 := zfr_rf
  have fl_12 : zFld wsX5_put RX5 12 5 RX5 TX5 16 0 := ⟨by decide +kernel, by decide +kernel, by decide, rfl⟩
  have fl_21 : zFld wsX5_put RX5 21 5 RX5 TX5 16 1 := ⟨by decide +kernel, by decide +kernel, by decide, rfl⟩
  have fl_28 : zFld wsX5_put RX5 28 5 RX5 TX5 16 2 := ⟨by decide +kernel, by decide +kernel, by decide, rfl⟩
  have B23 : ∀ (h : HS), zfr [8] h0 h → fX5_put_b23 h = some o → ZW G X sh_7 ad h 0 0 [] 23 [] := by
    intro h hf hr
    unfold fX5_put_b23 at hr
    obtain rfl := Option.some.inj hr
    have th : zThr wsX5_put 110 133 114 1 zMsg_133 := ⟨by decide +kernel, by decide +kernel, ⟨by decide +kernel, by decide +kernel, by decide⟩, by decide +kernel, by decide +kernel, by decide +kernel⟩
    exact hT _ 23 110 133 114 _ _ zMsg_133 _ th dX5_put_23 dX5_put_26 dX5_put_27 dX5_put_29 dX5_put_32 (by decide) (Nat.le_of_ble_eq_true rfl) (by decide) (by decide) (by decide : (1 : Int) ≠ 0) hf
  have B92 : ∀ (s1 : Int) (s2 : Int) (h : HS), zfr [8] h0 h → fX5_put_b92 s1 s2 h = some o → ZW G X sh_7 ad h 0 0 [] 92 [.int (iI s2), .int (iI s1), .ref (ad 7)] := by
    intro s1 s2 h hf hr
    unfold fX5_put_b92 at hr
    obtain ⟨r1, hc1, hr⟩ := z_bind hr
    refine z_callV_i (As := [.int (iI s1), .int (iI s2)]) (k1 := 0) (n1 := 0) (nA := 2) hX (mX0_replace hc1) dX5_put_92 gX5_put_X0_replace rfl ⟨rfl, by decide, by decide, by decide +kernel⟩ ⟨by decide, by decide⟩ ⟨by decide, by decide⟩ 7 rfl rfl rfl rfl (Nat.le_of_ble_eq_true rfl) (by decide +kernel) rfl rfl (fun hg1 => ?_)
    have hf : zfr [8] h0 r1.2 := zfr_tr hf (by decide) hg1
    refine z_widen (k1 := 1) (n1 := 6) (by decide) (by decide) ?_
    obtain rfl := Option.some.inj hr
    exact hQ _ _ dX5_put_95 rfl hf
  have B52 : ∀ (x1 : Int) (x2 : Int) (x3 : Int) (h : HS), zfr [8] h0 h → fX5_put_b52 x1 x2 x3 h = some o → ZW G X sh_7 ad h 0 0 [(0, .ref (ad 0)), (1, .int (iI x1)), (2, .int (iI x2)), (3, .int (iI x3))] 52 [] := by
    intro x1 x2 x3 h hf hr
    unfold fX5_put_b52 at hr
    refine z_aload_n hX dX5_put_52 0 rfl ?_
    refine z_getR (j := 9) hX dX5_put_53 fl_28 0 rfl rfl ?_
    obtain ⟨r2, hc2, hr⟩ := z_bind hr
    refine z_callV_i (As := []) (k1 := 0) (n1 := 0) (nA := 0) hX (mX4_size hc2) dX5_put_56 gX5_put_X4_size rfl ⟨rfl, by decide, by decide, by decide +kernel⟩ ⟨by decide, by decide⟩ ⟨by decide, by decide⟩ 9 rfl rfl rfl rfl (Nat.le_of_ble_eq_true rfl) (by decide +kernel) rfl rfl (fun hg2 => ?_)
    refine z_iconst hX dX5_put_59 ?_
    refine z_icmp_le (tgt := 73) hX dX5_put_60 (by decide) rfl (wr_of (by decide) (by decide)) hr (fun hr => ?_) (fun hr => ?_)
    · refine z_aload_n hX dX5_put_73 0 rfl ?_
      refine z_getR (j := 7) hX dX5_put_74 fl_21 0 rfl rfl ?_
      refine z_iload_n hX dX5_put_77 1 rfl ?_
      refine z_iload_n hX dX5_put_78 2 rfl ?_
      refine z_iconst hX dX5_put_79 ?_
      refine z_icmp_ne (tgt := 87) hX dX5_put_80 (by decide) rfl (wr_of (by decide) (by decide)) hr (fun hr => ?_) (fun hr => ?_)
      · refine z_iconst hX dX5_put_87 ?_
        refine z_iload_n hX dX5_put_88 2 rfl ?_
        refine z_imul hX dX5_put_89 ?_
        refine z_iload_n hX dX5_put_90 3 rfl ?_
        refine z_iadd hX dX5_put_91 ?_
        refine z_lv [] rfl ?_
        exact B92 x1 ((2 * x2) + x3) h hf hr
      · refine z_iconst hX dX5_put_83 ?_
        refine z_goto (tgt := 92) hX dX5_put_84 (by decide) ?_
        refine z_lv [] rfl ?_
        exact B92 x1 (-1) h hf hr
    · obtain rfl := Option.some.inj hr
      have th : zThr wsX5_put 98 137 102 3 zMsg_137 := ⟨by decide +kernel, by decide +kernel, ⟨by decide +kernel, by decide +kernel, by decide⟩, by decide +kernel, by decide +kernel, by decide +kernel⟩
      exact hT _ 63 98 137 102 _ _ zMsg_137 _ th dX5_put_63 dX5_put_66 dX5_put_67 dX5_put_69 dX5_put_72 (by decide) (Nat.le_of_ble_eq_true rfl) (by decide) (by decide) (by decide : (3 : Int) ≠ 0) hf
  have B33 : ∀ (x1 : Int) (x2 : Int) (x3 : Int) (h : HS), zfr [8] h0 h → fX5_put_b33 x1 x2 x3 h = some o → ZW G X sh_7 ad h 0 0 [(0, .ref (ad 0)), (1, .int (iI x1)), (2, .int (iI x2)), (3, .int (iI x3))] 33 [] := by
    intro x1 x2 x3 h hf hr
    unfold fX5_put_b33 at hr
    refine z_iload_n hX dX5_put_33 3 rfl ?_
    refine z_if_eq (tgt := 52) hX dX5_put_34 (by decide) rfl hr (fun hr => ?_) (fun hr => ?_)
    · exact B52 x1 x2 x3 h hf hr
    · refine z_iload_n hX dX5_put_37 3 rfl ?_
      refine z_iconst hX dX5_put_38 ?_
      refine z_icmp_eq (tgt := 52) hX dX5_put_39 (by decide) rfl (wr_of (by decide) (by decide)) hr (fun hr => ?_) (fun hr => ?_)
      · exact B52 x1 x2 x3 h hf hr
      · obtain rfl := Option.some.inj hr
        have th : zThr wsX5_put 86 135 90 2 zMsg_135 := ⟨by decide +kernel, by decide +kernel, ⟨by decide +kernel, by decide +kernel, by decide⟩, by decide +kernel, by decide +kernel, by decide +kernel⟩
        exact hT _ 42 86 135 90 _ _ zMsg_135 _ th dX5_put_42 dX5_put_45 dX5_put_46 dX5_put_48 dX5_put_51 (by decide) (Nat.le_of_ble_eq_true rfl) (by decide) (by decide) (by decide : (2 : Int) ≠ 0) hf
  unfold fX5_put at hr
  refine z_iload_n hX dX5_put_0 1 rfl ?_
  obtain ⟨r3, hc3, hr⟩ := z_bind hr
  refine z_callS_i (As := [.int (iI p1)]) (k1 := 0) (n1 := 0) (nA := 1) hX (mX5_isSquare hc3) dX5_put_1 gX5_put_X5_isSquare rfl ⟨by decide, by decide, by decide +kernel⟩ ⟨by decide, by decide⟩ ⟨by decide, by decide⟩ rfl rfl (Nat.le_of_ble_eq_true rfl) (by decide +kernel) rfl rfl (fun hg3 => ?_)
  refine z_if_eq (tgt := 23) hX dX5_put_4 (by decide) rfl hr (fun hr => ?_) (fun hr => ?_)
  · refine z_lv [] rfl ?_
    exact B23 h0 hf hr
  · refine z_iload_n hX dX5_put_7 2 rfl ?_
    refine z_iconst hX dX5_put_8 ?_
    refine z_icmp_eq (tgt := 33) hX dX5_put_9 (by decide) rfl (wr_of (by decide) (by decide)) hr (fun hr => ?_) (fun hr => ?_)
    · exact B33 p1 p2 p3 h0 hf hr
    · refine z_aload_n hX dX5_put_12 0 rfl ?_
      refine z_getR (j := 1) hX dX5_put_13 fl_12 0 rfl rfl ?_
      refine z_iload_n hX dX5_put_16 2 rfl ?_
      obtain ⟨r4, hc4, hr⟩ := z_bind hr
      refine z_callV_i (As := [.int (iI p2)]) (k1 := 0) (n1 := 0) (nA := 1) hX (mX1_has hc4) dX5_put_17 gX5_put_X1_has rfl ⟨rfl, by decide, by decide, by decide +kernel⟩ ⟨by decide, by decide⟩ ⟨by decide, by decide⟩ 1 rfl rfl rfl rfl (Nat.le_of_ble_eq_true rfl) (by decide +kernel) rfl rfl (fun hg4 => ?_)
      refine z_if_ne (tgt := 33) hX dX5_put_20 (by decide) rfl hr (fun hr => ?_) (fun hr => ?_)
      · exact B33 p1 p2 p3 h0 hf hr
      · refine z_lv [] rfl ?_
        exact B23 h0 hf hr

def fX5_at (p1 : Int) (h : HS) : Option (Int × Int × HS) := (fX5_isSquare p1 h).bind fun r1 => if wr r1 = 0 then some (1, 0, h) else (fX0_pieceOn p1 h).bind fun r2 => some (0, r2, h)
set_option maxRecDepth 100000 in
set_option maxHeartbeats 4000000 in
theorem mX5_at {G : ZG} {l0 : Launch} {ad : Nat → Nat} {h0 : HS} {p1 : Int} {o : Int × Int × HS} (hst : l0.stackTraces = false) (hr : fX5_at p1 h0 = some o) : ZTi G l0 yX5_at wsX5_at ({ frames := 6, cells := 1, slots := 6, locals := 90 }) [.ref (ad 0), .int (iI p1)] sh_7 ad ad h0 [] o.1 o.2.1 o.2.2 := by
  refine ZTi.of (cc := cX5_at) (maxL := 2) (ret := (some .int)) (lv0 := [(0, .ref (ad 0)), (1, .int (iI p1))]) hst (by decide) rfl rfl rfl (Nat.le_of_ble_eq_true rfl) rfl ?_
  intro X hX hQ hT
  have hf : zfr [] h0 h0 := zfr_rf
  have fl_21 : zFld wsX5_at RX5 21 5 RX5 TX5 16 1 := ⟨by decide +kernel, by decide +kernel, by decide, rfl⟩
  unfold fX5_at at hr
  refine z_iload_n hX dX5_at_0 1 rfl ?_
  obtain ⟨r1, hc1, hr⟩ := z_bind hr
  refine z_callS_i (As := [.int (iI p1)]) (k1 := 0) (n1 := 0) (nA := 1) hX (mX5_isSquare hc1) dX5_at_1 gX5_at_X5_isSquare rfl ⟨by decide, by decide, by decide +kernel⟩ ⟨by decide, by decide⟩ ⟨by decide, by decide⟩ rfl rfl (Nat.le_of_ble_eq_true rfl) (by decide +kernel) rfl rfl (fun hg1 => ?_)
  refine z_if_ne (tgt := 17) hX dX5_at_4 (by decide) rfl hr (fun hr => ?_) (fun hr => ?_)
  · refine z_aload_n hX dX5_at_17 0 rfl ?_
    refine z_getR (j := 7) hX dX5_at_18 fl_21 0 rfl rfl ?_
    refine z_iload_n hX dX5_at_21 1 rfl ?_
    obtain ⟨r2, hc2, hr⟩ := z_bind hr
    refine z_callV_i (As := [.int (iI p1)]) (k1 := 0) (n1 := 0) (nA := 1) hX (mX0_pieceOn hc2) dX5_at_22 gX5_at_X0_pieceOn rfl ⟨rfl, by decide, by decide, by decide +kernel⟩ ⟨by decide, by decide⟩ ⟨by decide, by decide⟩ 7 rfl rfl rfl rfl (Nat.le_of_ble_eq_true rfl) (by decide +kernel) rfl rfl (fun hg2 => ?_)
    refine z_widen (k1 := 1) (n1 := 6) (by decide) (by decide) ?_
    obtain rfl := Option.some.inj hr
    exact hQ _ _ dX5_at_25 rfl hf
  · obtain rfl := Option.some.inj hr
    have th : zThr wsX5_at 110 143 114 1 zMsg_143 := ⟨by decide +kernel, by decide +kernel, ⟨by decide +kernel, by decide +kernel, by decide⟩, by decide +kernel, by decide +kernel, by decide +kernel⟩
    exact hT _ 7 110 143 114 _ _ zMsg_143 _ th dX5_at_7 dX5_at_10 dX5_at_11 dX5_at_13 dX5_at_16 (by decide) (Nat.le_of_ble_eq_true rfl) (by decide) (by decide) (by decide : (1 : Int) ≠ 0) hf

def fX5_state (p1 : Int) (h : HS) : Option (Int × Int × HS) := if wr p1 = 0 then (fX5_turn h).bind fun r1 => some (0, r1, h) else if wr p1 = 1 then (fX5_turn h).bind fun r2 => (fX0_inCheck r2 h).bind fun r3 => if wr r3 = 0 then some (0, 0, h) else some (0, 1, h) else if wr p1 = 2 then (fX5_turn h).bind fun r4 => (fX0_countLegalMoves r4 4096 h).bind fun r5 => some (0, r5.1, r5.2) else if wr p1 = 3 then some (0, (h 0 8), h) else if wr p1 = 4 then (fX4_size h).bind fun r6 => some (0, r6, h) else if wr p1 = 5 then (fX1_size h).bind fun r7 => some (0, r7, h) else if wr p1 = 6 then (fX3_size h).bind fun r8 => some (0, r8, h) else some (1, 0, h)
set_option maxRecDepth 100000 in
set_option maxHeartbeats 4000000 in
theorem mX5_state {G : ZG} {l0 : Launch} {ad : Nat → Nat} {h0 : HS} {p1 : Int} {o : Int × Int × HS} (hst : l0.stackTraces = false) (hr : fX5_state p1 h0 = some o) : ZTi G l0 yX5_state wsX5_state ({ frames := 6, cells := 1, slots := 6, locals := 112 }) [.ref (ad 0), .int (iI p1)] sh_7 ad ad h0 [8] o.1 o.2.1 o.2.2 := by
  refine ZTi.of (cc := cX5_state) (maxL := 2) (ret := (some .int)) (lv0 := [(0, .ref (ad 0)), (1, .int (iI p1))]) hst (by decide) rfl rfl rfl (Nat.le_of_ble_eq_true rfl) rfl ?_
  intro X hX hQ hT
  have hf : zfr [8] h0 h0 := zfr_rf
  have fl_12 : zFld wsX5_state RX5 12 5 RX5 TX5 16 0 := ⟨by decide +kernel, by decide +kernel, by decide, rfl⟩
  have fl_21 : zFld wsX5_state RX5 21 5 RX5 TX5 16 1 := ⟨by decide +kernel, by decide +kernel, by decide, rfl⟩
  have fl_28 : zFld wsX5_state RX5 28 5 RX5 TX5 16 2 := ⟨by decide +kernel, by decide +kernel, by decide, rfl⟩
  have fl_49 : zFld wsX5_state RX5 49 5 RX5 TX5 16 6 := ⟨by decide +kernel, by decide +kernel, by decide, rfl⟩
  have fl_56 : zFld wsX5_state RX5 56 5 RX5 TX5 16 8 := ⟨by decide +kernel, by decide +kernel, by decide, rfl⟩
  unfold fX5_state at hr
  refine z_iload_n hX dX5_state_0 1 rfl ?_
  by_cases n0 : wr p1 = 0
  · have hr := z_ifp hr n0
    refine z_tableIn (v := 0) (tgt := 44) hX dX5_state_1 n0 (by decide) (by decide) rfl (by decide) ?_
    refine z_aload_n hX dX5_state_44 0 rfl ?_
    obtain ⟨r1, hc1, hr⟩ := z_bind hr
    refine z_callV_i (As := []) (k1 := 0) (n1 := 0) (nA := 0) hX (mX5_turn hc1) dX5_state_45 gX5_state_X5_turn rfl ⟨rfl, by decide, by decide, by decide +kernel⟩ ⟨by decide, by decide⟩ ⟨by decide, by decide⟩ 0 rfl rfl rfl rfl (Nat.le_of_ble_eq_true rfl) (by decide +kernel) rfl rfl (fun hg1 => ?_)
    refine z_widen (k1 := 1) (n1 := 6) (by decide) (by decide) ?_
    obtain rfl := Option.some.inj hr
    exact hQ _ _ dX5_state_48 rfl hf
  · have hr := z_ifn hr n0
    by_cases n1 : wr p1 = 1
    · have hr := z_ifp hr n1
      refine z_tableIn (v := 1) (tgt := 49) hX dX5_state_1 n1 (by decide) (by decide) rfl (by decide) ?_
      refine z_aload_n hX dX5_state_49 0 rfl ?_
      refine z_getR (j := 7) hX dX5_state_50 fl_21 0 rfl rfl ?_
      refine z_aload_n hX dX5_state_53 0 rfl ?_
      obtain ⟨r2, hc2, hr⟩ := z_bind hr
      refine z_callV_i (As := []) (k1 := 0) (n1 := 0) (nA := 0) hX (mX5_turn hc2) dX5_state_54 gX5_state_X5_turn rfl ⟨rfl, by decide, by decide, by decide +kernel⟩ ⟨by decide, by decide⟩ ⟨by decide, by decide⟩ 0 rfl rfl rfl rfl (Nat.le_of_ble_eq_true rfl) (by decide +kernel) rfl rfl (fun hg2 => ?_)
      obtain ⟨r3, hc3, hr⟩ := z_bind hr
      refine z_callV_i (As := [.int (iI r2)]) (k1 := 0) (n1 := 0) (nA := 1) hX (mX0_inCheck hc3) dX5_state_57 gX5_state_X0_inCheck rfl ⟨rfl, by decide, by decide, by decide +kernel⟩ ⟨by decide, by decide⟩ ⟨by decide, by decide⟩ 7 rfl rfl rfl rfl (Nat.le_of_ble_eq_true rfl) (by decide +kernel) rfl rfl (fun hg3 => ?_)
      refine z_if_eq (tgt := 67) hX dX5_state_60 (by decide) rfl hr (fun hr => ?_) (fun hr => ?_)
      · refine z_iconst hX dX5_state_67 ?_
        refine z_widen (k1 := 1) (n1 := 6) (by decide) (by decide) ?_
        obtain rfl := Option.some.inj hr
        exact hQ _ _ dX5_state_68 rfl hf
      · refine z_iconst hX dX5_state_63 ?_
        refine z_goto (tgt := 68) hX dX5_state_64 (by decide) ?_
        refine z_widen (k1 := 1) (n1 := 6) (by decide) (by decide) ?_
        obtain rfl := Option.some.inj hr
        exact hQ _ _ dX5_state_68 rfl hf
    · have hr := z_ifn hr n1
      by_cases n2 : wr p1 = 2
      · have hr := z_ifp hr n2
        refine z_tableIn (v := 2) (tgt := 69) hX dX5_state_1 n2 (by decide) (by decide) rfl (by decide) ?_
        refine z_aload_n hX dX5_state_69 0 rfl ?_
        refine z_getR (j := 7) hX dX5_state_70 fl_21 0 rfl rfl ?_
        refine z_aload_n hX dX5_state_73 0 rfl ?_
        obtain ⟨r4, hc4, hr⟩ := z_bind hr
        refine z_callV_i (As := []) (k1 := 0) (n1 := 0) (nA := 0) hX (mX5_turn hc4) dX5_state_74 gX5_state_X5_turn rfl ⟨rfl, by decide, by decide, by decide +kernel⟩ ⟨by decide, by decide⟩ ⟨by decide, by decide⟩ 0 rfl rfl rfl rfl (Nat.le_of_ble_eq_true rfl) (by decide +kernel) rfl rfl (fun hg4 => ?_)
        refine z_sipush hX dX5_state_77 (by decide +kernel) ?_
        obtain ⟨r5, hc5, hr⟩ := z_bind hr
        refine z_callV_i (As := [.int (iI r4), .int (iI 4096)]) (k1 := 0) (n1 := 0) (nA := 2) hX (mX0_countLegalMoves hc5) dX5_state_80 gX5_state_X0_countLegalMoves rfl ⟨rfl, by decide, by decide, by decide +kernel⟩ ⟨by decide, by decide⟩ ⟨by decide, by decide⟩ 7 rfl rfl rfl rfl (Nat.le_of_ble_eq_true rfl) (by decide +kernel) rfl rfl (fun hg5 => ?_)
        have hf : zfr [8] h0 r5.2 := zfr_tr hf (by decide) hg5
        refine z_widen (k1 := 1) (n1 := 6) (by decide) (by decide) ?_
        obtain rfl := Option.some.inj hr
        exact hQ _ _ dX5_state_83 rfl hf
      · have hr := z_ifn hr n2
        by_cases n3 : wr p1 = 3
        · have hr := z_ifp hr n3
          refine z_tableIn (v := 3) (tgt := 84) hX dX5_state_1 n3 (by decide) (by decide) rfl (by decide) ?_
          refine z_aload_n hX dX5_state_84 0 rfl ?_
          refine z_getI hX dX5_state_85 fl_56 0 rfl rfl ?_
          refine z_widen (k1 := 1) (n1 := 6) (by decide) (by decide) ?_
          obtain rfl := Option.some.inj hr
          exact hQ _ _ dX5_state_88 rfl hf
        · have hr := z_ifn hr n3
          by_cases n4 : wr p1 = 4
          · have hr := z_ifp hr n4
            refine z_tableIn (v := 4) (tgt := 89) hX dX5_state_1 n4 (by decide) (by decide) rfl (by decide) ?_
            refine z_aload_n hX dX5_state_89 0 rfl ?_
            refine z_getR (j := 9) hX dX5_state_90 fl_28 0 rfl rfl ?_
            obtain ⟨r6, hc6, hr⟩ := z_bind hr
            refine z_callV_i (As := []) (k1 := 0) (n1 := 0) (nA := 0) hX (mX4_size hc6) dX5_state_93 gX5_state_X4_size rfl ⟨rfl, by decide, by decide, by decide +kernel⟩ ⟨by decide, by decide⟩ ⟨by decide, by decide⟩ 9 rfl rfl rfl rfl (Nat.le_of_ble_eq_true rfl) (by decide +kernel) rfl rfl (fun hg6 => ?_)
            refine z_widen (k1 := 1) (n1 := 6) (by decide) (by decide) ?_
            obtain rfl := Option.some.inj hr
            exact hQ _ _ dX5_state_96 rfl hf
          · have hr := z_ifn hr n4
            by_cases n5 : wr p1 = 5
            · have hr := z_ifp hr n5
              refine z_tableIn (v := 5) (tgt := 97) hX dX5_state_1 n5 (by decide) (by decide) rfl (by decide) ?_
              refine z_aload_n hX dX5_state_97 0 rfl ?_
              refine z_getR (j := 1) hX dX5_state_98 fl_12 0 rfl rfl ?_
              obtain ⟨r7, hc7, hr⟩ := z_bind hr
              refine z_callV_i (As := []) (k1 := 0) (n1 := 0) (nA := 0) hX (mX1_size hc7) dX5_state_101 gX5_state_X1_size rfl ⟨rfl, by decide, by decide, by decide +kernel⟩ ⟨by decide, by decide⟩ ⟨by decide, by decide⟩ 1 rfl rfl rfl rfl (Nat.le_of_ble_eq_true rfl) (by decide +kernel) rfl rfl (fun hg7 => ?_)
              refine z_widen (k1 := 1) (n1 := 6) (by decide) (by decide) ?_
              obtain rfl := Option.some.inj hr
              exact hQ _ _ dX5_state_104 rfl hf
            · have hr := z_ifn hr n5
              by_cases n6 : wr p1 = 6
              · have hr := z_ifp hr n6
                refine z_tableIn (v := 6) (tgt := 105) hX dX5_state_1 n6 (by decide) (by decide) rfl (by decide) ?_
                refine z_aload_n hX dX5_state_105 0 rfl ?_
                refine z_getR (j := 19) hX dX5_state_106 fl_49 0 rfl rfl ?_
                obtain ⟨r8, hc8, hr⟩ := z_bind hr
                refine z_callV_i (As := []) (k1 := 0) (n1 := 0) (nA := 0) hX (mX3_size hc8) dX5_state_109 gX5_state_X3_size rfl ⟨rfl, by decide, by decide, by decide +kernel⟩ ⟨by decide, by decide⟩ ⟨by decide, by decide⟩ 19 rfl rfl rfl rfl (Nat.le_of_ble_eq_true rfl) (by decide +kernel) rfl rfl (fun hg8 => ?_)
                refine z_widen (k1 := 1) (n1 := 6) (by decide) (by decide) ?_
                obtain rfl := Option.some.inj hr
                exact hQ _ _ dX5_state_112 rfl hf
              · have hr := z_ifn hr n6
                refine z_tableOut (tgt := 113) hX dX5_state_1 (by omega) (by decide) ?_
                obtain rfl := Option.some.inj hr
                have th : zThr wsX5_state 110 158 114 1 zMsg_158 := ⟨by decide +kernel, by decide +kernel, ⟨by decide +kernel, by decide +kernel, by decide⟩, by decide +kernel, by decide +kernel, by decide +kernel⟩
                exact hT _ 113 110 158 114 _ _ zMsg_158 _ th dX5_state_113 dX5_state_116 dX5_state_117 dX5_state_119 dX5_state_122 (by decide) (Nat.le_of_ble_eq_true rfl) (by decide) (by decide) (by decide : (1 : Int) ≠ 0) hf

def fX5_reason_b14 (h : HS) : Option (Int × Int × HS) := some (1, 0, h)
def fX5_reason (p1 : Int) (p2 : Int) (h : HS) : Option (Int × Int × HS) := (fX5_isSquare p1 h).bind fun r1 => if wr r1 = 0 then fX5_reason_b14 h else (fX5_isSquare p2 h).bind fun r2 => if wr r2 = 0 then fX5_reason_b14 h else (fX5_reasonAgainst p1 p2 h).bind fun r3 => some (0, r3.1, r3.2)
set_option maxRecDepth 100000 in
set_option maxHeartbeats 4000000 in
theorem mX5_reason {G : ZG} {l0 : Launch} {ad : Nat → Nat} {h0 : HS} {p1 : Int} {p2 : Int} {o : Int × Int × HS} (hst : l0.stackTraces = false) (hr : fX5_reason p1 p2 h0 = some o) : ZTi G l0 yX5_reason wsX5_reason ({ frames := 6, cells := 1, slots := 6, locals := 107 }) [.ref (ad 0), .int (iI p1), .int (iI p2)] sh_7 ad ad h0 [8] o.1 o.2.1 o.2.2 := by
  refine ZTi.of (cc := cX5_reason) (maxL := 3) (ret := (some .int)) (lv0 := [(0, .ref (ad 0)), (1, .int (iI p1)), (2, .int (iI p2))]) hst (by decide) rfl rfl rfl (Nat.le_of_ble_eq_true rfl) rfl ?_
  intro X hX hQ hT
  have hf : zfr [8] h0 h0 := zfr_rf
  have B14 : ∀ (h : HS), zfr [8] h0 h → fX5_reason_b14 h = some o → ZW G X sh_7 ad h 0 0 [] 14 [] := by
    intro h hf hr
    unfold fX5_reason_b14 at hr
    obtain rfl := Option.some.inj hr
    have th : zThr wsX5_reason 110 143 114 1 zMsg_143 := ⟨by decide +kernel, by decide +kernel, ⟨by decide +kernel, by decide +kernel, by decide⟩, by decide +kernel, by decide +kernel, by decide +kernel⟩
    exact hT _ 14 110 143 114 _ _ zMsg_143 _ th dX5_reason_14 dX5_reason_17 dX5_reason_18 dX5_reason_20 dX5_reason_23 (by decide) (Nat.le_of_ble_eq_true rfl) (by decide) (by decide) (by decide : (1 : Int) ≠ 0) hf
  unfold fX5_reason at hr
  refine z_iload_n hX dX5_reason_0 1 rfl ?_
  obtain ⟨r1, hc1, hr⟩ := z_bind hr
  refine z_callS_i (As := [.int (iI p1)]) (k1 := 0) (n1 := 0) (nA := 1) hX (mX5_isSquare hc1) dX5_reason_1 gX5_reason_X5_isSquare rfl ⟨by decide, by decide, by decide +kernel⟩ ⟨by decide, by decide⟩ ⟨by decide, by decide⟩ rfl rfl (Nat.le_of_ble_eq_true rfl) (by decide +kernel) rfl rfl (fun hg1 => ?_)
  refine z_if_eq (tgt := 14) hX dX5_reason_4 (by decide) rfl hr (fun hr => ?_) (fun hr => ?_)
  · refine z_lv [] rfl ?_
    exact B14 h0 hf hr
  · refine z_iload_n hX dX5_reason_7 2 rfl ?_
    obtain ⟨r2, hc2, hr⟩ := z_bind hr
    refine z_callS_i (As := [.int (iI p2)]) (k1 := 0) (n1 := 0) (nA := 1) hX (mX5_isSquare hc2) dX5_reason_8 gX5_reason_X5_isSquare rfl ⟨by decide, by decide, by decide +kernel⟩ ⟨by decide, by decide⟩ ⟨by decide, by decide⟩ rfl rfl (Nat.le_of_ble_eq_true rfl) (by decide +kernel) rfl rfl (fun hg2 => ?_)
    refine z_if_ne (tgt := 24) hX dX5_reason_11 (by decide) rfl hr (fun hr => ?_) (fun hr => ?_)
    · refine z_aload_n hX dX5_reason_24 0 rfl ?_
      refine z_iload_n hX dX5_reason_25 1 rfl ?_
      refine z_iload_n hX dX5_reason_26 2 rfl ?_
      obtain ⟨r3, hc3, hr⟩ := z_bind hr
      refine z_callV_i (As := [.int (iI p1), .int (iI p2)]) (k1 := 0) (n1 := 0) (nA := 2) hX (mX5_reasonAgainst hc3) dX5_reason_27 gX5_reason_X5_reasonAgainst rfl ⟨rfl, by decide, by decide, by decide +kernel⟩ ⟨by decide, by decide⟩ ⟨by decide, by decide⟩ 0 rfl rfl rfl rfl (Nat.le_of_ble_eq_true rfl) (by decide +kernel) rfl rfl (fun hg3 => ?_)
      have hf : zfr [8] h0 r3.2 := zfr_tr hf (by decide) hg3
      refine z_widen (k1 := 1) (n1 := 6) (by decide) (by decide) ?_
      obtain rfl := Option.some.inj hr
      exact hQ _ _ dX5_reason_30 rfl hf
    · refine z_lv [] rfl ?_
      exact B14 h0 hf hr

def fX5_play_b14 (h : HS) : Option (Int × Int × HS) := some (1, 0, h)
def fX5_play (p1 : Int) (p2 : Int) (h : HS) : Option (Int × Int × HS) := (fX5_isSquare p1 h).bind fun r1 => if wr r1 = 0 then fX5_play_b14 h else (fX5_isSquare p2 h).bind fun r2 => if wr r2 = 0 then fX5_play_b14 h else (fX5_reasonAgainst p1 p2 h).bind fun r3 => if wr r3.1 = 0 then (fX5_follow p1 p2 r3.2).bind fun r4 => if wr r4.1 = 0 then some (3, 0, r4.2) else some (0, (r4.2 0 8), r4.2) else some (3, 0, r3.2)
set_option maxRecDepth 100000 in
set_option maxHeartbeats 4000000 in
theorem mX5_play {G : ZG} {l0 : Launch} {ad : Nat → Nat} {h0 : HS} {p1 : Int} {p2 : Int} {o : Int × Int × HS} (hst : l0.stackTraces = false) (hr : fX5_play p1 p2 h0 = some o) : ZTi G l0 yX5_play wsX5_play ({ frames := 6, cells := 1, slots := 6, locals := 107 }) [.ref (ad 0), .int (iI p1), .int (iI p2)] sh_7 ad ad h0 [0, 8, 9, 10, 11, 12, 13, 14, 15, 16, 17] o.1 o.2.1 o.2.2 := by
  refine ZTi.of (cc := cX5_play) (maxL := 3) (ret := (some .int)) (lv0 := [(0, .ref (ad 0)), (1, .int (iI p1)), (2, .int (iI p2))]) hst (by decide) rfl rfl rfl (Nat.le_of_ble_eq_true rfl) rfl ?_
  intro X hX hQ hT
  have hf : zfr [0, 8, 9, 10, 11, 12, 13, 14, 15, 16, 17] h0 h0 := zfr_rf
  have fl_56 : zFld wsX5_play RX5 56 5 RX5 TX5 16 8 := ⟨by decide +kernel, by decide +kernel, by decide, rfl⟩
  have B14 : ∀ (h : HS), zfr [0, 8, 9, 10, 11, 12, 13, 14, 15, 16, 17] h0 h → fX5_play_b14 h = some o → ZW G X sh_7 ad h 0 0 [] 14 [] := by
    intro h hf hr
    unfold fX5_play_b14 at hr
    obtain rfl := Option.some.inj hr
    have th : zThr wsX5_play 110 143 114 1 zMsg_143 := ⟨by decide +kernel, by decide +kernel, ⟨by decide +kernel, by decide +kernel, by decide⟩, by decide +kernel, by decide +kernel, by decide +kernel⟩
    exact hT _ 14 110 143 114 _ _ zMsg_143 _ th dX5_play_14 dX5_play_17 dX5_play_18 dX5_play_20 dX5_play_23 (by decide) (Nat.le_of_ble_eq_true rfl) (by decide) (by decide) (by decide : (1 : Int) ≠ 0) hf
  unfold fX5_play at hr
  refine z_iload_n hX dX5_play_0 1 rfl ?_
  obtain ⟨r1, hc1, hr⟩ := z_bind hr
  refine z_callS_i (As := [.int (iI p1)]) (k1 := 0) (n1 := 0) (nA := 1) hX (mX5_isSquare hc1) dX5_play_1 gX5_play_X5_isSquare rfl ⟨by decide, by decide, by decide +kernel⟩ ⟨by decide, by decide⟩ ⟨by decide, by decide⟩ rfl rfl (Nat.le_of_ble_eq_true rfl) (by decide +kernel) rfl rfl (fun hg1 => ?_)
  refine z_if_eq (tgt := 14) hX dX5_play_4 (by decide) rfl hr (fun hr => ?_) (fun hr => ?_)
  · refine z_lv [] rfl ?_
    exact B14 h0 hf hr
  · refine z_iload_n hX dX5_play_7 2 rfl ?_
    obtain ⟨r2, hc2, hr⟩ := z_bind hr
    refine z_callS_i (As := [.int (iI p2)]) (k1 := 0) (n1 := 0) (nA := 1) hX (mX5_isSquare hc2) dX5_play_8 gX5_play_X5_isSquare rfl ⟨by decide, by decide, by decide +kernel⟩ ⟨by decide, by decide⟩ ⟨by decide, by decide⟩ rfl rfl (Nat.le_of_ble_eq_true rfl) (by decide +kernel) rfl rfl (fun hg2 => ?_)
    refine z_if_ne (tgt := 24) hX dX5_play_11 (by decide) rfl hr (fun hr => ?_) (fun hr => ?_)
    · refine z_aload_n hX dX5_play_24 0 rfl ?_
      refine z_iload_n hX dX5_play_25 1 rfl ?_
      refine z_iload_n hX dX5_play_26 2 rfl ?_
      obtain ⟨r3, hc3, hr⟩ := z_bind hr
      refine z_callV_i (As := [.int (iI p1), .int (iI p2)]) (k1 := 0) (n1 := 0) (nA := 2) hX (mX5_reasonAgainst hc3) dX5_play_27 gX5_play_X5_reasonAgainst rfl ⟨rfl, by decide, by decide, by decide +kernel⟩ ⟨by decide, by decide⟩ ⟨by decide, by decide⟩ 0 rfl rfl rfl rfl (Nat.le_of_ble_eq_true rfl) (by decide +kernel) rfl rfl (fun hg3 => ?_)
      have hf : zfr [0, 8, 9, 10, 11, 12, 13, 14, 15, 16, 17] h0 r3.2 := zfr_tr hf (by decide) hg3
      refine z_if_eq (tgt := 43) hX dX5_play_30 (by decide) rfl hr (fun hr => ?_) (fun hr => ?_)
      · refine z_aload_n hX dX5_play_43 0 rfl ?_
        refine z_iload_n hX dX5_play_44 1 rfl ?_
        refine z_iload_n hX dX5_play_45 2 rfl ?_
        obtain ⟨r4, hc4, hr⟩ := z_bind hr
        refine z_callV_i (As := [.int (iI p1), .int (iI p2)]) (k1 := 0) (n1 := 0) (nA := 2) hX (mX5_follow hc4) dX5_play_46 gX5_play_X5_follow rfl ⟨rfl, by decide, by decide, by decide +kernel⟩ ⟨by decide, by decide⟩ ⟨by decide, by decide⟩ 0 rfl rfl rfl rfl (Nat.le_of_ble_eq_true rfl) (by decide +kernel) rfl rfl (fun hg4 => ?_)
        have hf : zfr [0, 8, 9, 10, 11, 12, 13, 14, 15, 16, 17] h0 r4.2 := zfr_tr hf (by decide) hg4
        refine z_if_ne (tgt := 62) hX dX5_play_49 (by decide) rfl hr (fun hr => ?_) (fun hr => ?_)
        · refine z_aload_n hX dX5_play_62 0 rfl ?_
          refine z_getI hX dX5_play_63 fl_56 0 rfl rfl ?_
          refine z_widen (k1 := 1) (n1 := 6) (by decide) (by decide) ?_
          obtain rfl := Option.some.inj hr
          exact hQ _ _ dX5_play_66 rfl hf
        · obtain rfl := Option.some.inj hr
          have th : zThr wsX5_play 98 168 102 3 zMsg_168 := ⟨by decide +kernel, by decide +kernel, ⟨by decide +kernel, by decide +kernel, by decide⟩, by decide +kernel, by decide +kernel, by decide +kernel⟩
          exact hT _ 52 98 168 102 _ _ zMsg_168 _ th dX5_play_52 dX5_play_55 dX5_play_56 dX5_play_58 dX5_play_61 (by decide) (Nat.le_of_ble_eq_true rfl) (by decide) (by decide) (by decide : (3 : Int) ≠ 0) hf
      · obtain rfl := Option.some.inj hr
        have th : zThr wsX5_play 98 163 102 3 zMsg_163 := ⟨by decide +kernel, by decide +kernel, ⟨by decide +kernel, by decide +kernel, by decide⟩, by decide +kernel, by decide +kernel, by decide +kernel⟩
        exact hT _ 33 98 163 102 _ _ zMsg_163 _ th dX5_play_33 dX5_play_36 dX5_play_37 dX5_play_39 dX5_play_42 (by decide) (Nat.le_of_ble_eq_true rfl) (by decide) (by decide) (by decide : (3 : Int) ≠ 0) hf
    · refine z_lv [] rfl ?_
      exact B14 h0 hf hr

def fX5_feed_b33 (h : HS) : Option (Int × Int × HS) := some (2, 0, h)
def fX5_feed (p1 : Int) (p2 : Int) (p3 : Int) (p4 : Int) (h : HS) : Option (Int × Int × HS) := if wr p1 < 0 then fX5_feed_b33 h else if (255 : Int) < wr p1 then fX5_feed_b33 h else (fX5_isByteOrNothing p2 h).bind fun r1 => if wr r1 = 0 then fX5_feed_b33 h else (fX5_isByteOrNothing p3 h).bind fun r2 => if wr r2 = 0 then fX5_feed_b33 h else (fX5_isByteOrNothing p4 h).bind fun r3 => if wr r3 = 0 then fX5_feed_b33 h else (fX5_countByte p2 h).bind fun r4 => (fX5_countByte p3 h).bind fun r5 => (fX5_countByte p4 h).bind fun r6 => (fX3_size h).bind fun r7 => if wr (r7 + (((1 + r4) + r5) + r6)) ≤ (2000 : Int) then (fX3_append p1 h).bind fun r8 => (fX5_appendUnlessNothing p2 r8).bind fun r9 => (fX5_appendUnlessNothing p3 r9).bind fun r10 => (fX5_appendUnlessNothing p4 r10).bind fun r11 => (fX3_size r11).bind fun r12 => some (0, r12, r11) else some (3, 0, h)
set_option maxRecDepth 100000 in
set_option maxHeartbeats 4000000 in
theorem mX5_feed {G : ZG} {l0 : Launch} {ad : Nat → Nat} {h0 : HS} {p1 : Int} {p2 : Int} {p3 : Int} {p4 : Int} {o : Int × Int × HS} (hst : l0.stackTraces = false) (hr : fX5_feed p1 p2 p3 p4 h0 = some o) : ZTi G l0 yX5_feed wsX5_feed ({ frames := 6, cells := 1, slots := 6, locals := 90 }) [.ref (ad 0), .int (iI p1), .int (iI p2), .int (iI p3), .int (iI p4)] sh_7 ad ad h0 [19, 20] o.1 o.2.1 o.2.2 := by
  refine ZTi.of (cc := cX5_feed) (maxL := 6) (ret := (some .int)) (lv0 := [(0, .ref (ad 0)), (1, .int (iI p1)), (2, .int (iI p2)), (3, .int (iI p3)), (4, .int (iI p4))]) hst (by decide) rfl rfl rfl (Nat.le_of_ble_eq_true rfl) rfl ?_
  intro X hX hQ hT
  have hf : zfr [19, 20] h0 h0 := zfr_rf
  have fl_49 : zFld wsX5_feed RX5 49 5 RX5 TX5 16 6 := ⟨by decide +kernel, by decide +kernel, by decide, rfl⟩
  have B33 : ∀ (h : HS), zfr [19, 20] h0 h → fX5_feed_b33 h = some o → ZW G X sh_7 ad h 0 0 [] 33 [] := by
    intro h hf hr
    unfold fX5_feed_b33 at hr
    obtain rfl := Option.some.inj hr
    have th : zThr wsX5_feed 86 173 90 2 zMsg_173 := ⟨by decide +kernel, by decide +kernel, ⟨by decide +kernel, by decide +kernel, by decide⟩, by decide +kernel, by decide +kernel, by decide +kernel⟩
    exact hT _ 33 86 173 90 _ _ zMsg_173 _ th dX5_feed_33 dX5_feed_36 dX5_feed_37 dX5_feed_39 dX5_feed_42 (by decide) (Nat.le_of_ble_eq_true rfl) (by decide) (by decide) (by decide : (2 : Int) ≠ 0) hf
  unfold fX5_feed at hr
  refine z_iload_n hX dX5_feed_0 1 rfl ?_
  refine z_if_lt (tgt := 33) hX dX5_feed_1 (by decide) rfl hr (fun hr => ?_) (fun hr => ?_)
  · refine z_lv [] rfl ?_
    exact B33 h0 hf hr
  · refine z_iload_n hX dX5_feed_4 1 rfl ?_
    refine z_sipush hX dX5_feed_5 (by decide +kernel) ?_
    refine z_icmp_gt (tgt := 33) hX dX5_feed_8 (by decide) rfl (wr_of (by decide) (by decide)) hr (fun hr => ?_) (fun hr => ?_)
    · refine z_lv [] rfl ?_
      exact B33 h0 hf hr
    · refine z_iload_n hX dX5_feed_11 2 rfl ?_
      obtain ⟨r1, hc1, hr⟩ := z_bind hr
      refine z_callS_i (As := [.int (iI p2)]) (k1 := 0) (n1 := 0) (nA := 1) hX (mX5_isByteOrNothing hc1) dX5_feed_12 gX5_feed_X5_isByteOrNothing rfl ⟨by decide, by decide, by decide +kernel⟩ ⟨by decide, by decide⟩ ⟨by decide, by decide⟩ rfl rfl (Nat.le_of_ble_eq_true rfl) (by decide +kernel) rfl rfl (fun hg1 => ?_)
      refine z_if_eq (tgt := 33) hX dX5_feed_15 (by decide) rfl hr (fun hr => ?_) (fun hr => ?_)
      · refine z_lv [] rfl ?_
        exact B33 h0 hf hr
      · refine z_iload_n hX dX5_feed_18 3 rfl ?_
        obtain ⟨r2, hc2, hr⟩ := z_bind hr
        refine z_callS_i (As := [.int (iI p3)]) (k1 := 0) (n1 := 0) (nA := 1) hX (mX5_isByteOrNothing hc2) dX5_feed_19 gX5_feed_X5_isByteOrNothing rfl ⟨by decide, by decide, by decide +kernel⟩ ⟨by decide, by decide⟩ ⟨by decide, by decide⟩ rfl rfl (Nat.le_of_ble_eq_true rfl) (by decide +kernel) rfl rfl (fun hg2 => ?_)
        refine z_if_eq (tgt := 33) hX dX5_feed_22 (by decide) rfl hr (fun hr => ?_) (fun hr => ?_)
        · refine z_lv [] rfl ?_
          exact B33 h0 hf hr
        · refine z_iload hX dX5_feed_25 4 rfl ?_
          obtain ⟨r3, hc3, hr⟩ := z_bind hr
          refine z_callS_i (As := [.int (iI p4)]) (k1 := 0) (n1 := 0) (nA := 1) hX (mX5_isByteOrNothing hc3) dX5_feed_27 gX5_feed_X5_isByteOrNothing rfl ⟨by decide, by decide, by decide +kernel⟩ ⟨by decide, by decide⟩ ⟨by decide, by decide⟩ rfl rfl (Nat.le_of_ble_eq_true rfl) (by decide +kernel) rfl rfl (fun hg3 => ?_)
          refine z_if_ne (tgt := 43) hX dX5_feed_30 (by decide) rfl hr (fun hr => ?_) (fun hr => ?_)
          · refine z_iconst hX dX5_feed_43 ?_
            refine z_iload_n hX dX5_feed_44 2 rfl ?_
            obtain ⟨r4, hc4, hr⟩ := z_bind hr
            refine z_callS_i (As := [.int (iI p2)]) (k1 := 0) (n1 := 0) (nA := 1) hX (mX5_countByte hc4) dX5_feed_45 gX5_feed_X5_countByte rfl ⟨by decide, by decide, by decide +kernel⟩ ⟨by decide, by decide⟩ ⟨by decide, by decide⟩ rfl rfl (Nat.le_of_ble_eq_true rfl) (by decide +kernel) rfl rfl (fun hg4 => ?_)
            refine z_iadd hX dX5_feed_48 ?_
            refine z_iload_n hX dX5_feed_49 3 rfl ?_
            obtain ⟨r5, hc5, hr⟩ := z_bind hr
            refine z_callS_i (As := [.int (iI p3)]) (k1 := 0) (n1 := 0) (nA := 1) hX (mX5_countByte hc5) dX5_feed_50 gX5_feed_X5_countByte rfl ⟨by decide, by decide, by decide +kernel⟩ ⟨by decide, by decide⟩ ⟨by decide, by decide⟩ rfl rfl (Nat.le_of_ble_eq_true rfl) (by decide +kernel) rfl rfl (fun hg5 => ?_)
            refine z_iadd hX dX5_feed_53 ?_
            refine z_iload hX dX5_feed_54 4 rfl ?_
            obtain ⟨r6, hc6, hr⟩ := z_bind hr
            refine z_callS_i (As := [.int (iI p4)]) (k1 := 0) (n1 := 0) (nA := 1) hX (mX5_countByte hc6) dX5_feed_56 gX5_feed_X5_countByte rfl ⟨by decide, by decide, by decide +kernel⟩ ⟨by decide, by decide⟩ ⟨by decide, by decide⟩ rfl rfl (Nat.le_of_ble_eq_true rfl) (by decide +kernel) rfl rfl (fun hg6 => ?_)
            refine z_iadd hX dX5_feed_59 ?_
            refine z_istore (lv1 := [(5, .int (iI (((1 + r4) + r5) + r6))), (0, .ref (ad 0)), (1, .int (iI p1)), (2, .int (iI p2)), (3, .int (iI p3)), (4, .int (iI p4))]) hX dX5_feed_60 (by decide) rfl ?_
            refine z_aload_n hX dX5_feed_62 1 rfl ?_
            refine z_getR (j := 19) hX dX5_feed_63 fl_49 0 rfl rfl ?_
            obtain ⟨r7, hc7, hr⟩ := z_bind hr
            refine z_callV_i (As := []) (k1 := 0) (n1 := 0) (nA := 0) hX (mX3_size hc7) dX5_feed_66 gX5_feed_X3_size rfl ⟨rfl, by decide, by decide, by decide +kernel⟩ ⟨by decide, by decide⟩ ⟨by decide, by decide⟩ 19 rfl rfl rfl rfl (Nat.le_of_ble_eq_true rfl) (by decide +kernel) rfl rfl (fun hg7 => ?_)
            refine z_iload hX dX5_feed_69 0 rfl ?_
            refine z_iadd hX dX5_feed_71 ?_
            refine z_sipush hX dX5_feed_72 (by decide +kernel) ?_
            refine z_icmp_le (tgt := 88) hX dX5_feed_75 (by decide) rfl (wr_of (by decide) (by decide)) hr (fun hr => ?_) (fun hr => ?_)
            · refine z_aload_n hX dX5_feed_88 1 rfl ?_
              refine z_getR (j := 19) hX dX5_feed_89 fl_49 0 rfl rfl ?_
              refine z_iload_n hX dX5_feed_92 2 rfl ?_
              obtain ⟨r8, hc8, hr⟩ := z_bind hr
              refine z_callV_v (As := [.int (iI p1)]) (k1 := 0) (n1 := 0) (nA := 1) hX (mX3_append hc8) dX5_feed_93 gX5_feed_X3_append rfl ⟨rfl, by decide, by decide, by decide +kernel⟩ ⟨by decide, by decide⟩ ⟨by decide, by decide⟩ 19 rfl rfl rfl rfl (Nat.le_of_ble_eq_true rfl) (by decide +kernel) rfl rfl (fun hg8 => ?_)
              have hf : zfr [19, 20] h0 r8 := zfr_tr hf (by decide) hg8
              refine z_aload_n hX dX5_feed_96 1 rfl ?_
              refine z_iload_n hX dX5_feed_97 3 rfl ?_
              obtain ⟨r9, hc9, hr⟩ := z_bind hr
              refine z_callV_v (As := [.int (iI p2)]) (k1 := 0) (n1 := 0) (nA := 1) hX (mX5_appendUnlessNothing hc9) dX5_feed_98 gX5_feed_X5_appendUnlessNothing rfl ⟨rfl, by decide, by decide, by decide +kernel⟩ ⟨by decide, by decide⟩ ⟨by decide, by decide⟩ 0 rfl rfl rfl rfl (Nat.le_of_ble_eq_true rfl) (by decide +kernel) rfl rfl (fun hg9 => ?_)
              have hf : zfr [19, 20] h0 r9 := zfr_tr hf (by decide) hg9
              refine z_aload_n hX dX5_feed_101 1 rfl ?_
              refine z_iload_n hX dX5_feed_102 4 rfl ?_
              obtain ⟨r10, hc10, hr⟩ := z_bind hr
              refine z_callV_v (As := [.int (iI p3)]) (k1 := 0) (n1 := 0) (nA := 1) hX (mX5_appendUnlessNothing hc10) dX5_feed_103 gX5_feed_X5_appendUnlessNothing rfl ⟨rfl, by decide, by decide, by decide +kernel⟩ ⟨by decide, by decide⟩ ⟨by decide, by decide⟩ 0 rfl rfl rfl rfl (Nat.le_of_ble_eq_true rfl) (by decide +kernel) rfl rfl (fun hg10 => ?_)
              have hf : zfr [19, 20] h0 r10 := zfr_tr hf (by decide) hg10
              refine z_aload_n hX dX5_feed_106 1 rfl ?_
              refine z_iload hX dX5_feed_107 5 rfl ?_
              obtain ⟨r11, hc11, hr⟩ := z_bind hr
              refine z_callV_v (As := [.int (iI p4)]) (k1 := 0) (n1 := 0) (nA := 1) hX (mX5_appendUnlessNothing hc11) dX5_feed_109 gX5_feed_X5_appendUnlessNothing rfl ⟨rfl, by decide, by decide, by decide +kernel⟩ ⟨by decide, by decide⟩ ⟨by decide, by decide⟩ 0 rfl rfl rfl rfl (Nat.le_of_ble_eq_true rfl) (by decide +kernel) rfl rfl (fun hg11 => ?_)
              have hf : zfr [19, 20] h0 r11 := zfr_tr hf (by decide) hg11
              refine z_aload_n hX dX5_feed_112 1 rfl ?_
              refine z_getR (j := 19) hX dX5_feed_113 fl_49 0 rfl rfl ?_
              obtain ⟨r12, hc12, hr⟩ := z_bind hr
              refine z_callV_i (As := []) (k1 := 0) (n1 := 0) (nA := 0) hX (mX3_size hc12) dX5_feed_116 gX5_feed_X3_size rfl ⟨rfl, by decide, by decide, by decide +kernel⟩ ⟨by decide, by decide⟩ ⟨by decide, by decide⟩ 19 rfl rfl rfl rfl (Nat.le_of_ble_eq_true rfl) (by decide +kernel) rfl rfl (fun hg12 => ?_)
              refine z_widen (k1 := 1) (n1 := 6) (by decide) (by decide) ?_
              obtain rfl := Option.some.inj hr
              exact hQ _ _ dX5_feed_119 rfl hf
            · obtain rfl := Option.some.inj hr
              have th : zThr wsX5_feed 98 178 102 3 zMsg_178 := ⟨by decide +kernel, by decide +kernel, ⟨by decide +kernel, by decide +kernel, by decide⟩, by decide +kernel, by decide +kernel, by decide +kernel⟩
              exact hT _ 78 98 178 102 _ _ zMsg_178 _ th dX5_feed_78 dX5_feed_81 dX5_feed_82 dX5_feed_84 dX5_feed_87 (by decide) (Nat.le_of_ble_eq_true rfl) (by decide) (by decide) (by decide : (3 : Int) ≠ 0) hf
          · refine z_lv [] rfl ?_
            exact B33 h0 hf hr

def fX5_found (p1 : Int) (h : HS) : Option (Int × Int × HS) := if wr p1 = 0 then some (0, (h 0 13), h) else if wr p1 = 1 then some (0, (h 0 14), h) else if wr p1 = 2 then some (0, (h 0 15), h) else some (1, 0, h)
set_option maxRecDepth 100000 in
set_option maxHeartbeats 4000000 in
theorem mX5_found {G : ZG} {l0 : Launch} {ad : Nat → Nat} {h0 : HS} {p1 : Int} {o : Int × Int × HS} (hst : l0.stackTraces = false) (hr : fX5_found p1 h0 = some o) : ZTi G l0 yX5_found wsX5_found ({ frames := 6, cells := 1, slots := 6, locals := 90 }) [.ref (ad 0), .int (iI p1)] sh_7 ad ad h0 [] o.1 o.2.1 o.2.2 := by
  refine ZTi.of (cc := cX5_found) (maxL := 2) (ret := (some .int)) (lv0 := [(0, .ref (ad 0)), (1, .int (iI p1))]) hst (by decide) rfl rfl rfl (Nat.le_of_ble_eq_true rfl) rfl ?_
  intro X hX hQ hT
  have hf : zfr [] h0 h0 := zfr_rf
  have fl_73 : zFld wsX5_found RX5 73 5 RX5 TX5 16 13 := ⟨by decide +kernel, by decide +kernel, by decide, rfl⟩
  have fl_76 : zFld wsX5_found RX5 76 5 RX5 TX5 16 14 := ⟨by decide +kernel, by decide +kernel, by decide, rfl⟩
  have fl_79 : zFld wsX5_found RX5 79 5 RX5 TX5 16 15 := ⟨by decide +kernel, by decide +kernel, by decide, rfl⟩
  unfold fX5_found at hr
  refine z_iload_n hX dX5_found_0 1 rfl ?_
  by_cases n0 : wr p1 = 0
  · have hr := z_ifp hr n0
    refine z_tableIn (v := 0) (tgt := 28) hX dX5_found_1 n0 (by decide) (by decide) rfl (by decide) ?_
    refine z_aload_n hX dX5_found_28 0 rfl ?_
    refine z_getI hX dX5_found_29 fl_73 0 rfl rfl ?_
    refine z_widen (k1 := 1) (n1 := 6) (by decide) (by decide) ?_
    obtain rfl := Option.some.inj hr
    exact hQ _ _ dX5_found_32 rfl hf
  · have hr := z_ifn hr n0
    by_cases n1 : wr p1 = 1
    · have hr := z_ifp hr n1
      refine z_tableIn (v := 1) (tgt := 33) hX dX5_found_1 n1 (by decide) (by decide) rfl (by decide) ?_
      refine z_aload_n hX dX5_found_33 0 rfl ?_
      refine z_getI hX dX5_found_34 fl_76 0 rfl rfl ?_
      refine z_widen (k1 := 1) (n1 := 6) (by decide) (by decide) ?_
      obtain rfl := Option.some.inj hr
      exact hQ _ _ dX5_found_37 rfl hf
    · have hr := z_ifn hr n1
      by_cases n2 : wr p1 = 2
      · have hr := z_ifp hr n2
        refine z_tableIn (v := 2) (tgt := 38) hX dX5_found_1 n2 (by decide) (by decide) rfl (by decide) ?_
        refine z_aload_n hX dX5_found_38 0 rfl ?_
        refine z_getI hX dX5_found_39 fl_79 0 rfl rfl ?_
        refine z_widen (k1 := 1) (n1 := 6) (by decide) (by decide) ?_
        obtain rfl := Option.some.inj hr
        exact hQ _ _ dX5_found_42 rfl hf
      · have hr := z_ifn hr n2
        refine z_tableOut (tgt := 43) hX dX5_found_1 (by omega) (by decide) ?_
        obtain rfl := Option.some.inj hr
        have th : zThr wsX5_found 110 196 114 1 zMsg_196 := ⟨by decide +kernel, by decide +kernel, ⟨by decide +kernel, by decide +kernel, by decide⟩, by decide +kernel, by decide +kernel, by decide +kernel⟩
        exact hT _ 43 110 196 114 _ _ zMsg_196 _ th dX5_found_43 dX5_found_46 dX5_found_47 dX5_found_49 dX5_found_52 (by decide) (Nat.le_of_ble_eq_true rfl) (by decide) (by decide) (by decide : (1 : Int) ≠ 0) hf

