def fX3_size (h : HS) : Option (Int) := some (h 19 1)
set_option maxRecDepth 100000 in
set_option maxHeartbeats 4000000 in
theorem mX3_size {G : ZG} {l0 : Launch} {ad : Nat → Nat} {h0 : HS} {o : Int} (hr : fX3_size h0 = some o) : ZMi G l0 yX3_size wsX3_size ({ frames := 0, cells := 0, slots := 0, locals := 0 }) [.ref (ad 19)] sh_1 ad h0 [] o h0 := by
  refine ZMi.of (cc := cX3_size) (maxL := 1) (ret := (some .int)) (own := RX3) (lv0 := [(0, .ref (ad 19))]) (by decide) rfl rfl rfl (Nat.le_of_ble_eq_true rfl) rfl ?_
  intro X hX hQ
  have hf : zfr [] h0 h0 := zfr_rf
  have fl_15 : zFld wsX3_size RX3 15 3 RX3 TX3 3 1 := ⟨by decide +kernel, by decide +kernel, by decide, rfl⟩
  unfold fX3_size at hr
  refine z_aload_n hX dX3_size_0 0 rfl ?_
  refine z_getI hX dX3_size_1 fl_15 0 rfl rfl ?_
  obtain rfl := Option.some.inj hr
  exact hQ _ _ dX3_size_4 hf

def fX3_hasSpilled (h : HS) : Option (Int) := if (h 19 2) = 0 ∨ (h 19 2) = 1 then some (h 19 2) else none
set_option maxRecDepth 100000 in
set_option maxHeartbeats 4000000 in
theorem mX3_hasSpilled {G : ZG} {l0 : Launch} {ad : Nat → Nat} {h0 : HS} {o : Int} (hr : fX3_hasSpilled h0 = some o) : ZMi G l0 yX3_hasSpilled wsX3_hasSpilled ({ frames := 0, cells := 0, slots := 0, locals := 0 }) [.ref (ad 19)] sh_1 ad h0 [] o h0 := by
  refine ZMi.ofZ (cc := cX3_hasSpilled) (maxL := 1) (ret := (some .boolean)) (own := RX3) (lv0 := [(0, .ref (ad 19))]) (by decide) rfl rfl rfl (Nat.le_of_ble_eq_true rfl) rfl ?_
  intro X hX hQ
  have hf : zfr [] h0 h0 := zfr_rf
  have fl_19 : zFld wsX3_hasSpilled RX3 19 3 RX3 TX3 3 2 := ⟨by decide +kernel, by decide +kernel, by decide, rfl⟩
  unfold fX3_hasSpilled at hr
  refine z_aload_n hX dX3_hasSpilled_0 0 rfl ?_
  refine z_getI hX dX3_hasSpilled_1 fl_19 0 rfl rfl ?_
  obtain ⟨hz, hr⟩ := z_ifg hr
  obtain rfl := Option.some.inj hr
  exact hQ _ _ dX3_hasSpilled_4 hf hz

def fX3_get (p1 : Int) (h : HS) : Option (Int) := if wr p1 < 0 then some (-1) else if wr (h 19 1) ≤ wr p1 then some (-1) else if (0 : Int) ≤ p1 ∧ p1 < 2000 then some (h 20 p1) else none
set_option maxRecDepth 100000 in
set_option maxHeartbeats 4000000 in
theorem mX3_get {G : ZG} {l0 : Launch} {ad : Nat → Nat} {h0 : HS} {p1 : Int} {o : Int} (hr : fX3_get p1 h0 = some o) : ZMi G l0 yX3_get wsX3_get ({ frames := 0, cells := 0, slots := 0, locals := 0 }) [.ref (ad 19), .int (iI p1)] sh_1 ad h0 [] o h0 := by
  refine ZMi.of (cc := cX3_get) (maxL := 2) (ret := (some .int)) (own := RX3) (lv0 := [(0, .ref (ad 19)), (1, .int (iI p1))]) (by decide) rfl rfl rfl (Nat.le_of_ble_eq_true rfl) rfl ?_
  intro X hX hQ
  have hf : zfr [] h0 h0 := zfr_rf
  have fl_15 : zFld wsX3_get RX3 15 3 RX3 TX3 3 1 := ⟨by decide +kernel, by decide +kernel, by decide, rfl⟩
  have fl_9 : zFld wsX3_get RX3 9 3 RX3 TX3 3 0 := ⟨by decide +kernel, by decide +kernel, by decide, rfl⟩
  unfold fX3_get at hr
  refine z_iload_n hX dX3_get_0 1 rfl ?_
  refine z_if_lt (tgt := 21) hX dX3_get_1 (by decide) rfl hr (fun hr => ?_) (fun hr => ?_)
  · refine z_iconst hX dX3_get_21 ?_
    obtain rfl := Option.some.inj hr
    exact hQ _ _ dX3_get_22 hf
  · refine z_iload_n hX dX3_get_4 1 rfl ?_
    refine z_aload_n hX dX3_get_5 0 rfl ?_
    refine z_getI hX dX3_get_6 fl_15 0 rfl rfl ?_
    refine z_icmp_ge (tgt := 21) hX dX3_get_9 (by decide) rfl rfl hr (fun hr => ?_) (fun hr => ?_)
    · refine z_iconst hX dX3_get_21 ?_
      obtain rfl := Option.some.inj hr
      exact hQ _ _ dX3_get_22 hf
    · refine z_aload_n hX dX3_get_12 0 rfl ?_
      refine z_getR (j := 20) hX dX3_get_13 fl_9 0 rfl rfl ?_
      refine z_iload_n hX dX3_get_16 1 rfl ?_
      refine z_iaload (b := 2000) hX dX3_get_17 1 rfl (by decide) rfl hr (fun hr => ?_)
      refine z_goto (tgt := 22) hX dX3_get_18 (by decide) ?_
      obtain rfl := Option.some.inj hr
      exact hQ _ _ dX3_get_22 hf

def fX3_wipe (h : HS) : Option (HS) := if (0 : Int) = 0 ∨ (0 : Int) = 1 then some (hs (hs h 19 1 0) 19 2 0) else none
set_option maxRecDepth 100000 in
set_option maxHeartbeats 4000000 in
theorem mX3_wipe {G : ZG} {l0 : Launch} {ad : Nat → Nat} {h0 : HS} {o : HS} (hr : fX3_wipe h0 = some o) : ZMv G l0 yX3_wipe wsX3_wipe ({ frames := 0, cells := 0, slots := 0, locals := 0 }) [.ref (ad 19)] sh_1 ad h0 [19] o := by
  refine ZMv.of (cc := cX3_wipe) (maxL := 1) (ret := none) (own := RX3) (lv0 := [(0, .ref (ad 19))]) (by decide) rfl rfl rfl (Nat.le_of_ble_eq_true rfl) rfl ?_
  intro X hX hQ
  have hf : zfr [19] h0 h0 := zfr_rf
  have fl_15 : zFld wsX3_wipe RX3 15 3 RX3 TX3 3 1 := ⟨by decide +kernel, by decide +kernel, by decide, rfl⟩
  have fl_19 : zFld wsX3_wipe RX3 19 3 RX3 TX3 3 2 := ⟨by decide +kernel, by decide +kernel, by decide, rfl⟩
  have pu_X3_1 : zPut TX3 3 1 tyX3 .int := ⟨tyX3_ok, nmX3, rfl, by decide +kernel⟩
  have pu_X3_2 : zPut TX3 3 2 tyX3 .boolean := ⟨tyX3_ok, nmX3, rfl, by decide +kernel⟩
  unfold fX3_wipe at hr
  refine z_aload_n hX dX3_wipe_0 0 rfl ?_
  refine z_iconst hX dX3_wipe_1 ?_
  refine z_putI hX dX3_wipe_2 fl_15 pu_X3_1 0 rfl rfl ?_
  have hf : zfr [19] h0 (hs h0 19 1 0) := zfr_hs hf (by decide)
  refine z_aload_n hX dX3_wipe_5 0 rfl ?_
  refine z_iconst hX dX3_wipe_6 ?_
  refine z_putZ hX dX3_wipe_7 fl_19 pu_X3_2 0 rfl rfl hr (fun hr => ?_)
  have hf : zfr [19] h0 (hs (hs h0 19 1 0) 19 2 0) := zfr_hs hf (by decide)
  obtain rfl := Option.some.inj hr
  exact hQ _ _ dX3_wipe_10 hf

def fX3_append (p1 : Int) (h : HS) : Option (HS) := if (2000 : Int) ≤ wr (h 19 1) then if (1 : Int) = 0 ∨ (1 : Int) = 1 then some (hs h 19 2 1) else none else if (0 : Int) ≤ (h 19 1) ∧ (h 19 1) < 2000 then some (hs (hs h 20 (h 19 1) p1) 19 1 ((((hs h 20 (h 19 1) p1)) 19 1) + 1)) else none
set_option maxRecDepth 100000 in
set_option maxHeartbeats 4000000 in
theorem mX3_append {G : ZG} {l0 : Launch} {ad : Nat → Nat} {h0 : HS} {p1 : Int} {o : HS} (hr : fX3_append p1 h0 = some o) : ZMv G l0 yX3_append wsX3_append ({ frames := 0, cells := 0, slots := 0, locals := 0 }) [.ref (ad 19), .int (iI p1)] sh_1 ad h0 [19, 20] o := by
  refine ZMv.of (cc := cX3_append) (maxL := 2) (ret := none) (own := RX3) (lv0 := [(0, .ref (ad 19)), (1, .int (iI p1))]) (by decide) rfl rfl rfl (Nat.le_of_ble_eq_true rfl) rfl ?_
  intro X hX hQ
  have hf : zfr [19, 20] h0 h0 := zfr_rf
  have fl_15 : zFld wsX3_append RX3 15 3 RX3 TX3 3 1 := ⟨by decide +kernel, by decide +kernel, by decide, rfl⟩
  have fl_19 : zFld wsX3_append RX3 19 3 RX3 TX3 3 2 := ⟨by decide +kernel, by decide +kernel, by decide, rfl⟩
  have fl_9 : zFld wsX3_append RX3 9 3 RX3 TX3 3 0 := ⟨by decide +kernel, by decide +kernel, by decide, rfl⟩
  have pu_X3_1 : zPut TX3 3 1 tyX3 .int := ⟨tyX3_ok, nmX3, rfl, by decide +kernel⟩
  have pu_X3_2 : zPut TX3 3 2 tyX3 .boolean := ⟨tyX3_ok, nmX3, rfl, by decide +kernel⟩
  unfold fX3_append at hr
  refine z_aload_n hX dX3_append_0 0 rfl ?_
  refine z_getI hX dX3_append_1 fl_15 0 rfl rfl ?_
  refine z_aload_n hX dX3_append_4 0 rfl ?_
  refine z_getR (j := 20) hX dX3_append_5 fl_9 0 rfl rfl ?_
  refine z_alen hX dX3_append_8 1 rfl ?_
  refine z_icmp_ge (tgt := 35) hX dX3_append_9 (by decide) rfl (wr_of (by decide) (by decide)) hr (fun hr => ?_) (fun hr => ?_)
  · refine z_aload_n hX dX3_append_35 0 rfl ?_
    refine z_iconst hX dX3_append_36 ?_
    refine z_putZ hX dX3_append_37 fl_19 pu_X3_2 0 rfl rfl hr (fun hr => ?_)
    have hf : zfr [19, 20] h0 (hs h0 19 2 1) := zfr_hs hf (by decide)
    obtain rfl := Option.some.inj hr
    exact hQ _ _ dX3_append_40 hf
  · refine z_aload_n hX dX3_append_12 0 rfl ?_
    refine z_getR (j := 20) hX dX3_append_13 fl_9 0 rfl rfl ?_
    refine z_aload_n hX dX3_append_16 0 rfl ?_
    refine z_getI hX dX3_append_17 fl_15 0 rfl rfl ?_
    refine z_iload_n hX dX3_append_20 1 rfl ?_
    refine z_iastore (b := 2000) hX dX3_append_21 1 rfl (by decide) rfl hr (fun hr => ?_)
    have hf : zfr [19, 20] h0 (hs h0 20 (h0 19 1) p1) := zfr_hs hf (by decide)
    refine z_aload_n hX dX3_append_22 0 rfl ?_
    refine z_dup hX dX3_append_23 rfl ?_
    refine z_getI hX dX3_append_24 fl_15 0 rfl rfl ?_
    refine z_iconst hX dX3_append_27 ?_
    refine z_iadd hX dX3_append_28 ?_
    refine z_putI hX dX3_append_29 fl_15 pu_X3_1 0 rfl rfl ?_
    have hf : zfr [19, 20] h0 (hs (hs h0 20 (h0 19 1) p1) 19 1 ((((hs h0 20 (h0 19 1) p1)) 19 1) + 1)) := zfr_hs hf (by decide)
    refine z_goto (tgt := 40) hX dX3_append_32 (by decide) ?_
    obtain rfl := Option.some.inj hr
    exact hQ _ _ dX3_append_40 hf

def fX3_separate (h : HS) : Option (HS) := if wr (h 19 1) ≤ 0 then some h else (fX3_get ((h 19 1) - 1) h).bind fun r1 => if wr r1 = (40 : Int) then some h else (fX3_append 32 h).bind fun r2 => some r2
set_option maxRecDepth 100000 in
set_option maxHeartbeats 4000000 in
theorem mX3_separate {G : ZG} {l0 : Launch} {ad : Nat → Nat} {h0 : HS} {o : HS} (hr : fX3_separate h0 = some o) : ZMv G l0 yX3_separate wsX3_separate ({ frames := 1, cells := 0, slots := 0, locals := 21 }) [.ref (ad 19)] sh_1 ad h0 [19, 20] o := by
  refine ZMv.of (cc := cX3_separate) (maxL := 1) (ret := none) (own := RX3) (lv0 := [(0, .ref (ad 19))]) (by decide) rfl rfl rfl (Nat.le_of_ble_eq_true rfl) rfl ?_
  intro X hX hQ
  have hf : zfr [19, 20] h0 h0 := zfr_rf
  have fl_15 : zFld wsX3_separate RX3 15 3 RX3 TX3 3 1 := ⟨by decide +kernel, by decide +kernel, by decide, rfl⟩
  unfold fX3_separate at hr
  refine z_aload_n hX dX3_separate_0 0 rfl ?_
  refine z_getI hX dX3_separate_1 fl_15 0 rfl rfl ?_
  refine z_if_le (tgt := 28) hX dX3_separate_4 (by decide) rfl hr (fun hr => ?_) (fun hr => ?_)
  · obtain rfl := Option.some.inj hr
    exact hQ _ _ dX3_separate_28 hf
  · refine z_aload_n hX dX3_separate_7 0 rfl ?_
    refine z_aload_n hX dX3_separate_8 0 rfl ?_
    refine z_getI hX dX3_separate_9 fl_15 0 rfl rfl ?_
    refine z_iconst hX dX3_separate_12 ?_
    refine z_isub hX dX3_separate_13 ?_
    obtain ⟨r1, hc1, hr⟩ := z_bind hr
    refine z_callV_i (As := [.int (iI ((h0 19 1) - 1))]) (k1 := 0) (n1 := 0) (nA := 1) hX (mX3_get hc1) dX3_separate_14 gX3_separate_X3_get rfl ⟨rfl, by decide, by decide, by decide +kernel⟩ ⟨by decide, by decide⟩ ⟨by decide, by decide⟩ 0 rfl rfl rfl rfl (Nat.le_of_ble_eq_true rfl) (by decide +kernel) rfl rfl (fun hg1 => ?_)
    refine z_bipush hX dX3_separate_17 (by decide +kernel) ?_
    refine z_icmp_eq (tgt := 28) hX dX3_separate_19 (by decide) rfl (wr_of (by decide) (by decide)) hr (fun hr => ?_) (fun hr => ?_)
    · obtain rfl := Option.some.inj hr
      exact hQ _ _ dX3_separate_28 hf
    · refine z_aload_n hX dX3_separate_22 0 rfl ?_
      refine z_bipush hX dX3_separate_23 (by decide +kernel) ?_
      obtain ⟨r2, hc2, hr⟩ := z_bind hr
      refine z_callV_v (As := [.int (iI 32)]) (k1 := 0) (n1 := 0) (nA := 1) hX (mX3_append hc2) dX3_separate_25 gX3_separate_X3_append rfl ⟨rfl, by decide, by decide, by decide +kernel⟩ ⟨by decide, by decide⟩ ⟨by decide, by decide⟩ 0 rfl rfl rfl rfl (Nat.le_of_ble_eq_true rfl) (by decide +kernel) rfl rfl (fun hg2 => ?_)
      have hf : zfr [19, 20] h0 r2 := zfr_tr hf (by decide) hg2
      obtain rfl := Option.some.inj hr
      exact hQ _ _ dX3_separate_28 hf

def fX3_isOfWord (p1 : Int) (h : HS) : Option (Int) := (fX3_get p1 h).bind fun r1 => if wr r1 = ((-1) : Int) then some 0 else if wr r1 = (32 : Int) then some 0 else if wr r1 = (40 : Int) then some 0 else if wr r1 = (41 : Int) then some 0 else some 1
set_option maxRecDepth 100000 in
set_option maxHeartbeats 4000000 in
theorem mX3_isOfWord {G : ZG} {l0 : Launch} {ad : Nat → Nat} {h0 : HS} {p1 : Int} {o : Int} (hr : fX3_isOfWord p1 h0 = some o) : ZMi G l0 yX3_isOfWord wsX3_isOfWord ({ frames := 1, cells := 0, slots := 0, locals := 21 }) [.ref (ad 19), .int (iI p1)] sh_1 ad h0 [] o h0 := by
  refine ZMi.ofZ (cc := cX3_isOfWord) (maxL := 3) (ret := (some .boolean)) (own := RX3) (lv0 := [(0, .ref (ad 19)), (1, .int (iI p1))]) (by decide) rfl rfl rfl (Nat.le_of_ble_eq_true rfl) rfl ?_
  intro X hX hQ
  have hf : zfr [] h0 h0 := zfr_rf
  unfold fX3_isOfWord at hr
  refine z_aload_n hX dX3_isOfWord_0 0 rfl ?_
  refine z_iload_n hX dX3_isOfWord_1 1 rfl ?_
  obtain ⟨r1, hc1, hr⟩ := z_bind hr
  refine z_callV_i (As := [.int (iI p1)]) (k1 := 0) (n1 := 0) (nA := 1) hX (mX3_get hc1) dX3_isOfWord_2 gX3_isOfWord_X3_get rfl ⟨rfl, by decide, by decide, by decide +kernel⟩ ⟨by decide, by decide⟩ ⟨by decide, by decide⟩ 0 rfl rfl rfl rfl (Nat.le_of_ble_eq_true rfl) (by decide +kernel) rfl rfl (fun hg1 => ?_)
  refine z_istore_n (lv1 := [(2, .int (iI r1)), (0, .ref (ad 19)), (1, .int (iI p1))]) hX dX3_isOfWord_5 (by decide) rfl ?_
  refine z_iload_n hX dX3_isOfWord_6 0 rfl ?_
  refine z_iconst hX dX3_isOfWord_7 ?_
  refine z_icmp_eq (tgt := 33) hX dX3_isOfWord_8 (by decide) rfl (wr_of (by decide) (by decide)) hr (fun hr => ?_) (fun hr => ?_)
  · refine z_iconst hX dX3_isOfWord_33 ?_
    obtain rfl := Option.some.inj hr
    exact hQ _ _ dX3_isOfWord_34 hf (Or.inl rfl)
  · refine z_iload_n hX dX3_isOfWord_11 0 rfl ?_
    refine z_bipush hX dX3_isOfWord_12 (by decide +kernel) ?_
    refine z_icmp_eq (tgt := 33) hX dX3_isOfWord_14 (by decide) rfl (wr_of (by decide) (by decide)) hr (fun hr => ?_) (fun hr => ?_)
    · refine z_iconst hX dX3_isOfWord_33 ?_
      obtain rfl := Option.some.inj hr
      exact hQ _ _ dX3_isOfWord_34 hf (Or.inl rfl)
    · refine z_iload_n hX dX3_isOfWord_17 0 rfl ?_
      refine z_bipush hX dX3_isOfWord_18 (by decide +kernel) ?_
      refine z_icmp_eq (tgt := 33) hX dX3_isOfWord_20 (by decide) rfl (wr_of (by decide) (by decide)) hr (fun hr => ?_) (fun hr => ?_)
      · refine z_iconst hX dX3_isOfWord_33 ?_
        obtain rfl := Option.some.inj hr
        exact hQ _ _ dX3_isOfWord_34 hf (Or.inl rfl)
      · refine z_iload_n hX dX3_isOfWord_23 0 rfl ?_
        refine z_bipush hX dX3_isOfWord_24 (by decide +kernel) ?_
        refine z_icmp_eq (tgt := 33) hX dX3_isOfWord_26 (by decide) rfl (wr_of (by decide) (by decide)) hr (fun hr => ?_) (fun hr => ?_)
        · refine z_iconst hX dX3_isOfWord_33 ?_
          obtain rfl := Option.some.inj hr
          exact hQ _ _ dX3_isOfWord_34 hf (Or.inl rfl)
        · refine z_iconst hX dX3_isOfWord_29 ?_
          refine z_goto (tgt := 34) hX dX3_isOfWord_30 (by decide) ?_
          obtain rfl := Option.some.inj hr
          exact hQ _ _ dX3_isOfWord_34 hf (Or.inr rfl)

def fX3_isWordStart (p1 : Int) (h : HS) : Option (Int) := (fX3_isOfWord p1 h).bind fun r1 => if wr r1 = 0 then some 0 else (fX3_isOfWord (p1 - 1) h).bind fun r2 => if wr r2 = 0 then some 1 else some 0
set_option maxRecDepth 100000 in
set_option maxHeartbeats 4000000 in
theorem mX3_isWordStart {G : ZG} {l0 : Launch} {ad : Nat → Nat} {h0 : HS} {p1 : Int} {o : Int} (hr : fX3_isWordStart p1 h0 = some o) : ZMi G l0 yX3_isWordStart wsX3_isWordStart ({ frames := 2, cells := 0, slots := 0, locals := 43 }) [.ref (ad 19), .int (iI p1)] sh_1 ad h0 [] o h0 := by
  refine ZMi.ofZ (cc := cX3_isWordStart) (maxL := 2) (ret := (some .boolean)) (own := RX3) (lv0 := [(0, .ref (ad 19)), (1, .int (iI p1))]) (by decide) rfl rfl rfl (Nat.le_of_ble_eq_true rfl) rfl ?_
  intro X hX hQ
  have hf : zfr [] h0 h0 := zfr_rf
  unfold fX3_isWordStart at hr
  refine z_aload_n hX dX3_isWordStart_0 0 rfl ?_
  refine z_iload_n hX dX3_isWordStart_1 1 rfl ?_
  obtain ⟨r1, hc1, hr⟩ := z_bind hr
  refine z_callV_i (As := [.int (iI p1)]) (k1 := 0) (n1 := 0) (nA := 1) hX (mX3_isOfWord hc1) dX3_isWordStart_2 gX3_isWordStart_X3_isOfWord rfl ⟨rfl, by decide, by decide, by decide +kernel⟩ ⟨by decide, by decide⟩ ⟨by decide, by decide⟩ 0 rfl rfl rfl rfl (Nat.le_of_ble_eq_true rfl) (by decide +kernel) rfl rfl (fun hg1 => ?_)
  refine z_if_eq (tgt := 22) hX dX3_isWordStart_5 (by decide) rfl hr (fun hr => ?_) (fun hr => ?_)
  · refine z_iconst hX dX3_isWordStart_22 ?_
    obtain rfl := Option.some.inj hr
    exact hQ _ _ dX3_isWordStart_23 hf (Or.inl rfl)
  · refine z_aload_n hX dX3_isWordStart_8 0 rfl ?_
    refine z_iload_n hX dX3_isWordStart_9 1 rfl ?_
    refine z_iconst hX dX3_isWordStart_10 ?_
    refine z_isub hX dX3_isWordStart_11 ?_
    obtain ⟨r2, hc2, hr⟩ := z_bind hr
    refine z_callV_i (As := [.int (iI (p1 - 1))]) (k1 := 0) (n1 := 0) (nA := 1) hX (mX3_isOfWord hc2) dX3_isWordStart_12 gX3_isWordStart_X3_isOfWord rfl ⟨rfl, by decide, by decide, by decide +kernel⟩ ⟨by decide, by decide⟩ ⟨by decide, by decide⟩ 0 rfl rfl rfl rfl (Nat.le_of_ble_eq_true rfl) (by decide +kernel) rfl rfl (fun hg2 => ?_)
    refine z_if_ne (tgt := 22) hX dX3_isWordStart_15 (by decide) rfl hr (fun hr => ?_) (fun hr => ?_)
    · refine z_iconst hX dX3_isWordStart_22 ?_
      obtain rfl := Option.some.inj hr
      exact hQ _ _ dX3_isWordStart_23 hf (Or.inl rfl)
    · refine z_iconst hX dX3_isWordStart_18 ?_
      refine z_goto (tgt := 23) hX dX3_isWordStart_19 (by decide) ?_
      obtain rfl := Option.some.inj hr
      exact hQ _ _ dX3_isWordStart_23 hf (Or.inr rfl)

def fX3_wordEnd_L2 : Nat → Int → HS → Option (Int)
  | 0, _, _ => none
  | nf + 1, x2, h => if wr (h 19 1) ≤ wr x2 then some x2 else (fX3_isOfWord x2 h).bind fun r1 => if wr r1 = 0 then some x2 else fX3_wordEnd_L2 nf (x2 + 1) h
def fX3_wordEnd (p1 : Int) (h : HS) : Option (Int) := fX3_wordEnd_L2 zF p1 h
set_option maxRecDepth 100000 in
set_option maxHeartbeats 4000000 in
theorem mX3_wordEnd {G : ZG} {l0 : Launch} {ad : Nat → Nat} {h0 : HS} {p1 : Int} {o : Int} (hr : fX3_wordEnd p1 h0 = some o) : ZMi G l0 yX3_wordEnd wsX3_wordEnd ({ frames := 2, cells := 0, slots := 0, locals := 43 }) [.ref (ad 19), .int (iI p1)] sh_1 ad h0 [] o h0 := by
  refine ZMi.of (cc := cX3_wordEnd) (maxL := 3) (ret := (some .int)) (own := RX3) (lv0 := [(0, .ref (ad 19)), (1, .int (iI p1))]) (by decide) rfl rfl rfl (Nat.le_of_ble_eq_true rfl) rfl ?_
  intro X hX hQ
  have hf : zfr [] h0 h0 := zfr_rf
  have fl_15 : zFld wsX3_wordEnd RX3 15 3 RX3 TX3 3 1 := ⟨by decide +kernel, by decide +kernel, by decide, rfl⟩
  have B2 : ∀ (nf : Nat) (x2 : Int), fX3_wordEnd_L2 nf x2 h0 = some o → ZW G X sh_1 ad h0 0 0 [(0, .ref (ad 19)), (2, .int (iI x2))] 2 [] := by
    intro nf
    induction nf with
    | zero => intro x2 hr; exact z_none hr
    | succ n2 ih2 =>
      intro x2 hr
      unfold fX3_wordEnd_L2 at hr
      refine z_iload_n hX dX3_wordEnd_2 1 rfl ?_
      refine z_aload_n hX dX3_wordEnd_3 0 rfl ?_
      refine z_getI hX dX3_wordEnd_4 fl_15 0 rfl rfl ?_
      refine z_icmp_ge (tgt := 24) hX dX3_wordEnd_7 (by decide) rfl rfl hr (fun hr => ?_) (fun hr => ?_)
      · refine z_iload_n hX dX3_wordEnd_24 1 rfl ?_
        obtain rfl := Option.some.inj hr
        exact hQ _ _ dX3_wordEnd_25 hf
      · refine z_aload_n hX dX3_wordEnd_10 0 rfl ?_
        refine z_iload_n hX dX3_wordEnd_11 1 rfl ?_
        obtain ⟨r1, hc1, hr⟩ := z_bind hr
        refine z_callV_i (As := [.int (iI x2)]) (k1 := 0) (n1 := 0) (nA := 1) hX (mX3_isOfWord hc1) dX3_wordEnd_12 gX3_wordEnd_X3_isOfWord rfl ⟨rfl, by decide, by decide, by decide +kernel⟩ ⟨by decide, by decide⟩ ⟨by decide, by decide⟩ 0 rfl rfl rfl rfl (Nat.le_of_ble_eq_true rfl) (by decide +kernel) rfl rfl (fun hg1 => ?_)
        refine z_if_eq (tgt := 24) hX dX3_wordEnd_15 (by decide) rfl hr (fun hr => ?_) (fun hr => ?_)
        · refine z_iload_n hX dX3_wordEnd_24 1 rfl ?_
          obtain rfl := Option.some.inj hr
          exact hQ _ _ dX3_wordEnd_25 hf
        · refine z_iinc (lv1 := [(2, .int (iI (x2 + 1))), (0, .ref (ad 19))]) hX dX3_wordEnd_18 1 rfl (by decide) rfl ?_
          refine z_goto (tgt := 2) hX dX3_wordEnd_21 (by decide) ?_
          refine z_lv [1, 0] rfl ?_
          exact ih2 (x2 + 1) hr
  unfold fX3_wordEnd at hr
  refine z_iload_n hX dX3_wordEnd_0 1 rfl ?_
  refine z_istore_n (lv1 := [(2, .int (iI p1)), (0, .ref (ad 19)), (1, .int (iI p1))]) hX dX3_wordEnd_1 (by decide) rfl ?_
  refine z_lv [1, 0] rfl ?_
  exact B2 zF p1 hr

def fX3_size_d (h : HS) : Option (Int) := some (h 21 1)
set_option maxRecDepth 100000 in
set_option maxHeartbeats 4000000 in
theorem mX3_size_d {G : ZG} {l0 : Launch} {ad : Nat → Nat} {h0 : HS} {o : Int} (hr : fX3_size_d h0 = some o) : ZMi G l0 yX3_size wsX3_size ({ frames := 0, cells := 0, slots := 0, locals := 0 }) [.ref (ad 21)] sh_2 ad h0 [] o h0 := by
  refine ZMi.of (cc := cX3_size) (maxL := 1) (ret := (some .int)) (own := RX3) (lv0 := [(0, .ref (ad 21))]) (by decide) rfl rfl rfl (Nat.le_of_ble_eq_true rfl) rfl ?_
  intro X hX hQ
  have hf : zfr [] h0 h0 := zfr_rf
  have fl_15 : zFld wsX3_size RX3 15 3 RX3 TX3 3 1 := ⟨by decide +kernel, by decide +kernel, by decide, rfl⟩
  unfold fX3_size_d at hr
  refine z_aload_n hX dX3_size_0 0 rfl ?_
  refine z_getI hX dX3_size_1 fl_15 0 rfl rfl ?_
  obtain rfl := Option.some.inj hr
  exact hQ _ _ dX3_size_4 hf

def fX3_hasSpilled_d (h : HS) : Option (Int) := if (h 21 2) = 0 ∨ (h 21 2) = 1 then some (h 21 2) else none
set_option maxRecDepth 100000 in
set_option maxHeartbeats 4000000 in
theorem mX3_hasSpilled_d {G : ZG} {l0 : Launch} {ad : Nat → Nat} {h0 : HS} {o : Int} (hr : fX3_hasSpilled_d h0 = some o) : ZMi G l0 yX3_hasSpilled wsX3_hasSpilled ({ frames := 0, cells := 0, slots := 0, locals := 0 }) [.ref (ad 21)] sh_2 ad h0 [] o h0 := by
  refine ZMi.ofZ (cc := cX3_hasSpilled) (maxL := 1) (ret := (some .boolean)) (own := RX3) (lv0 := [(0, .ref (ad 21))]) (by decide) rfl rfl rfl (Nat.le_of_ble_eq_true rfl) rfl ?_
  intro X hX hQ
  have hf : zfr [] h0 h0 := zfr_rf
  have fl_19 : zFld wsX3_hasSpilled RX3 19 3 RX3 TX3 3 2 := ⟨by decide +kernel, by decide +kernel, by decide, rfl⟩
  unfold fX3_hasSpilled_d at hr
  refine z_aload_n hX dX3_hasSpilled_0 0 rfl ?_
  refine z_getI hX dX3_hasSpilled_1 fl_19 0 rfl rfl ?_
  obtain ⟨hz, hr⟩ := z_ifg hr
  obtain rfl := Option.some.inj hr
  exact hQ _ _ dX3_hasSpilled_4 hf hz

def fX3_get_d (p1 : Int) (h : HS) : Option (Int) := if wr p1 < 0 then some (-1) else if wr (h 21 1) ≤ wr p1 then some (-1) else if (0 : Int) ≤ p1 ∧ p1 < 2000 then some (h 22 p1) else none
set_option maxRecDepth 100000 in
set_option maxHeartbeats 4000000 in
theorem mX3_get_d {G : ZG} {l0 : Launch} {ad : Nat → Nat} {h0 : HS} {p1 : Int} {o : Int} (hr : fX3_get_d p1 h0 = some o) : ZMi G l0 yX3_get wsX3_get ({ frames := 0, cells := 0, slots := 0, locals := 0 }) [.ref (ad 21), .int (iI p1)] sh_2 ad h0 [] o h0 := by
  refine ZMi.of (cc := cX3_get) (maxL := 2) (ret := (some .int)) (own := RX3) (lv0 := [(0, .ref (ad 21)), (1, .int (iI p1))]) (by decide) rfl rfl rfl (Nat.le_of_ble_eq_true rfl) rfl ?_
  intro X hX hQ
  have hf : zfr [] h0 h0 := zfr_rf
  have fl_15 : zFld wsX3_get RX3 15 3 RX3 TX3 3 1 := ⟨by decide +kernel, by decide +kernel, by decide, rfl⟩
  have fl_9 : zFld wsX3_get RX3 9 3 RX3 TX3 3 0 := ⟨by decide +kernel, by decide +kernel, by decide, rfl⟩
  unfold fX3_get_d at hr
  refine z_iload_n hX dX3_get_0 1 rfl ?_
  refine z_if_lt (tgt := 21) hX dX3_get_1 (by decide) rfl hr (fun hr => ?_) (fun hr => ?_)
  · refine z_iconst hX dX3_get_21 ?_
    obtain rfl := Option.some.inj hr
    exact hQ _ _ dX3_get_22 hf
  · refine z_iload_n hX dX3_get_4 1 rfl ?_
    refine z_aload_n hX dX3_get_5 0 rfl ?_
    refine z_getI hX dX3_get_6 fl_15 0 rfl rfl ?_
    refine z_icmp_ge (tgt := 21) hX dX3_get_9 (by decide) rfl rfl hr (fun hr => ?_) (fun hr => ?_)
    · refine z_iconst hX dX3_get_21 ?_
      obtain rfl := Option.some.inj hr
      exact hQ _ _ dX3_get_22 hf
    · refine z_aload_n hX dX3_get_12 0 rfl ?_
      refine z_getR (j := 22) hX dX3_get_13 fl_9 0 rfl rfl ?_
      refine z_iload_n hX dX3_get_16 1 rfl ?_
      refine z_iaload (b := 2000) hX dX3_get_17 1 rfl (by decide) rfl hr (fun hr => ?_)
      refine z_goto (tgt := 22) hX dX3_get_18 (by decide) ?_
      obtain rfl := Option.some.inj hr
      exact hQ _ _ dX3_get_22 hf

def fX3_wipe_d (h : HS) : Option (HS) := if (0 : Int) = 0 ∨ (0 : Int) = 1 then some (hs (hs h 21 1 0) 21 2 0) else none
set_option maxRecDepth 100000 in
set_option maxHeartbeats 4000000 in
theorem mX3_wipe_d {G : ZG} {l0 : Launch} {ad : Nat → Nat} {h0 : HS} {o : HS} (hr : fX3_wipe_d h0 = some o) : ZMv G l0 yX3_wipe wsX3_wipe ({ frames := 0, cells := 0, slots := 0, locals := 0 }) [.ref (ad 21)] sh_2 ad h0 [21] o := by
  refine ZMv.of (cc := cX3_wipe) (maxL := 1) (ret := none) (own := RX3) (lv0 := [(0, .ref (ad 21))]) (by decide) rfl rfl rfl (Nat.le_of_ble_eq_true rfl) rfl ?_
  intro X hX hQ
  have hf : zfr [21] h0 h0 := zfr_rf
  have fl_15 : zFld wsX3_wipe RX3 15 3 RX3 TX3 3 1 := ⟨by decide +kernel, by decide +kernel, by decide, rfl⟩
  have fl_19 : zFld wsX3_wipe RX3 19 3 RX3 TX3 3 2 := ⟨by decide +kernel, by decide +kernel, by decide, rfl⟩
  have pu_X3_1 : zPut TX3 3 1 tyX3 .int := ⟨tyX3_ok, nmX3, rfl, by decide +kernel⟩
  have pu_X3_2 : zPut TX3 3 2 tyX3 .boolean := ⟨tyX3_ok, nmX3, rfl, by decide +kernel⟩
  unfold fX3_wipe_d at hr
  refine z_aload_n hX dX3_wipe_0 0 rfl ?_
  refine z_iconst hX dX3_wipe_1 ?_
  refine z_putI hX dX3_wipe_2 fl_15 pu_X3_1 0 rfl rfl ?_
  have hf : zfr [21] h0 (hs h0 21 1 0) := zfr_hs hf (by decide)
  refine z_aload_n hX dX3_wipe_5 0 rfl ?_
  refine z_iconst hX dX3_wipe_6 ?_
  refine z_putZ hX dX3_wipe_7 fl_19 pu_X3_2 0 rfl rfl hr (fun hr => ?_)
  have hf : zfr [21] h0 (hs (hs h0 21 1 0) 21 2 0) := zfr_hs hf (by decide)
  obtain rfl := Option.some.inj hr
  exact hQ _ _ dX3_wipe_10 hf

def fX3_append_d (p1 : Int) (h : HS) : Option (HS) := if (2000 : Int) ≤ wr (h 21 1) then if (1 : Int) = 0 ∨ (1 : Int) = 1 then some (hs h 21 2 1) else none else if (0 : Int) ≤ (h 21 1) ∧ (h 21 1) < 2000 then some (hs (hs h 22 (h 21 1) p1) 21 1 ((((hs h 22 (h 21 1) p1)) 21 1) + 1)) else none
set_option maxRecDepth 100000 in
set_option maxHeartbeats 4000000 in
theorem mX3_append_d {G : ZG} {l0 : Launch} {ad : Nat → Nat} {h0 : HS} {p1 : Int} {o : HS} (hr : fX3_append_d p1 h0 = some o) : ZMv G l0 yX3_append wsX3_append ({ frames := 0, cells := 0, slots := 0, locals := 0 }) [.ref (ad 21), .int (iI p1)] sh_2 ad h0 [21, 22] o := by
  refine ZMv.of (cc := cX3_append) (maxL := 2) (ret := none) (own := RX3) (lv0 := [(0, .ref (ad 21)), (1, .int (iI p1))]) (by decide) rfl rfl rfl (Nat.le_of_ble_eq_true rfl) rfl ?_
  intro X hX hQ
  have hf : zfr [21, 22] h0 h0 := zfr_rf
  have fl_15 : zFld wsX3_append RX3 15 3 RX3 TX3 3 1 := ⟨by decide +kernel, by decide +kernel, by decide, rfl⟩
  have fl_19 : zFld wsX3_append RX3 19 3 RX3 TX3 3 2 := ⟨by decide +kernel, by decide +kernel, by decide, rfl⟩
  have fl_9 : zFld wsX3_append RX3 9 3 RX3 TX3 3 0 := ⟨by decide +kernel, by decide +kernel, by decide, rfl⟩
  have pu_X3_1 : zPut TX3 3 1 tyX3 .int := ⟨tyX3_ok, nmX3, rfl, by decide +kernel⟩
  have pu_X3_2 : zPut TX3 3 2 tyX3 .boolean := ⟨tyX3_ok, nmX3, rfl, by decide +kernel⟩
  unfold fX3_append_d at hr
  refine z_aload_n hX dX3_append_0 0 rfl ?_
  refine z_getI hX dX3_append_1 fl_15 0 rfl rfl ?_
  refine z_aload_n hX dX3_append_4 0 rfl ?_
  refine z_getR (j := 22) hX dX3_append_5 fl_9 0 rfl rfl ?_
  refine z_alen hX dX3_append_8 1 rfl ?_
  refine z_icmp_ge (tgt := 35) hX dX3_append_9 (by decide) rfl (wr_of (by decide) (by decide)) hr (fun hr => ?_) (fun hr => ?_)
  · refine z_aload_n hX dX3_append_35 0 rfl ?_
    refine z_iconst hX dX3_append_36 ?_
    refine z_putZ hX dX3_append_37 fl_19 pu_X3_2 0 rfl rfl hr (fun hr => ?_)
    have hf : zfr [21, 22] h0 (hs h0 21 2 1) := zfr_hs hf (by decide)
    obtain rfl := Option.some.inj hr
    exact hQ _ _ dX3_append_40 hf
  · refine z_aload_n hX dX3_append_12 0 rfl ?_
    refine z_getR (j := 22) hX dX3_append_13 fl_9 0 rfl rfl ?_
    refine z_aload_n hX dX3_append_16 0 rfl ?_
    refine z_getI hX dX3_append_17 fl_15 0 rfl rfl ?_
    refine z_iload_n hX dX3_append_20 1 rfl ?_
    refine z_iastore (b := 2000) hX dX3_append_21 1 rfl (by decide) rfl hr (fun hr => ?_)
    have hf : zfr [21, 22] h0 (hs h0 22 (h0 21 1) p1) := zfr_hs hf (by decide)
    refine z_aload_n hX dX3_append_22 0 rfl ?_
    refine z_dup hX dX3_append_23 rfl ?_
    refine z_getI hX dX3_append_24 fl_15 0 rfl rfl ?_
    refine z_iconst hX dX3_append_27 ?_
    refine z_iadd hX dX3_append_28 ?_
    refine z_putI hX dX3_append_29 fl_15 pu_X3_1 0 rfl rfl ?_
    have hf : zfr [21, 22] h0 (hs (hs h0 22 (h0 21 1) p1) 21 1 ((((hs h0 22 (h0 21 1) p1)) 21 1) + 1)) := zfr_hs hf (by decide)
    refine z_goto (tgt := 40) hX dX3_append_32 (by decide) ?_
    obtain rfl := Option.some.inj hr
    exact hQ _ _ dX3_append_40 hf

def fX3_separate_d (h : HS) : Option (HS) := if wr (h 21 1) ≤ 0 then some h else (fX3_get_d ((h 21 1) - 1) h).bind fun r1 => if wr r1 = (40 : Int) then some h else (fX3_append_d 32 h).bind fun r2 => some r2
set_option maxRecDepth 100000 in
set_option maxHeartbeats 4000000 in
theorem mX3_separate_d {G : ZG} {l0 : Launch} {ad : Nat → Nat} {h0 : HS} {o : HS} (hr : fX3_separate_d h0 = some o) : ZMv G l0 yX3_separate wsX3_separate ({ frames := 1, cells := 0, slots := 0, locals := 21 }) [.ref (ad 21)] sh_2 ad h0 [21, 22] o := by
  refine ZMv.of (cc := cX3_separate) (maxL := 1) (ret := none) (own := RX3) (lv0 := [(0, .ref (ad 21))]) (by decide) rfl rfl rfl (Nat.le_of_ble_eq_true rfl) rfl ?_
  intro X hX hQ
  have hf : zfr [21, 22] h0 h0 := zfr_rf
  have fl_15 : zFld wsX3_separate RX3 15 3 RX3 TX3 3 1 := ⟨by decide +kernel, by decide +kernel, by decide, rfl⟩
  unfold fX3_separate_d at hr
  refine z_aload_n hX dX3_separate_0 0 rfl ?_
  refine z_getI hX dX3_separate_1 fl_15 0 rfl rfl ?_
  refine z_if_le (tgt := 28) hX dX3_separate_4 (by decide) rfl hr (fun hr => ?_) (fun hr => ?_)
  · obtain rfl := Option.some.inj hr
    exact hQ _ _ dX3_separate_28 hf
  · refine z_aload_n hX dX3_separate_7 0 rfl ?_
    refine z_aload_n hX dX3_separate_8 0 rfl ?_
    refine z_getI hX dX3_separate_9 fl_15 0 rfl rfl ?_
    refine z_iconst hX dX3_separate_12 ?_
    refine z_isub hX dX3_separate_13 ?_
    obtain ⟨r1, hc1, hr⟩ := z_bind hr
    refine z_callV_i (As := [.int (iI ((h0 21 1) - 1))]) (k1 := 0) (n1 := 0) (nA := 1) hX (mX3_get_d hc1) dX3_separate_14 gX3_separate_X3_get rfl ⟨rfl, by decide, by decide, by decide +kernel⟩ ⟨by decide, by decide⟩ ⟨by decide, by decide⟩ 0 rfl rfl rfl rfl (Nat.le_of_ble_eq_true rfl) (by decide +kernel) rfl rfl (fun hg1 => ?_)
    refine z_bipush hX dX3_separate_17 (by decide +kernel) ?_
    refine z_icmp_eq (tgt := 28) hX dX3_separate_19 (by decide) rfl (wr_of (by decide) (by decide)) hr (fun hr => ?_) (fun hr => ?_)
    · obtain rfl := Option.some.inj hr
      exact hQ _ _ dX3_separate_28 hf
    · refine z_aload_n hX dX3_separate_22 0 rfl ?_
      refine z_bipush hX dX3_separate_23 (by decide +kernel) ?_
      obtain ⟨r2, hc2, hr⟩ := z_bind hr
      refine z_callV_v (As := [.int (iI 32)]) (k1 := 0) (n1 := 0) (nA := 1) hX (mX3_append_d hc2) dX3_separate_25 gX3_separate_X3_append rfl ⟨rfl, by decide, by decide, by decide +kernel⟩ ⟨by decide, by decide⟩ ⟨by decide, by decide⟩ 0 rfl rfl rfl rfl (Nat.le_of_ble_eq_true rfl) (by decide +kernel) rfl rfl (fun hg2 => ?_)
      have hf : zfr [21, 22] h0 r2 := zfr_tr hf (by decide) hg2
      obtain rfl := Option.some.inj hr
      exact hQ _ _ dX3_separate_28 hf

