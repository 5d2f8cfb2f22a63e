def fX2_misfit (h : HS) : Option (Int) := some (h 18 0)
set_option maxRecDepth 100000 in
set_option maxHeartbeats 4000000 in
theorem mX2_misfit {G : ZG} {l0 : Launch} {ad : Nat → Nat} {h0 : HS} {o : Int} (hr : fX2_misfit h0 = some o) : ZMi G l0 yX2_misfit wsX2_misfit ({ frames := 0, cells := 0, slots := 0, locals := 0 }) [.ref (ad 18)] sh_4 ad h0 [] o h0 := by
  refine ZMi.of (cc := cX2_misfit) (maxL := 1) (ret := (some .int)) (own := RX2) (lv0 := [(0, .ref (ad 18))]) (by decide) rfl rfl rfl (Nat.le_of_ble_eq_true rfl) rfl ?_
  intro X hX hQ
  have hf : zfr [] h0 h0 := zfr_rf
  have fl_9 : zFld wsX2_misfit RX2 9 2 RX2 TX2 8 0 := ⟨by decide +kernel, by decide +kernel, by decide, rfl⟩
  unfold fX2_misfit at hr
  refine z_aload_n hX dX2_misfit_0 0 rfl ?_
  refine z_getI hX dX2_misfit_1 fl_9 0 rfl rfl ?_
  obtain rfl := Option.some.inj hr
  exact hQ _ _ dX2_misfit_4 hf

def fX2_letter (h : HS) : Option (Int) := some (h 18 1)
set_option maxRecDepth 100000 in
set_option maxHeartbeats 4000000 in
theorem mX2_letter {G : ZG} {l0 : Launch} {ad : Nat → Nat} {h0 : HS} {o : Int} (hr : fX2_letter h0 = some o) : ZMi G l0 yX2_letter wsX2_letter ({ frames := 0, cells := 0, slots := 0, locals := 0 }) [.ref (ad 18)] sh_4 ad h0 [] o h0 := by
  refine ZMi.of (cc := cX2_letter) (maxL := 1) (ret := (some .int)) (own := RX2) (lv0 := [(0, .ref (ad 18))]) (by decide) rfl rfl rfl (Nat.le_of_ble_eq_true rfl) rfl ?_
  intro X hX hQ
  have hf : zfr [] h0 h0 := zfr_rf
  have fl_15 : zFld wsX2_letter RX2 15 2 RX2 TX2 8 1 := ⟨by decide +kernel, by decide +kernel, by decide, rfl⟩
  unfold fX2_letter at hr
  refine z_aload_n hX dX2_letter_0 0 rfl ?_
  refine z_getI hX dX2_letter_1 fl_15 0 rfl rfl ?_
  obtain rfl := Option.some.inj hr
  exact hQ _ _ dX2_letter_4 hf

def fX2_to (h : HS) : Option (Int) := some (((h 18 5) * 8) + (h 18 4))
set_option maxRecDepth 100000 in
set_option maxHeartbeats 4000000 in
theorem mX2_to {G : ZG} {l0 : Launch} {ad : Nat → Nat} {h0 : HS} {o : Int} (hr : fX2_to h0 = some o) : ZMi G l0 yX2_to wsX2_to ({ frames := 0, cells := 0, slots := 0, locals := 0 }) [.ref (ad 18)] sh_4 ad h0 [] o h0 := by
  refine ZMi.of (cc := cX2_to) (maxL := 1) (ret := (some .int)) (own := RX2) (lv0 := [(0, .ref (ad 18))]) (by decide) rfl rfl rfl (Nat.le_of_ble_eq_true rfl) rfl ?_
  intro X hX hQ
  have hf : zfr [] h0 h0 := zfr_rf
  have fl_24 : zFld wsX2_to RX2 24 2 RX2 TX2 8 4 := ⟨by decide +kernel, by decide +kernel, by decide, rfl⟩
  have fl_27 : zFld wsX2_to RX2 27 2 RX2 TX2 8 5 := ⟨by decide +kernel, by decide +kernel, by decide, rfl⟩
  unfold fX2_to at hr
  refine z_aload_n hX dX2_to_0 0 rfl ?_
  refine z_getI hX dX2_to_1 fl_27 0 rfl rfl ?_
  refine z_bipush hX dX2_to_4 (by decide +kernel) ?_
  refine z_imul hX dX2_to_6 ?_
  refine z_aload_n hX dX2_to_7 0 rfl ?_
  refine z_getI hX dX2_to_8 fl_24 0 rfl rfl ?_
  refine z_iadd hX dX2_to_11 ?_
  obtain rfl := Option.some.inj hr
  exact hQ _ _ dX2_to_12 hf

def fX2_sign (h : HS) : Option (Int) := some (h 18 6)
set_option maxRecDepth 100000 in
set_option maxHeartbeats 4000000 in
theorem mX2_sign {G : ZG} {l0 : Launch} {ad : Nat → Nat} {h0 : HS} {o : Int} (hr : fX2_sign h0 = some o) : ZMi G l0 yX2_sign wsX2_sign ({ frames := 0, cells := 0, slots := 0, locals := 0 }) [.ref (ad 18)] sh_4 ad h0 [] o h0 := by
  refine ZMi.of (cc := cX2_sign) (maxL := 1) (ret := (some .int)) (own := RX2) (lv0 := [(0, .ref (ad 18))]) (by decide) rfl rfl rfl (Nat.le_of_ble_eq_true rfl) rfl ?_
  intro X hX hQ
  have hf : zfr [] h0 h0 := zfr_rf
  have fl_30 : zFld wsX2_sign RX2 30 2 RX2 TX2 8 6 := ⟨by decide +kernel, by decide +kernel, by decide, rfl⟩
  unfold fX2_sign at hr
  refine z_aload_n hX dX2_sign_0 0 rfl ?_
  refine z_getI hX dX2_sign_1 fl_30 0 rfl rfl ?_
  obtain rfl := Option.some.inj hr
  exact hQ _ _ dX2_sign_4 hf

def fX2_captures (h : HS) : Option (Int) := if (h 18 7) = 0 ∨ (h 18 7) = 1 then some (h 18 7) else none
set_option maxRecDepth 100000 in
set_option maxHeartbeats 4000000 in
theorem mX2_captures {G : ZG} {l0 : Launch} {ad : Nat → Nat} {h0 : HS} {o : Int} (hr : fX2_captures h0 = some o) : ZMi G l0 yX2_captures wsX2_captures ({ frames := 0, cells := 0, slots := 0, locals := 0 }) [.ref (ad 18)] sh_4 ad h0 [] o h0 := by
  refine ZMi.ofZ (cc := cX2_captures) (maxL := 1) (ret := (some .boolean)) (own := RX2) (lv0 := [(0, .ref (ad 18))]) (by decide) rfl rfl rfl (Nat.le_of_ble_eq_true rfl) rfl ?_
  intro X hX hQ
  have hf : zfr [] h0 h0 := zfr_rf
  have fl_33 : zFld wsX2_captures RX2 33 2 RX2 TX2 8 7 := ⟨by decide +kernel, by decide +kernel, by decide, rfl⟩
  unfold fX2_captures at hr
  refine z_aload_n hX dX2_captures_0 0 rfl ?_
  refine z_getI hX dX2_captures_1 fl_33 0 rfl rfl ?_
  obtain ⟨hz, hr⟩ := z_ifg hr
  obtain rfl := Option.some.inj hr
  exact hQ _ _ dX2_captures_4 hf hz

def fX2_allowsFrom_b19 (x1 : Int) (h : HS) : Option (Int) := if wr (h 18 3) = ((-1) : Int) then some 1 else if (0 : Int) ≤ x1 ∧ x1 < 2147483648 then if wr (h 18 3) = wr (x1 / 8) then some 1 else some 0 else none
def fX2_allowsFrom (p1 : Int) (h : HS) : Option (Int) := if wr (h 18 2) = ((-1) : Int) then fX2_allowsFrom_b19 p1 h else if (0 : Int) ≤ p1 ∧ p1 < 2147483648 then if wr (h 18 2) = wr (p1 % 8) then fX2_allowsFrom_b19 p1 h else some 0 else none
set_option maxRecDepth 100000 in
set_option maxHeartbeats 4000000 in
theorem mX2_allowsFrom {G : ZG} {l0 : Launch} {ad : Nat → Nat} {h0 : HS} {p1 : Int} {o : Int} (hr : fX2_allowsFrom p1 h0 = some o) : ZMi G l0 yX2_allowsFrom wsX2_allowsFrom ({ frames := 0, cells := 0, slots := 0, locals := 0 }) [.ref (ad 18), .int (iI p1)] sh_4 ad h0 [] o h0 := by
  refine ZMi.ofZ (cc := cX2_allowsFrom) (maxL := 2) (ret := (some .boolean)) (own := RX2) (lv0 := [(0, .ref (ad 18)), (1, .int (iI p1))]) (by decide) rfl rfl rfl (Nat.le_of_ble_eq_true rfl) rfl ?_
  intro X hX hQ
  have hf : zfr [] h0 h0 := zfr_rf
  have fl_18 : zFld wsX2_allowsFrom RX2 18 2 RX2 TX2 8 2 := ⟨by decide +kernel, by decide +kernel, by decide, rfl⟩
  have fl_21 : zFld wsX2_allowsFrom RX2 21 2 RX2 TX2 8 3 := ⟨by decide +kernel, by decide +kernel, by decide, rfl⟩
  have B19 : ∀ (x1 : Int), fX2_allowsFrom_b19 x1 h0 = some o → ZW G X sh_4 ad h0 0 0 [(0, .ref (ad 18)), (1, .int (iI x1))] 19 [] := by
    intro x1 hr
    unfold fX2_allowsFrom_b19 at hr
    refine z_aload_n hX dX2_allowsFrom_19 0 rfl ?_
    refine z_getI hX dX2_allowsFrom_20 fl_21 0 rfl rfl ?_
    refine z_iconst hX dX2_allowsFrom_23 ?_
    refine z_icmp_eq (tgt := 38) hX dX2_allowsFrom_24 (by decide) rfl (wr_of (by decide) (by decide)) hr (fun hr => ?_) (fun hr => ?_)
    · refine z_iconst hX dX2_allowsFrom_38 ?_
      refine z_goto (tgt := 43) hX dX2_allowsFrom_39 (by decide) ?_
      obtain rfl := Option.some.inj hr
      exact hQ _ _ dX2_allowsFrom_43 hf (Or.inr rfl)
    · refine z_aload_n hX dX2_allowsFrom_27 0 rfl ?_
      refine z_getI hX dX2_allowsFrom_28 fl_21 0 rfl rfl ?_
      refine z_iload_n hX dX2_allowsFrom_31 1 rfl ?_
      refine z_bipush hX dX2_allowsFrom_32 (by decide +kernel) ?_
      refine z_idiv hX dX2_allowsFrom_34 (by decide) hr (fun hr => ?_)
      refine z_icmp_ne (tgt := 42) hX dX2_allowsFrom_35 (by decide) rfl rfl hr (fun hr => ?_) (fun hr => ?_)
      · refine z_iconst hX dX2_allowsFrom_42 ?_
        obtain rfl := Option.some.inj hr
        exact hQ _ _ dX2_allowsFrom_43 hf (Or.inl rfl)
      · refine z_iconst hX dX2_allowsFrom_38 ?_
        refine z_goto (tgt := 43) hX dX2_allowsFrom_39 (by decide) ?_
        obtain rfl := Option.some.inj hr
        exact hQ _ _ dX2_allowsFrom_43 hf (Or.inr rfl)
  unfold fX2_allowsFrom at hr
  refine z_aload_n hX dX2_allowsFrom_0 0 rfl ?_
  refine z_getI hX dX2_allowsFrom_1 fl_18 0 rfl rfl ?_
  refine z_iconst hX dX2_allowsFrom_4 ?_
  refine z_icmp_eq (tgt := 19) hX dX2_allowsFrom_5 (by decide) rfl (wr_of (by decide) (by decide)) hr (fun hr => ?_) (fun hr => ?_)
  · exact B19 p1 hr
  · refine z_aload_n hX dX2_allowsFrom_8 0 rfl ?_
    refine z_getI hX dX2_allowsFrom_9 fl_18 0 rfl rfl ?_
    refine z_iload_n hX dX2_allowsFrom_12 1 rfl ?_
    refine z_bipush hX dX2_allowsFrom_13 (by decide +kernel) ?_
    refine z_irem hX dX2_allowsFrom_15 (by decide) hr (fun hr => ?_)
    refine z_icmp_ne (tgt := 42) hX dX2_allowsFrom_16 (by decide) rfl rfl hr (fun hr => ?_) (fun hr => ?_)
    · refine z_iconst hX dX2_allowsFrom_42 ?_
      obtain rfl := Option.some.inj hr
      exact hQ _ _ dX2_allowsFrom_43 hf (Or.inl rfl)
    · exact B19 p1 hr

def fX2_forget (h : HS) : Option (HS) := if (0 : Int) = 0 ∨ (0 : Int) = 1 then some (hs (hs (hs (hs (hs (hs (hs (hs h 18 0 (-1)) 18 1 (-1)) 18 2 (-1)) 18 3 (-1)) 18 4 (-1)) 18 5 (-1)) 18 6 (-1)) 18 7 0) else none
set_option maxRecDepth 100000 in
set_option maxHeartbeats 4000000 in
theorem mX2_forget {G : ZG} {l0 : Launch} {ad : Nat → Nat} {h0 : HS} {o : HS} (hr : fX2_forget h0 = some o) : ZMv G l0 yX2_forget wsX2_forget ({ frames := 0, cells := 0, slots := 0, locals := 0 }) [.ref (ad 18)] sh_4 ad h0 [18] o := by
  refine ZMv.of (cc := cX2_forget) (maxL := 1) (ret := none) (own := RX2) (lv0 := [(0, .ref (ad 18))]) (by decide) rfl rfl rfl (Nat.le_of_ble_eq_true rfl) rfl ?_
  intro X hX hQ
  have hf : zfr [18] h0 h0 := zfr_rf
  have fl_15 : zFld wsX2_forget RX2 15 2 RX2 TX2 8 1 := ⟨by decide +kernel, by decide +kernel, by decide, rfl⟩
  have fl_18 : zFld wsX2_forget RX2 18 2 RX2 TX2 8 2 := ⟨by decide +kernel, by decide +kernel, by decide, rfl⟩
  have fl_21 : zFld wsX2_forget RX2 21 2 RX2 TX2 8 3 := ⟨by decide +kernel, by decide +kernel, by decide, rfl⟩
  have fl_24 : zFld wsX2_forget RX2 24 2 RX2 TX2 8 4 := ⟨by decide +kernel, by decide +kernel, by decide, rfl⟩
  have fl_27 : zFld wsX2_forget RX2 27 2 RX2 TX2 8 5 := ⟨by decide +kernel, by decide +kernel, by decide, rfl⟩
  have fl_30 : zFld wsX2_forget RX2 30 2 RX2 TX2 8 6 := ⟨by decide +kernel, by decide +kernel, by decide, rfl⟩
  have fl_33 : zFld wsX2_forget RX2 33 2 RX2 TX2 8 7 := ⟨by decide +kernel, by decide +kernel, by decide, rfl⟩
  have fl_9 : zFld wsX2_forget RX2 9 2 RX2 TX2 8 0 := ⟨by decide +kernel, by decide +kernel, by decide, rfl⟩
  have pu_X2_0 : zPut TX2 8 0 tyX2 .int := ⟨tyX2_ok, nmX2, rfl, by decide +kernel⟩
  have pu_X2_1 : zPut TX2 8 1 tyX2 .int := ⟨tyX2_ok, nmX2, rfl, by decide +kernel⟩
  have pu_X2_2 : zPut TX2 8 2 tyX2 .int := ⟨tyX2_ok, nmX2, rfl, by decide +kernel⟩
  have pu_X2_3 : zPut TX2 8 3 tyX2 .int := ⟨tyX2_ok, nmX2, rfl, by decide +kernel⟩
  have pu_X2_4 : zPut TX2 8 4 tyX2 .int := ⟨tyX2_ok, nmX2, rfl, by decide +kernel⟩
  have pu_X2_5 : zPut TX2 8 5 tyX2 .int := ⟨tyX2_ok, nmX2, rfl, by decide +kernel⟩
  have pu_X2_6 : zPut TX2 8 6 tyX2 .int := ⟨tyX2_ok, nmX2, rfl, by decide +kernel⟩
  have pu_X2_7 : zPut TX2 8 7 tyX2 .boolean := ⟨tyX2_ok, nmX2, rfl, by decide +kernel⟩
  unfold fX2_forget at hr
  refine z_aload_n hX dX2_forget_0 0 rfl ?_
  refine z_iconst hX dX2_forget_1 ?_
  refine z_putI hX dX2_forget_2 fl_9 pu_X2_0 0 rfl rfl ?_
  have hf : zfr [18] h0 (hs h0 18 0 (-1)) := zfr_hs hf (by decide)
  refine z_aload_n hX dX2_forget_5 0 rfl ?_
  refine z_iconst hX dX2_forget_6 ?_
  refine z_putI hX dX2_forget_7 fl_15 pu_X2_1 0 rfl rfl ?_
  have hf : zfr [18] h0 (hs (hs h0 18 0 (-1)) 18 1 (-1)) := zfr_hs hf (by decide)
  refine z_aload_n hX dX2_forget_10 0 rfl ?_
  refine z_iconst hX dX2_forget_11 ?_
  refine z_putI hX dX2_forget_12 fl_18 pu_X2_2 0 rfl rfl ?_
  have hf : zfr [18] h0 (hs (hs (hs h0 18 0 (-1)) 18 1 (-1)) 18 2 (-1)) := zfr_hs hf (by decide)
  refine z_aload_n hX dX2_forget_15 0 rfl ?_
  refine z_iconst hX dX2_forget_16 ?_
  refine z_putI hX dX2_forget_17 fl_21 pu_X2_3 0 rfl rfl ?_
  have hf : zfr [18] h0 (hs (hs (hs (hs h0 18 0 (-1)) 18 1 (-1)) 18 2 (-1)) 18 3 (-1)) := zfr_hs hf (by decide)
  refine z_aload_n hX dX2_forget_20 0 rfl ?_
  refine z_iconst hX dX2_forget_21 ?_
  refine z_putI hX dX2_forget_22 fl_24 pu_X2_4 0 rfl rfl ?_
  have hf : zfr [18] h0 (hs (hs (hs (hs (hs h0 18 0 (-1)) 18 1 (-1)) 18 2 (-1)) 18 3 (-1)) 18 4 (-1)) := zfr_hs hf (by decide)
  refine z_aload_n hX dX2_forget_25 0 rfl ?_
  refine z_iconst hX dX2_forget_26 ?_
  refine z_putI hX dX2_forget_27 fl_27 pu_X2_5 0 rfl rfl ?_
  have hf : zfr [18] h0 (hs (hs (hs (hs (hs (hs h0 18 0 (-1)) 18 1 (-1)) 18 2 (-1)) 18 3 (-1)) 18 4 (-1)) 18 5 (-1)) := zfr_hs hf (by decide)
  refine z_aload_n hX dX2_forget_30 0 rfl ?_
  refine z_iconst hX dX2_forget_31 ?_
  refine z_putI hX dX2_forget_32 fl_30 pu_X2_6 0 rfl rfl ?_
  have hf : zfr [18] h0 (hs (hs (hs (hs (hs (hs (hs h0 18 0 (-1)) 18 1 (-1)) 18 2 (-1)) 18 3 (-1)) 18 4 (-1)) 18 5 (-1)) 18 6 (-1)) := zfr_hs hf (by decide)
  refine z_aload_n hX dX2_forget_35 0 rfl ?_
  refine z_iconst hX dX2_forget_36 ?_
  refine z_putZ hX dX2_forget_37 fl_33 pu_X2_7 0 rfl rfl hr (fun hr => ?_)
  have hf : zfr [18] h0 (hs (hs (hs (hs (hs (hs (hs (hs h0 18 0 (-1)) 18 1 (-1)) 18 2 (-1)) 18 3 (-1)) 18 4 (-1)) 18 5 (-1)) 18 6 (-1)) 18 7 0) := zfr_hs hf (by decide)
  obtain rfl := Option.some.inj hr
  exact hQ _ _ dX2_forget_40 hf

def fX2_isFile (p1 : Int) (h : HS) : Option (Int) := if wr p1 < (97 : Int) then some 0 else if (105 : Int) ≤ wr p1 then some 0 else some 1
set_option maxRecDepth 100000 in
set_option maxHeartbeats 4000000 in
theorem mX2_isFile {G : ZG} {l0 : Launch} {ad : Nat → Nat} {h0 : HS} {p1 : Int} {o : Int} (hr : fX2_isFile p1 h0 = some o) : ZMi G l0 yX2_isFile wsX2_isFile ({ frames := 0, cells := 0, slots := 0, locals := 0 }) [.int (iI p1)] [] ad h0 [] o h0 := by
  refine ZMi.ofZ (cc := cX2_isFile) (maxL := 1) (ret := (some .boolean)) (own := RX2) (lv0 := [(0, .int (iI p1))]) (by decide) rfl rfl rfl (Nat.le_of_ble_eq_true rfl) rfl ?_
  intro X hX hQ
  have hf : zfr [] h0 h0 := zfr_rf
  unfold fX2_isFile at hr
  refine z_iload_n hX dX2_isFile_0 0 rfl ?_
  refine z_bipush hX dX2_isFile_1 (by decide +kernel) ?_
  refine z_icmp_lt (tgt := 16) hX dX2_isFile_3 (by decide) rfl (wr_of (by decide) (by decide)) hr (fun hr => ?_) (fun hr => ?_)
  · refine z_iconst hX dX2_isFile_16 ?_
    obtain rfl := Option.some.inj hr
    exact hQ _ _ dX2_isFile_17 hf (Or.inl rfl)
  · refine z_iload_n hX dX2_isFile_6 0 rfl ?_
    refine z_bipush hX dX2_isFile_7 (by decide +kernel) ?_
    refine z_icmp_ge (tgt := 16) hX dX2_isFile_9 (by decide) rfl (wr_of (by decide) (by decide)) hr (fun hr => ?_) (fun hr => ?_)
    · refine z_iconst hX dX2_isFile_16 ?_
      obtain rfl := Option.some.inj hr
      exact hQ _ _ dX2_isFile_17 hf (Or.inl rfl)
    · refine z_iconst hX dX2_isFile_12 ?_
      refine z_goto (tgt := 17) hX dX2_isFile_13 (by decide) ?_
      obtain rfl := Option.some.inj hr
      exact hQ _ _ dX2_isFile_17 hf (Or.inr rfl)

def fX2_isRank (p1 : Int) (h : HS) : Option (Int) := if wr p1 < (49 : Int) then some 0 else if (57 : Int) ≤ wr p1 then some 0 else some 1
set_option maxRecDepth 100000 in
set_option maxHeartbeats 4000000 in
theorem mX2_isRank {G : ZG} {l0 : Launch} {ad : Nat → Nat} {h0 : HS} {p1 : Int} {o : Int} (hr : fX2_isRank p1 h0 = some o) : ZMi G l0 yX2_isRank wsX2_isRank ({ frames := 0, cells := 0, slots := 0, locals := 0 }) [.int (iI p1)] [] ad h0 [] o h0 := by
  refine ZMi.ofZ (cc := cX2_isRank) (maxL := 1) (ret := (some .boolean)) (own := RX2) (lv0 := [(0, .int (iI p1))]) (by decide) rfl rfl rfl (Nat.le_of_ble_eq_true rfl) rfl ?_
  intro X hX hQ
  have hf : zfr [] h0 h0 := zfr_rf
  unfold fX2_isRank at hr
  refine z_iload_n hX dX2_isRank_0 0 rfl ?_
  refine z_bipush hX dX2_isRank_1 (by decide +kernel) ?_
  refine z_icmp_lt (tgt := 16) hX dX2_isRank_3 (by decide) rfl (wr_of (by decide) (by decide)) hr (fun hr => ?_) (fun hr => ?_)
  · refine z_iconst hX dX2_isRank_16 ?_
    obtain rfl := Option.some.inj hr
    exact hQ _ _ dX2_isRank_17 hf (Or.inl rfl)
  · refine z_iload_n hX dX2_isRank_6 0 rfl ?_
    refine z_bipush hX dX2_isRank_7 (by decide +kernel) ?_
    refine z_icmp_ge (tgt := 16) hX dX2_isRank_9 (by decide) rfl (wr_of (by decide) (by decide)) hr (fun hr => ?_) (fun hr => ?_)
    · refine z_iconst hX dX2_isRank_16 ?_
      obtain rfl := Option.some.inj hr
      exact hQ _ _ dX2_isRank_17 hf (Or.inl rfl)
    · refine z_iconst hX dX2_isRank_12 ?_
      refine z_goto (tgt := 17) hX dX2_isRank_13 (by decide) ?_
      obtain rfl := Option.some.inj hr
      exact hQ _ _ dX2_isRank_17 hf (Or.inr rfl)

def fX2_isSign (p1 : Int) (h : HS) : Option (Int) := if wr p1 = (43 : Int) then some 1 else if wr p1 = (35 : Int) then some 1 else some 0
set_option maxRecDepth 100000 in
set_option maxHeartbeats 4000000 in
theorem mX2_isSign {G : ZG} {l0 : Launch} {ad : Nat → Nat} {h0 : HS} {p1 : Int} {o : Int} (hr : fX2_isSign p1 h0 = some o) : ZMi G l0 yX2_isSign wsX2_isSign ({ frames := 0, cells := 0, slots := 0, locals := 0 }) [.int (iI p1)] [] ad h0 [] o h0 := by
  refine ZMi.ofZ (cc := cX2_isSign) (maxL := 1) (ret := (some .boolean)) (own := RX2) (lv0 := [(0, .int (iI p1))]) (by decide) rfl rfl rfl (Nat.le_of_ble_eq_true rfl) rfl ?_
  intro X hX hQ
  have hf : zfr [] h0 h0 := zfr_rf
  unfold fX2_isSign at hr
  refine z_iload_n hX dX2_isSign_0 0 rfl ?_
  refine z_bipush hX dX2_isSign_1 (by decide +kernel) ?_
  refine z_icmp_eq (tgt := 12) hX dX2_isSign_3 (by decide) rfl (wr_of (by decide) (by decide)) hr (fun hr => ?_) (fun hr => ?_)
  · refine z_iconst hX dX2_isSign_12 ?_
    refine z_goto (tgt := 17) hX dX2_isSign_13 (by decide) ?_
    obtain rfl := Option.some.inj hr
    exact hQ _ _ dX2_isSign_17 hf (Or.inr rfl)
  · refine z_iload_n hX dX2_isSign_6 0 rfl ?_
    refine z_bipush hX dX2_isSign_7 (by decide +kernel) ?_
    refine z_icmp_ne (tgt := 16) hX dX2_isSign_9 (by decide) rfl (wr_of (by decide) (by decide)) hr (fun hr => ?_) (fun hr => ?_)
    · refine z_iconst hX dX2_isSign_16 ?_
      obtain rfl := Option.some.inj hr
      exact hQ _ _ dX2_isSign_17 hf (Or.inl rfl)
    · refine z_iconst hX dX2_isSign_12 ?_
      refine z_goto (tgt := 17) hX dX2_isSign_13 (by decide) ?_
      obtain rfl := Option.some.inj hr
      exact hQ _ _ dX2_isSign_17 hf (Or.inr rfl)

def fX2_keep (p1 : Int) (h : HS) : Option (HS) := (fX2_isFile p1 h).bind fun r1 => if wr r1 = 0 then (fX2_isRank p1 h).bind fun r2 => if wr r2 = 0 then (fX2_isSign p1 h).bind fun r3 => if wr r3 = 0 then if wr p1 = (120 : Int) then if (1 : Int) = 0 ∨ (1 : Int) = 1 then some (hs h 18 7 1) else none else some (hs h 18 1 p1) else some (hs h 18 6 p1) else some (hs (hs h 18 3 (h 18 5)) 18 5 (p1 - 49)) else some (hs (hs h 18 2 (h 18 4)) 18 4 (p1 - 97))
set_option maxRecDepth 100000 in
set_option maxHeartbeats 4000000 in
theorem mX2_keep {G : ZG} {l0 : Launch} {ad : Nat → Nat} {h0 : HS} {p1 : Int} {o : HS} (hr : fX2_keep p1 h0 = some o) : ZMv G l0 yX2_keep wsX2_keep ({ frames := 1, cells := 0, slots := 0, locals := 20 }) [.ref (ad 18), .int (iI p1)] sh_4 ad h0 [18] o := by
  refine ZMv.of (cc := cX2_keep) (maxL := 2) (ret := none) (own := RX2) (lv0 := [(0, .ref (ad 18)), (1, .int (iI p1))]) (by decide) rfl rfl rfl (Nat.le_of_ble_eq_true rfl) rfl ?_
  intro X hX hQ
  have hf : zfr [18] h0 h0 := zfr_rf
  have fl_15 : zFld wsX2_keep RX2 15 2 RX2 TX2 8 1 := ⟨by decide +kernel, by decide +kernel, by decide, rfl⟩
  have fl_18 : zFld wsX2_keep RX2 18 2 RX2 TX2 8 2 := ⟨by decide +kernel, by decide +kernel, by decide, rfl⟩
  have fl_21 : zFld wsX2_keep RX2 21 2 RX2 TX2 8 3 := ⟨by decide +kernel, by decide +kernel, by decide, rfl⟩
  have fl_24 : zFld wsX2_keep RX2 24 2 RX2 TX2 8 4 := ⟨by decide +kernel, by decide +kernel, by decide, rfl⟩
  have fl_27 : zFld wsX2_keep RX2 27 2 RX2 TX2 8 5 := ⟨by decide +kernel, by decide +kernel, by decide, rfl⟩
  have fl_30 : zFld wsX2_keep RX2 30 2 RX2 TX2 8 6 := ⟨by decide +kernel, by decide +kernel, by decide, rfl⟩
  have fl_33 : zFld wsX2_keep RX2 33 2 RX2 TX2 8 7 := ⟨by decide +kernel, by decide +kernel, by decide, rfl⟩
  have pu_X2_1 : zPut TX2 8 1 tyX2 .int := ⟨tyX2_ok, nmX2, rfl, by decide +kernel⟩
  have pu_X2_2 : zPut TX2 8 2 tyX2 .int := ⟨tyX2_ok, nmX2, rfl, by decide +kernel⟩
  have pu_X2_3 : zPut TX2 8 3 tyX2 .int := ⟨tyX2_ok, nmX2, rfl, by decide +kernel⟩
  have pu_X2_4 : zPut TX2 8 4 tyX2 .int := ⟨tyX2_ok, nmX2, rfl, by decide +kernel⟩
  have pu_X2_5 : zPut TX2 8 5 tyX2 .int := ⟨tyX2_ok, nmX2, rfl, by decide +kernel⟩
  have pu_X2_6 : zPut TX2 8 6 tyX2 .int := ⟨tyX2_ok, nmX2, rfl, by decide +kernel⟩
  have pu_X2_7 : zPut TX2 8 7 tyX2 .boolean := ⟨tyX2_ok, nmX2, rfl, by decide +kernel⟩
  unfold fX2_keep at hr
  refine z_iload_n hX dX2_keep_0 1 rfl ?_
  obtain ⟨r1, hc1, hr⟩ := z_bind hr
  refine z_callS_i (As := [.int (iI p1)]) (k1 := 0) (n1 := 0) (nA := 1) hX (mX2_isFile hc1) dX2_keep_1 gX2_keep_X2_isFile rfl ⟨by decide, by decide, by decide +kernel⟩ ⟨by decide, by decide⟩ ⟨by decide, by decide⟩ rfl rfl (Nat.le_of_ble_eq_true rfl) (by decide +kernel) rfl rfl (fun hg1 => ?_)
  refine z_if_eq (tgt := 26) hX dX2_keep_4 (by decide) rfl hr (fun hr => ?_) (fun hr => ?_)
  · refine z_iload_n hX dX2_keep_26 1 rfl ?_
    obtain ⟨r2, hc2, hr⟩ := z_bind hr
    refine z_callS_i (As := [.int (iI p1)]) (k1 := 0) (n1 := 0) (nA := 1) hX (mX2_isRank hc2) dX2_keep_27 gX2_keep_X2_isRank rfl ⟨by decide, by decide, by decide +kernel⟩ ⟨by decide, by decide⟩ ⟨by decide, by decide⟩ rfl rfl (Nat.le_of_ble_eq_true rfl) (by decide +kernel) rfl rfl (fun hg2 => ?_)
    refine z_if_eq (tgt := 52) hX dX2_keep_30 (by decide) rfl hr (fun hr => ?_) (fun hr => ?_)
    · refine z_iload_n hX dX2_keep_52 1 rfl ?_
      obtain ⟨r3, hc3, hr⟩ := z_bind hr
      refine z_callS_i (As := [.int (iI p1)]) (k1 := 0) (n1 := 0) (nA := 1) hX (mX2_isSign hc3) dX2_keep_53 gX2_keep_X2_isSign rfl ⟨by decide, by decide, by decide +kernel⟩ ⟨by decide, by decide⟩ ⟨by decide, by decide⟩ rfl rfl (Nat.le_of_ble_eq_true rfl) (by decide +kernel) rfl rfl (fun hg3 => ?_)
      refine z_if_eq (tgt := 67) hX dX2_keep_56 (by decide) rfl hr (fun hr => ?_) (fun hr => ?_)
      · refine z_iload_n hX dX2_keep_67 1 rfl ?_
        refine z_bipush hX dX2_keep_68 (by decide +kernel) ?_
        refine z_icmp_ne (tgt := 81) hX dX2_keep_70 (by decide) rfl (wr_of (by decide) (by decide)) hr (fun hr => ?_) (fun hr => ?_)
        · refine z_aload_n hX dX2_keep_81 0 rfl ?_
          refine z_iload_n hX dX2_keep_82 1 rfl ?_
          refine z_putI hX dX2_keep_83 fl_15 pu_X2_1 0 rfl rfl ?_
          have hf : zfr [18] h0 (hs h0 18 1 p1) := zfr_hs hf (by decide)
          obtain rfl := Option.some.inj hr
          exact hQ _ _ dX2_keep_86 hf
        · refine z_aload_n hX dX2_keep_73 0 rfl ?_
          refine z_iconst hX dX2_keep_74 ?_
          refine z_putZ hX dX2_keep_75 fl_33 pu_X2_7 0 rfl rfl hr (fun hr => ?_)
          have hf : zfr [18] h0 (hs h0 18 7 1) := zfr_hs hf (by decide)
          refine z_goto (tgt := 86) hX dX2_keep_78 (by decide) ?_
          obtain rfl := Option.some.inj hr
          exact hQ _ _ dX2_keep_86 hf
      · refine z_aload_n hX dX2_keep_59 0 rfl ?_
        refine z_iload_n hX dX2_keep_60 1 rfl ?_
        refine z_putI hX dX2_keep_61 fl_30 pu_X2_6 0 rfl rfl ?_
        have hf : zfr [18] h0 (hs h0 18 6 p1) := zfr_hs hf (by decide)
        refine z_goto (tgt := 86) hX dX2_keep_64 (by decide) ?_
        obtain rfl := Option.some.inj hr
        exact hQ _ _ dX2_keep_86 hf
    · refine z_aload_n hX dX2_keep_33 0 rfl ?_
      refine z_aload_n hX dX2_keep_34 0 rfl ?_
      refine z_getI hX dX2_keep_35 fl_27 0 rfl rfl ?_
      refine z_putI hX dX2_keep_38 fl_21 pu_X2_3 0 rfl rfl ?_
      have hf : zfr [18] h0 (hs h0 18 3 (h0 18 5)) := zfr_hs hf (by decide)
      refine z_aload_n hX dX2_keep_41 0 rfl ?_
      refine z_iload_n hX dX2_keep_42 1 rfl ?_
      refine z_bipush hX dX2_keep_43 (by decide +kernel) ?_
      refine z_isub hX dX2_keep_45 ?_
      refine z_putI hX dX2_keep_46 fl_27 pu_X2_5 0 rfl rfl ?_
      have hf : zfr [18] h0 (hs (hs h0 18 3 (h0 18 5)) 18 5 (p1 - 49)) := zfr_hs hf (by decide)
      refine z_goto (tgt := 86) hX dX2_keep_49 (by decide) ?_
      obtain rfl := Option.some.inj hr
      exact hQ _ _ dX2_keep_86 hf
  · refine z_aload_n hX dX2_keep_7 0 rfl ?_
    refine z_aload_n hX dX2_keep_8 0 rfl ?_
    refine z_getI hX dX2_keep_9 fl_24 0 rfl rfl ?_
    refine z_putI hX dX2_keep_12 fl_18 pu_X2_2 0 rfl rfl ?_
    have hf : zfr [18] h0 (hs h0 18 2 (h0 18 4)) := zfr_hs hf (by decide)
    refine z_aload_n hX dX2_keep_15 0 rfl ?_
    refine z_iload_n hX dX2_keep_16 1 rfl ?_
    refine z_bipush hX dX2_keep_17 (by decide +kernel) ?_
    refine z_isub hX dX2_keep_19 ?_
    refine z_putI hX dX2_keep_20 fl_24 pu_X2_4 0 rfl rfl ?_
    have hf : zfr [18] h0 (hs (hs h0 18 2 (h0 18 4)) 18 4 (p1 - 97)) := zfr_hs hf (by decide)
    refine z_goto (tgt := 86) hX dX2_keep_23 (by decide) ?_
    obtain rfl := Option.some.inj hr
    exact hQ _ _ dX2_keep_86 hf

def fX2_stateBehindOrigin (p1 : Int) (h : HS) : Option (Int) := (fX2_isFile p1 h).bind fun r1 => if wr r1 = 0 then if wr p1 = (120 : Int) then some 5 else some (-1) else some 6
set_option maxRecDepth 100000 in
set_option maxHeartbeats 4000000 in
theorem mX2_stateBehindOrigin {G : ZG} {l0 : Launch} {ad : Nat → Nat} {h0 : HS} {p1 : Int} {o : Int} (hr : fX2_stateBehindOrigin p1 h0 = some o) : ZMi G l0 yX2_stateBehindOrigin wsX2_stateBehindOrigin ({ frames := 1, cells := 0, slots := 0, locals := 20 }) [.int (iI p1)] [] ad h0 [] o h0 := by
  refine ZMi.of (cc := cX2_stateBehindOrigin) (maxL := 1) (ret := (some .int)) (own := RX2) (lv0 := [(0, .int (iI p1))]) (by decide) rfl rfl rfl (Nat.le_of_ble_eq_true rfl) rfl ?_
  intro X hX hQ
  have hf : zfr [] h0 h0 := zfr_rf
  unfold fX2_stateBehindOrigin at hr
  refine z_iload_n hX dX2_stateBehindOrigin_0 0 rfl ?_
  obtain ⟨r1, hc1, hr⟩ := z_bind hr
  refine z_callS_i (As := [.int (iI p1)]) (k1 := 0) (n1 := 0) (nA := 1) hX (mX2_isFile hc1) dX2_stateBehindOrigin_1 gX2_stateBehindOrigin_X2_isFile rfl ⟨by decide, by decide, by decide +kernel⟩ ⟨by decide, by decide⟩ ⟨by decide, by decide⟩ rfl rfl (Nat.le_of_ble_eq_true rfl) (by decide +kernel) rfl rfl (fun hg1 => ?_)
  refine z_if_eq (tgt := 12) hX dX2_stateBehindOrigin_4 (by decide) rfl hr (fun hr => ?_) (fun hr => ?_)
  · refine z_iload_n hX dX2_stateBehindOrigin_12 0 rfl ?_
    refine z_bipush hX dX2_stateBehindOrigin_13 (by decide +kernel) ?_
    refine z_icmp_ne (tgt := 22) hX dX2_stateBehindOrigin_15 (by decide) rfl (wr_of (by decide) (by decide)) hr (fun hr => ?_) (fun hr => ?_)
    · refine z_iconst hX dX2_stateBehindOrigin_22 ?_
      obtain rfl := Option.some.inj hr
      exact hQ _ _ dX2_stateBehindOrigin_23 hf
    · refine z_iconst hX dX2_stateBehindOrigin_18 ?_
      refine z_goto (tgt := 23) hX dX2_stateBehindOrigin_19 (by decide) ?_
      obtain rfl := Option.some.inj hr
      exact hQ _ _ dX2_stateBehindOrigin_23 hf
  · refine z_bipush hX dX2_stateBehindOrigin_7 (by decide +kernel) ?_
    refine z_goto (tgt := 23) hX dX2_stateBehindOrigin_9 (by decide) ?_
    obtain rfl := Option.some.inj hr
    exact hQ _ _ dX2_stateBehindOrigin_23 hf

def fX2_stateBehind (p1 : Int) (p2 : Int) (h : HS) : Option (Int) := if wr p1 = 0 then if wr p2 < (65 : Int) then some (-1) else if (90 : Int) < wr p2 then some (-1) else some 1 else if wr p1 = 1 then (fX2_isFile p2 h).bind fun r1 => if wr r1 = 0 then (fX2_isRank p2 h).bind fun r2 => if wr r2 = 0 then if wr p2 = (120 : Int) then some 5 else some (-1) else some 3 else some 2 else if wr p1 = 2 then (fX2_isRank p2 h).bind fun r3 => if wr r3 = 0 then (fX2_stateBehindOrigin p2 h).bind fun r4 => some r4 else some 4 else if wr p1 = 3 then (fX2_stateBehindOrigin p2 h).bind fun r5 => some r5 else if wr p1 = 4 then (fX2_isSign p2 h).bind fun r6 => if wr r6 = 0 then (fX2_stateBehindOrigin p2 h).bind fun r7 => some r7 else some 8 else if wr p1 = 5 then (fX2_isFile p2 h).bind fun r8 => if wr r8 = 0 then some (-1) else some 6 else if wr p1 = 6 then (fX2_isRank p2 h).bind fun r9 => if wr r9 = 0 then some (-1) else some 7 else if wr p1 = 7 then (fX2_isSign p2 h).bind fun r10 => if wr r10 = 0 then some (-1) else some 8 else some (-1)
set_option maxRecDepth 100000 in
set_option maxHeartbeats 4000000 in
theorem mX2_stateBehind {G : ZG} {l0 : Launch} {ad : Nat → Nat} {h0 : HS} {p1 : Int} {p2 : Int} {o : Int} (hr : fX2_stateBehind p1 p2 h0 = some o) : ZMi G l0 yX2_stateBehind wsX2_stateBehind ({ frames := 2, cells := 0, slots := 0, locals := 40 }) [.int (iI p1), .int (iI p2)] [] ad h0 [] o h0 := by
  refine ZMi.of (cc := cX2_stateBehind) (maxL := 2) (ret := (some .int)) (own := RX2) (lv0 := [(0, .int (iI p1)), (1, .int (iI p2))]) (by decide) rfl rfl rfl (Nat.le_of_ble_eq_true rfl) rfl ?_
  intro X hX hQ
  have hf : zfr [] h0 h0 := zfr_rf
  unfold fX2_stateBehind at hr
  refine z_iload_n hX dX2_stateBehind_0 0 rfl ?_
  by_cases n0 : wr p1 = 0
  · have hr := z_ifp hr n0
    refine z_tableIn (v := 0) (tgt := 48) hX dX2_stateBehind_1 n0 (by decide) (by decide) rfl (by decide) ?_
    refine z_iload_n hX dX2_stateBehind_48 1 rfl ?_
    refine z_bipush hX dX2_stateBehind_49 (by decide +kernel) ?_
    refine z_icmp_lt (tgt := 64) hX dX2_stateBehind_51 (by decide) rfl (wr_of (by decide) (by decide)) hr (fun hr => ?_) (fun hr => ?_)
    · refine z_iconst hX dX2_stateBehind_64 ?_
      obtain rfl := Option.some.inj hr
      exact hQ _ _ dX2_stateBehind_65 hf
    · refine z_iload_n hX dX2_stateBehind_54 1 rfl ?_
      refine z_bipush hX dX2_stateBehind_55 (by decide +kernel) ?_
      refine z_icmp_gt (tgt := 64) hX dX2_stateBehind_57 (by decide) rfl (wr_of (by decide) (by decide)) hr (fun hr => ?_) (fun hr => ?_)
      · refine z_iconst hX dX2_stateBehind_64 ?_
        obtain rfl := Option.some.inj hr
        exact hQ _ _ dX2_stateBehind_65 hf
      · refine z_iconst hX dX2_stateBehind_60 ?_
        refine z_goto (tgt := 65) hX dX2_stateBehind_61 (by decide) ?_
        obtain rfl := Option.some.inj hr
        exact hQ _ _ dX2_stateBehind_65 hf
  · have hr := z_ifn hr n0
    by_cases n1 : wr p1 = 1
    · have hr := z_ifp hr n1
      refine z_tableIn (v := 1) (tgt := 66) hX dX2_stateBehind_1 n1 (by decide) (by decide) rfl (by decide) ?_
      refine z_iload_n hX dX2_stateBehind_66 1 rfl ?_
      obtain ⟨r1, hc1, hr⟩ := z_bind hr
      refine z_callS_i (As := [.int (iI p2)]) (k1 := 0) (n1 := 0) (nA := 1) hX (mX2_isFile hc1) dX2_stateBehind_67 gX2_stateBehind_X2_isFile rfl ⟨by decide, by decide, by decide +kernel⟩ ⟨by decide, by decide⟩ ⟨by decide, by decide⟩ rfl rfl (Nat.le_of_ble_eq_true rfl) (by decide +kernel) rfl rfl (fun hg1 => ?_)
      refine z_if_eq (tgt := 77) hX dX2_stateBehind_70 (by decide) rfl hr (fun hr => ?_) (fun hr => ?_)
      · refine z_iload_n hX dX2_stateBehind_77 1 rfl ?_
        obtain ⟨r2, hc2, hr⟩ := z_bind hr
        refine z_callS_i (As := [.int (iI p2)]) (k1 := 0) (n1 := 0) (nA := 1) hX (mX2_isRank hc2) dX2_stateBehind_78 gX2_stateBehind_X2_isRank rfl ⟨by decide, by decide, by decide +kernel⟩ ⟨by decide, by decide⟩ ⟨by decide, by decide⟩ rfl rfl (Nat.le_of_ble_eq_true rfl) (by decide +kernel) rfl rfl (fun hg2 => ?_)
        refine z_if_eq (tgt := 88) hX dX2_stateBehind_81 (by decide) rfl hr (fun hr => ?_) (fun hr => ?_)
        · refine z_iload_n hX dX2_stateBehind_88 1 rfl ?_
          refine z_bipush hX dX2_stateBehind_89 (by decide +kernel) ?_
          refine z_icmp_ne (tgt := 98) hX dX2_stateBehind_91 (by decide) rfl (wr_of (by decide) (by decide)) hr (fun hr => ?_) (fun hr => ?_)
          · refine z_iconst hX dX2_stateBehind_98 ?_
            obtain rfl := Option.some.inj hr
            exact hQ _ _ dX2_stateBehind_99 hf
          · refine z_iconst hX dX2_stateBehind_94 ?_
            refine z_goto (tgt := 99) hX dX2_stateBehind_95 (by decide) ?_
            obtain rfl := Option.some.inj hr
            exact hQ _ _ dX2_stateBehind_99 hf
        · refine z_iconst hX dX2_stateBehind_84 ?_
          refine z_goto (tgt := 99) hX dX2_stateBehind_85 (by decide) ?_
          obtain rfl := Option.some.inj hr
          exact hQ _ _ dX2_stateBehind_99 hf
      · refine z_iconst hX dX2_stateBehind_73 ?_
        refine z_goto (tgt := 99) hX dX2_stateBehind_74 (by decide) ?_
        obtain rfl := Option.some.inj hr
        exact hQ _ _ dX2_stateBehind_99 hf
    · have hr := z_ifn hr n1
      by_cases n2 : wr p1 = 2
      · have hr := z_ifp hr n2
        refine z_tableIn (v := 2) (tgt := 100) hX dX2_stateBehind_1 n2 (by decide) (by decide) rfl (by decide) ?_
        refine z_iload_n hX dX2_stateBehind_100 1 rfl ?_
        obtain ⟨r3, hc3, hr⟩ := z_bind hr
        refine z_callS_i (As := [.int (iI p2)]) (k1 := 0) (n1 := 0) (nA := 1) hX (mX2_isRank hc3) dX2_stateBehind_101 gX2_stateBehind_X2_isRank rfl ⟨by decide, by decide, by decide +kernel⟩ ⟨by decide, by decide⟩ ⟨by decide, by decide⟩ rfl rfl (Nat.le_of_ble_eq_true rfl) (by decide +kernel) rfl rfl (fun hg3 => ?_)
        refine z_if_eq (tgt := 111) hX dX2_stateBehind_104 (by decide) rfl hr (fun hr => ?_) (fun hr => ?_)
        · refine z_iload_n hX dX2_stateBehind_111 1 rfl ?_
          obtain ⟨r4, hc4, hr⟩ := z_bind hr
          refine z_callS_i (As := [.int (iI p2)]) (k1 := 0) (n1 := 0) (nA := 1) hX (mX2_stateBehindOrigin hc4) dX2_stateBehind_112 gX2_stateBehind_X2_stateBehindOrigin rfl ⟨by decide, by decide, by decide +kernel⟩ ⟨by decide, by decide⟩ ⟨by decide, by decide⟩ rfl rfl (Nat.le_of_ble_eq_true rfl) (by decide +kernel) rfl rfl (fun hg4 => ?_)
          obtain rfl := Option.some.inj hr
          exact hQ _ _ dX2_stateBehind_115 hf
        · refine z_iconst hX dX2_stateBehind_107 ?_
          refine z_goto (tgt := 115) hX dX2_stateBehind_108 (by decide) ?_
          obtain rfl := Option.some.inj hr
          exact hQ _ _ dX2_stateBehind_115 hf
      · have hr := z_ifn hr n2
        by_cases n3 : wr p1 = 3
        · have hr := z_ifp hr n3
          refine z_tableIn (v := 3) (tgt := 116) hX dX2_stateBehind_1 n3 (by decide) (by decide) rfl (by decide) ?_
          refine z_iload_n hX dX2_stateBehind_116 1 rfl ?_
          obtain ⟨r5, hc5, hr⟩ := z_bind hr
          refine z_callS_i (As := [.int (iI p2)]) (k1 := 0) (n1 := 0) (nA := 1) hX (mX2_stateBehindOrigin hc5) dX2_stateBehind_117 gX2_stateBehind_X2_stateBehindOrigin rfl ⟨by decide, by decide, by decide +kernel⟩ ⟨by decide, by decide⟩ ⟨by decide, by decide⟩ rfl rfl (Nat.le_of_ble_eq_true rfl) (by decide +kernel) rfl rfl (fun hg5 => ?_)
          obtain rfl := Option.some.inj hr
          exact hQ _ _ dX2_stateBehind_120 hf
        · have hr := z_ifn hr n3
          by_cases n4 : wr p1 = 4
          · have hr := z_ifp hr n4
            refine z_tableIn (v := 4) (tgt := 121) hX dX2_stateBehind_1 n4 (by decide) (by decide) rfl (by decide) ?_
            refine z_iload_n hX dX2_stateBehind_121 1 rfl ?_
            obtain ⟨r6, hc6, hr⟩ := z_bind hr
            refine z_callS_i (As := [.int (iI p2)]) (k1 := 0) (n1 := 0) (nA := 1) hX (mX2_isSign hc6) dX2_stateBehind_122 gX2_stateBehind_X2_isSign rfl ⟨by decide, by decide, by decide +kernel⟩ ⟨by decide, by decide⟩ ⟨by decide, by decide⟩ rfl rfl (Nat.le_of_ble_eq_true rfl) (by decide +kernel) rfl rfl (fun hg6 => ?_)
            refine z_if_eq (tgt := 133) hX dX2_stateBehind_125 (by decide) rfl hr (fun hr => ?_) (fun hr => ?_)
            · refine z_iload_n hX dX2_stateBehind_133 1 rfl ?_
              obtain ⟨r7, hc7, hr⟩ := z_bind hr
              refine z_callS_i (As := [.int (iI p2)]) (k1 := 0) (n1 := 0) (nA := 1) hX (mX2_stateBehindOrigin hc7) dX2_stateBehind_134 gX2_stateBehind_X2_stateBehindOrigin rfl ⟨by decide, by decide, by decide +kernel⟩ ⟨by decide, by decide⟩ ⟨by decide, by decide⟩ rfl rfl (Nat.le_of_ble_eq_true rfl) (by decide +kernel) rfl rfl (fun hg7 => ?_)
              obtain rfl := Option.some.inj hr
              exact hQ _ _ dX2_stateBehind_137 hf
            · refine z_bipush hX dX2_stateBehind_128 (by decide +kernel) ?_
              refine z_goto (tgt := 137) hX dX2_stateBehind_130 (by decide) ?_
              obtain rfl := Option.some.inj hr
              exact hQ _ _ dX2_stateBehind_137 hf
          · have hr := z_ifn hr n4
            by_cases n5 : wr p1 = 5
            · have hr := z_ifp hr n5
              refine z_tableIn (v := 5) (tgt := 138) hX dX2_stateBehind_1 n5 (by decide) (by decide) rfl (by decide) ?_
              refine z_iload_n hX dX2_stateBehind_138 1 rfl ?_
              obtain ⟨r8, hc8, hr⟩ := z_bind hr
              refine z_callS_i (As := [.int (iI p2)]) (k1 := 0) (n1 := 0) (nA := 1) hX (mX2_isFile hc8) dX2_stateBehind_139 gX2_stateBehind_X2_isFile rfl ⟨by decide, by decide, by decide +kernel⟩ ⟨by decide, by decide⟩ ⟨by decide, by decide⟩ rfl rfl (Nat.le_of_ble_eq_true rfl) (by decide +kernel) rfl rfl (fun hg8 => ?_)
              refine z_if_eq (tgt := 150) hX dX2_stateBehind_142 (by decide) rfl hr (fun hr => ?_) (fun hr => ?_)
              · refine z_iconst hX dX2_stateBehind_150 ?_
                obtain rfl := Option.some.inj hr
                exact hQ _ _ dX2_stateBehind_151 hf
              · refine z_bipush hX dX2_stateBehind_145 (by decide +kernel) ?_
                refine z_goto (tgt := 151) hX dX2_stateBehind_147 (by decide) ?_
                obtain rfl := Option.some.inj hr
                exact hQ _ _ dX2_stateBehind_151 hf
            · have hr := z_ifn hr n5
              by_cases n6 : wr p1 = 6
              · have hr := z_ifp hr n6
                refine z_tableIn (v := 6) (tgt := 152) hX dX2_stateBehind_1 n6 (by decide) (by decide) rfl (by decide) ?_
                refine z_iload_n hX dX2_stateBehind_152 1 rfl ?_
                obtain ⟨r9, hc9, hr⟩ := z_bind hr
                refine z_callS_i (As := [.int (iI p2)]) (k1 := 0) (n1 := 0) (nA := 1) hX (mX2_isRank hc9) dX2_stateBehind_153 gX2_stateBehind_X2_isRank rfl ⟨by decide, by decide, by decide +kernel⟩ ⟨by decide, by decide⟩ ⟨by decide, by decide⟩ rfl rfl (Nat.le_of_ble_eq_true rfl) (by decide +kernel) rfl rfl (fun hg9 => ?_)
                refine z_if_eq (tgt := 164) hX dX2_stateBehind_156 (by decide) rfl hr (fun hr => ?_) (fun hr => ?_)
                · refine z_iconst hX dX2_stateBehind_164 ?_
                  obtain rfl := Option.some.inj hr
                  exact hQ _ _ dX2_stateBehind_165 hf
                · refine z_bipush hX dX2_stateBehind_159 (by decide +kernel) ?_
                  refine z_goto (tgt := 165) hX dX2_stateBehind_161 (by decide) ?_
                  obtain rfl := Option.some.inj hr
                  exact hQ _ _ dX2_stateBehind_165 hf
              · have hr := z_ifn hr n6
                by_cases n7 : wr p1 = 7
                · have hr := z_ifp hr n7
                  refine z_tableIn (v := 7) (tgt := 166) hX dX2_stateBehind_1 n7 (by decide) (by decide) rfl (by decide) ?_
                  refine z_iload_n hX dX2_stateBehind_166 1 rfl ?_
                  obtain ⟨r10, hc10, hr⟩ := z_bind hr
                  refine z_callS_i (As := [.int (iI p2)]) (k1 := 0) (n1 := 0) (nA := 1) hX (mX2_isSign hc10) dX2_stateBehind_167 gX2_stateBehind_X2_isSign rfl ⟨by decide, by decide, by decide +kernel⟩ ⟨by decide, by decide⟩ ⟨by decide, by decide⟩ rfl rfl (Nat.le_of_ble_eq_true rfl) (by decide +kernel) rfl rfl (fun hg10 => ?_)
                  refine z_if_eq (tgt := 178) hX dX2_stateBehind_170 (by decide) rfl hr (fun hr => ?_) (fun hr => ?_)
                  · refine z_iconst hX dX2_stateBehind_178 ?_
                    obtain rfl := Option.some.inj hr
                    exact hQ _ _ dX2_stateBehind_179 hf
                  · refine z_bipush hX dX2_stateBehind_173 (by decide +kernel) ?_
                    refine z_goto (tgt := 179) hX dX2_stateBehind_175 (by decide) ?_
                    obtain rfl := Option.some.inj hr
                    exact hQ _ _ dX2_stateBehind_179 hf
                · have hr := z_ifn hr n7
                  refine z_tableOut (tgt := 180) hX dX2_stateBehind_1 (by omega) (by decide) ?_
                  refine z_iconst hX dX2_stateBehind_180 ?_
                  obtain rfl := Option.some.inj hr
                  exact hQ _ _ dX2_stateBehind_181 hf

def fX2_fits_b101 (h : HS) : Option (Int × HS) := if wr (h 18 0) = ((-1) : Int) then some (1, h) else some (0, h)
def fX2_fits_b68 (x3 : Int) (x4 : Int) (h : HS) : Option (Int × HS) := if wr (h 18 0) = ((-1) : Int) then if wr x4 = (4 : Int) then fX2_fits_b101 h else if wr x4 = (7 : Int) then fX2_fits_b101 h else if wr x4 = (8 : Int) then fX2_fits_b101 h else fX2_fits_b101 (hs h 18 0 x3) else fX2_fits_b101 h
def fX2_fits_b62 (k10 : Int → Int → Int → HS → Option (Int × HS)) (x3 : Int) (x4 : Int) (x5 : Int) (h : HS) : Option (Int × HS) := k10 x3 x4 (x5 + 1) h
def fX2_fits_L10 : Nat → Int → Int → Int → HS → Option (Int × HS)
  | 0, _, _, _, _ => none
  | nf + 1, x3, x4, x5, h => if wr x3 ≤ wr x5 then fX2_fits_b68 x3 x4 h else if wr (h 18 0) = ((-1) : Int) then (fX3_get x5 h).bind fun r1 => (fX2_stateBehind x4 r1 h).bind fun r2 => if wr r2 = ((-1) : Int) then fX2_fits_b62 (fun a0 a1 a2 hh => fX2_fits_L10 nf a0 a1 a2 hh) x3 r2 x5 (hs h 18 0 x5) else (fX3_get x5 h).bind fun r3 => (fX2_keep r3 h).bind fun r4 => fX2_fits_b62 (fun a0 a1 a2 hh => fX2_fits_L10 nf a0 a1 a2 hh) x3 r2 x5 r4 else fX2_fits_b68 x3 x4 h
def fX2_fits (p2 : Int) (p3 : Int) (h : HS) : Option (Int × HS) := (fX2_forget h).bind fun r5 => fX2_fits_L10 zF p3 0 p2 r5
set_option maxRecDepth 100000 in
set_option maxHeartbeats 4000000 in
theorem mX2_fits {G : ZG} {l0 : Launch} {ad : Nat → Nat} {h0 : HS} {p2 : Int} {p3 : Int} {o : Int × HS} (hr : fX2_fits p2 p3 h0 = some o) : ZMi G l0 yX2_fits wsX2_fits ({ frames := 3, cells := 0, slots := 0, locals := 61 }) [.ref (ad 18), .ref (ad 19), .int (iI p2), .int (iI p3)] sh_5 ad h0 [18] o.1 o.2 := by
  refine ZMi.ofZ (cc := cX2_fits) (maxL := 6) (ret := (some .boolean)) (own := RX2) (lv0 := [(0, .ref (ad 18)), (1, .ref (ad 19)), (2, .int (iI p2)), (3, .int (iI p3))]) (by decide) rfl rfl rfl (Nat.le_of_ble_eq_true rfl) rfl ?_
  intro X hX hQ
  have hf : zfr [18] h0 h0 := zfr_rf
  have fl_9 : zFld wsX2_fits RX2 9 2 RX2 TX2 8 0 := ⟨by decide +kernel, by decide +kernel, by decide, rfl⟩
  have pu_X2_0 : zPut TX2 8 0 tyX2 .int := ⟨tyX2_ok, nmX2, rfl, by decide +kernel⟩
  have B101 : ∀ (h : HS), zfr [18] h0 h → fX2_fits_b101 h = some o → ZW G X sh_5 ad h 0 0 [(0, .ref (ad 18))] 101 [] := by
    intro h hf hr
    unfold fX2_fits_b101 at hr
    refine z_aload_n hX dX2_fits_101 0 rfl ?_
    refine z_getI hX dX2_fits_102 fl_9 0 rfl rfl ?_
    refine z_iconst hX dX2_fits_105 ?_
    refine z_icmp_ne (tgt := 113) hX dX2_fits_106 (by decide) rfl (wr_of (by decide) (by decide)) hr (fun hr => ?_) (fun hr => ?_)
    · refine z_iconst hX dX2_fits_113 ?_
      obtain rfl := Option.some.inj hr
      exact hQ _ _ dX2_fits_114 hf (Or.inl rfl)
    · refine z_iconst hX dX2_fits_109 ?_
      refine z_goto (tgt := 114) hX dX2_fits_110 (by decide) ?_
      obtain rfl := Option.some.inj hr
      exact hQ _ _ dX2_fits_114 hf (Or.inr rfl)
  have B68 : ∀ (x3 : Int) (x4 : Int) (h : HS), zfr [18] h0 h → fX2_fits_b68 x3 x4 h = some o → ZW G X sh_5 ad h 0 0 [(0, .ref (ad 18)), (3, .int (iI x3)), (4, .int (iI x4))] 68 [] := by
    intro x3 x4 h hf hr
    unfold fX2_fits_b68 at hr
    refine z_aload_n hX dX2_fits_68 0 rfl ?_
    refine z_getI hX dX2_fits_69 fl_9 0 rfl rfl ?_
    refine z_iconst hX dX2_fits_72 ?_
    refine z_icmp_ne (tgt := 101) hX dX2_fits_73 (by decide) rfl (wr_of (by decide) (by decide)) hr (fun hr => ?_) (fun hr => ?_)
    · refine z_lv [0] rfl ?_
      exact B101 h hf hr
    · refine z_iload hX dX2_fits_76 2 rfl ?_
      refine z_iconst hX dX2_fits_78 ?_
      refine z_icmp_eq (tgt := 101) hX dX2_fits_79 (by decide) rfl (wr_of (by decide) (by decide)) hr (fun hr => ?_) (fun hr => ?_)
      · refine z_lv [0] rfl ?_
        exact B101 h hf hr
      · refine z_iload hX dX2_fits_82 2 rfl ?_
        refine z_bipush hX dX2_fits_84 (by decide +kernel) ?_
        refine z_icmp_eq (tgt := 101) hX dX2_fits_86 (by decide) rfl (wr_of (by decide) (by decide)) hr (fun hr => ?_) (fun hr => ?_)
        · refine z_lv [0] rfl ?_
          exact B101 h hf hr
        · refine z_iload hX dX2_fits_89 2 rfl ?_
          refine z_bipush hX dX2_fits_91 (by decide +kernel) ?_
          refine z_icmp_eq (tgt := 101) hX dX2_fits_93 (by decide) rfl (wr_of (by decide) (by decide)) hr (fun hr => ?_) (fun hr => ?_)
          · refine z_lv [0] rfl ?_
            exact B101 h hf hr
          · refine z_aload_n hX dX2_fits_96 0 rfl ?_
            refine z_iload_n hX dX2_fits_97 1 rfl ?_
            refine z_putI hX dX2_fits_98 fl_9 pu_X2_0 0 rfl rfl ?_
            have hf : zfr [18] h0 (hs h 18 0 x3) := zfr_hs hf (by decide)
            refine z_lv [0] rfl ?_
            exact B101 (hs h 18 0 x3) hf hr
  have B10 : ∀ (nf : Nat) (x3 : Int) (x4 : Int) (x5 : Int) (h : HS), zfr [18] h0 h → fX2_fits_L10 nf x3 x4 x5 h = some o → ZW G X sh_5 ad h 0 0 [(0, .ref (ad 18)), (1, .ref (ad 19)), (3, .int (iI x3)), (4, .int (iI x4)), (5, .int (iI x5))] 10 [] := by
    intro nf
    induction nf with
    | zero => intro x3 x4 x5 h hf hr; exact z_none hr
    | succ n10 ih10 =>
      intro x3 x4 x5 h hf hr
      have B62 : ∀ (x3 : Int) (x4 : Int) (x5 : Int) (h : HS), zfr [18] h0 h → fX2_fits_b62 (fun a0 a1 a2 hh => fX2_fits_L10 n10 a0 a1 a2 hh) x3 x4 x5 h = some o → ZW G X sh_5 ad h 0 0 [(0, .ref (ad 18)), (1, .ref (ad 19)), (3, .int (iI x3)), (4, .int (iI x4)), (5, .int (iI x5))] 62 [] := by
        intro x3 x4 x5 h hf hr
        unfold fX2_fits_b62 at hr
        refine z_iinc (lv1 := [(5, .int (iI (x5 + 1))), (0, .ref (ad 18)), (1, .ref (ad 19)), (3, .int (iI x3)), (4, .int (iI x4))]) hX dX2_fits_62 4 rfl (by decide) rfl ?_
        refine z_goto (tgt := 10) hX dX2_fits_65 (by decide) ?_
        refine z_lv [1, 2, 3, 4, 0] rfl ?_
        exact ih10 x3 x4 (x5 + 1) h hf hr
      unfold fX2_fits_L10 at hr
      refine z_iload hX dX2_fits_10 4 rfl ?_
      refine z_iload_n hX dX2_fits_12 2 rfl ?_
      refine z_icmp_ge (tgt := 68) hX dX2_fits_13 (by decide) rfl rfl hr (fun hr => ?_) (fun hr => ?_)
      · refine z_lv [0, 2, 3] rfl ?_
        exact B68 x3 x4 h hf hr
      · refine z_aload_n hX dX2_fits_16 0 rfl ?_
        refine z_getI hX dX2_fits_17 fl_9 0 rfl rfl ?_
        refine z_iconst hX dX2_fits_20 ?_
        refine z_icmp_ne (tgt := 68) hX dX2_fits_21 (by decide) rfl (wr_of (by decide) (by decide)) hr (fun hr => ?_) (fun hr => ?_)
        · refine z_lv [0, 2, 3] rfl ?_
          exact B68 x3 x4 h hf hr
        · refine z_iload hX dX2_fits_24 3 rfl ?_
          refine z_aload_n hX dX2_fits_26 1 rfl ?_
          refine z_iload hX dX2_fits_27 4 rfl ?_
          obtain ⟨r1, hc1, hr⟩ := z_bind hr
          refine z_callV_i (As := [.int (iI x5)]) (k1 := 0) (n1 := 0) (nA := 1) hX (mX3_get hc1) dX2_fits_29 gX2_fits_X3_get rfl ⟨rfl, by decide, by decide, by decide +kernel⟩ ⟨by decide, by decide⟩ ⟨by decide, by decide⟩ 1 rfl rfl rfl rfl (Nat.le_of_ble_eq_true rfl) (by decide +kernel) rfl rfl (fun hg1 => ?_)
          obtain ⟨r2, hc2, hr⟩ := z_bind hr
          refine z_callS_i (As := [.int (iI x4), .int (iI r1)]) (k1 := 0) (n1 := 0) (nA := 2) hX (mX2_stateBehind hc2) dX2_fits_32 gX2_fits_X2_stateBehind rfl ⟨by decide, by decide, by decide +kernel⟩ ⟨by decide, by decide⟩ ⟨by decide, by decide⟩ rfl rfl (Nat.le_of_ble_eq_true rfl) (by decide +kernel) rfl rfl (fun hg2 => ?_)
          refine z_istore (lv1 := [(4, .int (iI r2)), (0, .ref (ad 18)), (1, .ref (ad 19)), (3, .int (iI x3)), (5, .int (iI x5))]) hX dX2_fits_35 (by decide) rfl ?_
          refine z_iload hX dX2_fits_37 0 rfl ?_
          refine z_iconst hX dX2_fits_39 ?_
          refine z_icmp_ne (tgt := 52) hX dX2_fits_40 (by decide) rfl (wr_of (by decide) (by decide)) hr (fun hr => ?_) (fun hr => ?_)
          · refine z_aload_n hX dX2_fits_52 1 rfl ?_
            refine z_aload_n hX dX2_fits_53 2 rfl ?_
            refine z_iload hX dX2_fits_54 4 rfl ?_
            obtain ⟨r3, hc3, hr⟩ := z_bind hr
            refine z_callV_i (As := [.int (iI x5)]) (k1 := 0) (n1 := 0) (nA := 1) hX (mX3_get hc3) dX2_fits_56 gX2_fits_X3_get rfl ⟨rfl, by decide, by decide, by decide +kernel⟩ ⟨by decide, by decide⟩ ⟨by decide, by decide⟩ 1 rfl rfl rfl rfl (Nat.le_of_ble_eq_true rfl) (by decide +kernel) rfl rfl (fun hg3 => ?_)
            obtain ⟨r4, hc4, hr⟩ := z_bind hr
            refine z_callV_v (As := [.int (iI r3)]) (k1 := 0) (n1 := 0) (nA := 1) hX (mX2_keep hc4) dX2_fits_59 gX2_fits_X2_keep rfl ⟨rfl, by decide, by decide, by decide +kernel⟩ ⟨by decide, by decide⟩ ⟨by decide, by decide⟩ 0 rfl rfl rfl rfl (Nat.le_of_ble_eq_true rfl) (by decide +kernel) rfl rfl (fun hg4 => ?_)
            have hf : zfr [18] h0 r4 := zfr_tr hf (by decide) hg4
            refine z_lv [1, 2, 3, 0, 4] rfl ?_
            exact B62 x3 r2 x5 r4 hf hr
          · refine z_aload_n hX dX2_fits_43 1 rfl ?_
            refine z_iload hX dX2_fits_44 4 rfl ?_
            refine z_putI hX dX2_fits_46 fl_9 pu_X2_0 0 rfl rfl ?_
            have hf : zfr [18] h0 (hs h 18 0 x5) := zfr_hs hf (by decide)
            refine z_goto (tgt := 62) hX dX2_fits_49 (by decide) ?_
            refine z_lv [1, 2, 3, 0, 4] rfl ?_
            exact B62 x3 r2 x5 (hs h 18 0 x5) hf hr
  unfold fX2_fits at hr
  refine z_aload_n hX dX2_fits_0 0 rfl ?_
  obtain ⟨r5, hc5, hr⟩ := z_bind hr
  refine z_callV_v (As := []) (k1 := 0) (n1 := 0) (nA := 0) hX (mX2_forget hc5) dX2_fits_1 gX2_fits_X2_forget rfl ⟨rfl, by decide, by decide, by decide +kernel⟩ ⟨by decide, by decide⟩ ⟨by decide, by decide⟩ 0 rfl rfl rfl rfl (Nat.le_of_ble_eq_true rfl) (by decide +kernel) rfl rfl (fun hg5 => ?_)
  have hf : zfr [18] h0 r5 := zfr_tr hf (by decide) hg5
  refine z_iconst hX dX2_fits_4 ?_
  refine z_istore (lv1 := [(4, .int (iI 0)), (0, .ref (ad 18)), (1, .ref (ad 19)), (2, .int (iI p2)), (3, .int (iI p3))]) hX dX2_fits_5 (by decide) rfl ?_
  refine z_iload_n hX dX2_fits_7 3 rfl ?_
  refine z_istore (lv1 := [(5, .int (iI p2)), (4, .int (iI 0)), (0, .ref (ad 18)), (1, .ref (ad 19)), (2, .int (iI p2)), (3, .int (iI p3))]) hX dX2_fits_8 (by decide) rfl ?_
  refine z_lv [2, 3, 5, 1, 0] rfl ?_
  exact B10 zF p3 0 p2 r5 hf hr

