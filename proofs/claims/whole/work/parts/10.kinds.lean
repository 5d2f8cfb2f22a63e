def fX1_has (p1 : Int) (h : HS) : Option (Int) := if wr p1 < 0 then some 0 else if wr (h 1 5) ≤ wr p1 then some 0 else some 1
set_option maxRecDepth 100000 in
set_option maxHeartbeats 4000000 in
theorem mX1_has {G : ZG} {l0 : Launch} {ad : Nat → Nat} {h0 : HS} {p1 : Int} {o : Int} (hr : fX1_has p1 h0 = some o) : ZMi G l0 yX1_has wsX1_has ({ frames := 0, cells := 0, slots := 0, locals := 0 }) [.ref (ad 1), .int (iI p1)] sh_0 ad h0 [] o h0 := by
  refine ZMi.ofZ (cc := cX1_has) (maxL := 2) (ret := (some .boolean)) (own := RX1) (lv0 := [(0, .ref (ad 1)), (1, .int (iI p1))]) (by decide) rfl rfl rfl (Nat.le_of_ble_eq_true rfl) rfl ?_
  intro X hX hQ
  have hf : zfr [] h0 h0 := zfr_rf
  have fl_27 : zFld wsX1_has RX1 27 1 RX1 TX1 6 5 := ⟨by decide +kernel, by decide +kernel, by decide, rfl⟩
  unfold fX1_has at hr
  refine z_iload_n hX dX1_has_0 1 rfl ?_
  refine z_if_lt (tgt := 16) hX dX1_has_1 (by decide) rfl hr (fun hr => ?_) (fun hr => ?_)
  · refine z_iconst hX dX1_has_16 ?_
    obtain rfl := Option.some.inj hr
    exact hQ _ _ dX1_has_17 hf (Or.inl rfl)
  · refine z_iload_n hX dX1_has_4 1 rfl ?_
    refine z_aload_n hX dX1_has_5 0 rfl ?_
    refine z_getI hX dX1_has_6 fl_27 0 rfl rfl ?_
    refine z_icmp_ge (tgt := 16) hX dX1_has_9 (by decide) rfl rfl hr (fun hr => ?_) (fun hr => ?_)
    · refine z_iconst hX dX1_has_16 ?_
      obtain rfl := Option.some.inj hr
      exact hQ _ _ dX1_has_17 hf (Or.inl rfl)
    · refine z_iconst hX dX1_has_12 ?_
      refine z_goto (tgt := 17) hX dX1_has_13 (by decide) ?_
      obtain rfl := Option.some.inj hr
      exact hQ _ _ dX1_has_17 hf (Or.inr rfl)

def fX1_size (h : HS) : Option (Int) := some (h 1 5)
set_option maxRecDepth 100000 in
set_option maxHeartbeats 4000000 in
theorem mX1_size {G : ZG} {l0 : Launch} {ad : Nat → Nat} {h0 : HS} {o : Int} (hr : fX1_size h0 = some o) : ZMi G l0 yX1_size wsX1_size ({ frames := 0, cells := 0, slots := 0, locals := 0 }) [.ref (ad 1)] sh_0 ad h0 [] o h0 := by
  refine ZMi.of (cc := cX1_size) (maxL := 1) (ret := (some .int)) (own := RX1) (lv0 := [(0, .ref (ad 1))]) (by decide) rfl rfl rfl (Nat.le_of_ble_eq_true rfl) rfl ?_
  intro X hX hQ
  have hf : zfr [] h0 h0 := zfr_rf
  have fl_27 : zFld wsX1_size RX1 27 1 RX1 TX1 6 5 := ⟨by decide +kernel, by decide +kernel, by decide, rfl⟩
  unfold fX1_size at hr
  refine z_aload_n hX dX1_size_0 0 rfl ?_
  refine z_getI hX dX1_size_1 fl_27 0 rfl rfl ?_
  obtain rfl := Option.some.inj hr
  exact hQ _ _ dX1_size_4 hf

def fX1_letter (p1 : Int) (h : HS) : Option (Int) := (fX1_has p1 h).bind fun r1 => if wr r1 = 0 then some (-1) else if (0 : Int) ≤ p1 ∧ p1 < 6 then some (h 2 p1) else none
set_option maxRecDepth 100000 in
set_option maxHeartbeats 4000000 in
theorem mX1_letter {G : ZG} {l0 : Launch} {ad : Nat → Nat} {h0 : HS} {p1 : Int} {o : Int} (hr : fX1_letter p1 h0 = some o) : ZMi G l0 yX1_letter wsX1_letter ({ frames := 1, cells := 0, slots := 0, locals := 21 }) [.ref (ad 1), .int (iI p1)] sh_0 ad h0 [] o h0 := by
  refine ZMi.of (cc := cX1_letter) (maxL := 2) (ret := (some .int)) (own := RX1) (lv0 := [(0, .ref (ad 1)), (1, .int (iI p1))]) (by decide) rfl rfl rfl (Nat.le_of_ble_eq_true rfl) rfl ?_
  intro X hX hQ
  have hf : zfr [] h0 h0 := zfr_rf
  have fl_9 : zFld wsX1_letter RX1 9 1 RX1 TX1 6 0 := ⟨by decide +kernel, by decide +kernel, by decide, rfl⟩
  unfold fX1_letter at hr
  refine z_aload_n hX dX1_letter_0 0 rfl ?_
  refine z_iload_n hX dX1_letter_1 1 rfl ?_
  obtain ⟨r1, hc1, hr⟩ := z_bind hr
  refine z_callV_i (As := [.int (iI p1)]) (k1 := 0) (n1 := 0) (nA := 1) hX (mX1_has hc1) dX1_letter_2 gX1_letter_X1_has rfl ⟨rfl, by decide, by decide, by decide +kernel⟩ ⟨by decide, by decide⟩ ⟨by decide, by decide⟩ 0 rfl rfl rfl rfl (Nat.le_of_ble_eq_true rfl) (by decide +kernel) rfl rfl (fun hg1 => ?_)
  refine z_if_eq (tgt := 17) hX dX1_letter_5 (by decide) rfl hr (fun hr => ?_) (fun hr => ?_)
  · refine z_iconst hX dX1_letter_17 ?_
    obtain rfl := Option.some.inj hr
    exact hQ _ _ dX1_letter_18 hf
  · refine z_aload_n hX dX1_letter_8 0 rfl ?_
    refine z_getR (j := 2) hX dX1_letter_9 fl_9 0 rfl rfl ?_
    refine z_iload_n hX dX1_letter_12 1 rfl ?_
    refine z_iaload (b := 6) hX dX1_letter_13 1 rfl (by decide) rfl hr (fun hr => ?_)
    refine z_goto (tgt := 18) hX dX1_letter_14 (by decide) ?_
    obtain rfl := Option.some.inj hr
    exact hQ _ _ dX1_letter_18 hf

def fX1_stepCount (p1 : Int) (h : HS) : Option (Int) := (fX1_has p1 h).bind fun r1 => if wr r1 = 0 then some 0 else if (0 : Int) ≤ p1 ∧ p1 < 6 then some (h 3 p1) else none
set_option maxRecDepth 100000 in
set_option maxHeartbeats 4000000 in
theorem mX1_stepCount {G : ZG} {l0 : Launch} {ad : Nat → Nat} {h0 : HS} {p1 : Int} {o : Int} (hr : fX1_stepCount p1 h0 = some o) : ZMi G l0 yX1_stepCount wsX1_stepCount ({ frames := 1, cells := 0, slots := 0, locals := 21 }) [.ref (ad 1), .int (iI p1)] sh_0 ad h0 [] o h0 := by
  refine ZMi.of (cc := cX1_stepCount) (maxL := 2) (ret := (some .int)) (own := RX1) (lv0 := [(0, .ref (ad 1)), (1, .int (iI p1))]) (by decide) rfl rfl rfl (Nat.le_of_ble_eq_true rfl) rfl ?_
  intro X hX hQ
  have hf : zfr [] h0 h0 := zfr_rf
  have fl_15 : zFld wsX1_stepCount RX1 15 1 RX1 TX1 6 1 := ⟨by decide +kernel, by decide +kernel, by decide, rfl⟩
  unfold fX1_stepCount at hr
  refine z_aload_n hX dX1_stepCount_0 0 rfl ?_
  refine z_iload_n hX dX1_stepCount_1 1 rfl ?_
  obtain ⟨r1, hc1, hr⟩ := z_bind hr
  refine z_callV_i (As := [.int (iI p1)]) (k1 := 0) (n1 := 0) (nA := 1) hX (mX1_has hc1) dX1_stepCount_2 gX1_stepCount_X1_has rfl ⟨rfl, by decide, by decide, by decide +kernel⟩ ⟨by decide, by decide⟩ ⟨by decide, by decide⟩ 0 rfl rfl rfl rfl (Nat.le_of_ble_eq_true rfl) (by decide +kernel) rfl rfl (fun hg1 => ?_)
  refine z_if_eq (tgt := 17) hX dX1_stepCount_5 (by decide) rfl hr (fun hr => ?_) (fun hr => ?_)
  · refine z_iconst hX dX1_stepCount_17 ?_
    obtain rfl := Option.some.inj hr
    exact hQ _ _ dX1_stepCount_18 hf
  · refine z_aload_n hX dX1_stepCount_8 0 rfl ?_
    refine z_getR (j := 3) hX dX1_stepCount_9 fl_15 0 rfl rfl ?_
    refine z_iload_n hX dX1_stepCount_12 1 rfl ?_
    refine z_iaload (b := 6) hX dX1_stepCount_13 2 rfl (by decide) rfl hr (fun hr => ?_)
    refine z_goto (tgt := 18) hX dX1_stepCount_14 (by decide) ?_
    obtain rfl := Option.some.inj hr
    exact hQ _ _ dX1_stepCount_18 hf

def fX1_withLetter_L2 : Nat → Int → Int → HS → Option (Int)
  | 0, _, _, _ => none
  | nf + 1, x1, x2, h => if wr (h 1 5) ≤ wr x2 then some (-1) else if (0 : Int) ≤ x2 ∧ x2 < 6 then if wr (h 2 x2) = wr x1 then some x2 else fX1_withLetter_L2 nf x1 (x2 + 1) h else none
def fX1_withLetter (p1 : Int) (h : HS) : Option (Int) := fX1_withLetter_L2 zF p1 0 h
set_option maxRecDepth 100000 in
set_option maxHeartbeats 4000000 in
theorem mX1_withLetter {G : ZG} {l0 : Launch} {ad : Nat → Nat} {h0 : HS} {p1 : Int} {o : Int} (hr : fX1_withLetter p1 h0 = some o) : ZMi G l0 yX1_withLetter wsX1_withLetter ({ frames := 0, cells := 0, slots := 0, locals := 0 }) [.ref (ad 1), .int (iI p1)] sh_0 ad h0 [] o h0 := by
  refine ZMi.of (cc := cX1_withLetter) (maxL := 3) (ret := (some .int)) (own := RX1) (lv0 := [(0, .ref (ad 1)), (1, .int (iI p1))]) (by decide) rfl rfl rfl (Nat.le_of_ble_eq_true rfl) rfl ?_
  intro X hX hQ
  have hf : zfr [] h0 h0 := zfr_rf
  have fl_27 : zFld wsX1_withLetter RX1 27 1 RX1 TX1 6 5 := ⟨by decide +kernel, by decide +kernel, by decide, rfl⟩
  have fl_9 : zFld wsX1_withLetter RX1 9 1 RX1 TX1 6 0 := ⟨by decide +kernel, by decide +kernel, by decide, rfl⟩
  have B2 : ∀ (nf : Nat) (x1 : Int) (x2 : Int), fX1_withLetter_L2 nf x1 x2 h0 = some o → ZW G X sh_0 ad h0 0 0 [(0, .ref (ad 1)), (1, .int (iI x1)), (2, .int (iI x2))] 2 [] := by
    intro nf
    induction nf with
    | zero => intro x1 x2 hr; exact z_none hr
    | succ n2 ih2 =>
      intro x1 x2 hr
      unfold fX1_withLetter_L2 at hr
      refine z_iload_n hX dX1_withLetter_2 2 rfl ?_
      refine z_aload_n hX dX1_withLetter_3 0 rfl ?_
      refine z_getI hX dX1_withLetter_4 fl_27 0 rfl rfl ?_
      refine z_icmp_ge (tgt := 28) hX dX1_withLetter_7 (by decide) rfl rfl hr (fun hr => ?_) (fun hr => ?_)
      · refine z_iconst hX dX1_withLetter_28 ?_
        obtain rfl := Option.some.inj hr
        exact hQ _ _ dX1_withLetter_29 hf
      · refine z_aload_n hX dX1_withLetter_10 0 rfl ?_
        refine z_getR (j := 2) hX dX1_withLetter_11 fl_9 0 rfl rfl ?_
        refine z_iload_n hX dX1_withLetter_14 2 rfl ?_
        refine z_iaload (b := 6) hX dX1_withLetter_15 1 rfl (by decide) rfl hr (fun hr => ?_)
        refine z_iload_n hX dX1_withLetter_16 1 rfl ?_
        refine z_icmp_ne (tgt := 22) hX dX1_withLetter_17 (by decide) rfl rfl hr (fun hr => ?_) (fun hr => ?_)
        · refine z_iinc (lv1 := [(2, .int (iI (x2 + 1))), (0, .ref (ad 1)), (1, .int (iI x1))]) hX dX1_withLetter_22 2 rfl (by decide) rfl ?_
          refine z_goto (tgt := 2) hX dX1_withLetter_25 (by decide) ?_
          refine z_lv [1, 2, 0] rfl ?_
          exact ih2 x1 (x2 + 1) hr
        · refine z_iload_n hX dX1_withLetter_20 2 rfl ?_
          obtain rfl := Option.some.inj hr
          exact hQ _ _ dX1_withLetter_21 hf
  unfold fX1_withLetter at hr
  refine z_iconst hX dX1_withLetter_0 ?_
  refine z_istore_n (lv1 := [(2, .int (iI 0)), (0, .ref (ad 1)), (1, .int (iI p1))]) hX dX1_withLetter_1 (by decide) rfl ?_
  refine z_lv [1, 2, 0] rfl ?_
  exact B2 zF p1 0 hr

def fX1_include (p1 : Int) (h : HS) : Option (Int × HS) := if wr (h 1 5) < (6 : Int) then if (0 : Int) ≤ (h 1 5) ∧ (h 1 5) < 6 then some (((((hs (hs h 2 (h 1 5) p1) 1 5 ((((hs h 2 (h 1 5) p1)) 1 5) + 1))) 1 5) - 1), (hs (hs h 2 (h 1 5) p1) 1 5 ((((hs h 2 (h 1 5) p1)) 1 5) + 1))) else none else some ((-1), h)
set_option maxRecDepth 100000 in
set_option maxHeartbeats 4000000 in
theorem mX1_include {G : ZG} {l0 : Launch} {ad : Nat → Nat} {h0 : HS} {p1 : Int} {o : Int × HS} (hr : fX1_include p1 h0 = some o) : ZMi G l0 yX1_include wsX1_include ({ frames := 0, cells := 0, slots := 0, locals := 0 }) [.ref (ad 1), .int (iI p1)] sh_0 ad h0 [1, 2] o.1 o.2 := by
  refine ZMi.of (cc := cX1_include) (maxL := 2) (ret := (some .int)) (own := RX1) (lv0 := [(0, .ref (ad 1)), (1, .int (iI p1))]) (by decide) rfl rfl rfl (Nat.le_of_ble_eq_true rfl) rfl ?_
  intro X hX hQ
  have hf : zfr [1, 2] h0 h0 := zfr_rf
  have fl_27 : zFld wsX1_include RX1 27 1 RX1 TX1 6 5 := ⟨by decide +kernel, by decide +kernel, by decide, rfl⟩
  have fl_9 : zFld wsX1_include RX1 9 1 RX1 TX1 6 0 := ⟨by decide +kernel, by decide +kernel, by decide, rfl⟩
  have pu_X1_5 : zPut TX1 6 5 tyX1 .int := ⟨tyX1_ok, nmX1, rfl, by decide +kernel⟩
  unfold fX1_include at hr
  refine z_aload_n hX dX1_include_0 0 rfl ?_
  refine z_getI hX dX1_include_1 fl_27 0 rfl rfl ?_
  refine z_aload_n hX dX1_include_4 0 rfl ?_
  refine z_getR (j := 2) hX dX1_include_5 fl_9 0 rfl rfl ?_
  refine z_alen hX dX1_include_8 1 rfl ?_
  refine z_icmp_lt (tgt := 14) hX dX1_include_9 (by decide) rfl (wr_of (by decide) (by decide)) hr (fun hr => ?_) (fun hr => ?_)
  · refine z_aload_n hX dX1_include_14 0 rfl ?_
    refine z_getR (j := 2) hX dX1_include_15 fl_9 0 rfl rfl ?_
    refine z_aload_n hX dX1_include_18 0 rfl ?_
    refine z_getI hX dX1_include_19 fl_27 0 rfl rfl ?_
    refine z_iload_n hX dX1_include_22 1 rfl ?_
    refine z_iastore (b := 6) hX dX1_include_23 1 rfl (by decide) rfl hr (fun hr => ?_)
    have hf : zfr [1, 2] h0 (hs h0 2 (h0 1 5) p1) := zfr_hs hf (by decide)
    refine z_aload_n hX dX1_include_24 0 rfl ?_
    refine z_dup hX dX1_include_25 rfl ?_
    refine z_getI hX dX1_include_26 fl_27 0 rfl rfl ?_
    refine z_iconst hX dX1_include_29 ?_
    refine z_iadd hX dX1_include_30 ?_
    refine z_putI hX dX1_include_31 fl_27 pu_X1_5 0 rfl rfl ?_
    have hf : zfr [1, 2] h0 (hs (hs h0 2 (h0 1 5) p1) 1 5 ((((hs h0 2 (h0 1 5) p1)) 1 5) + 1)) := zfr_hs hf (by decide)
    refine z_aload_n hX dX1_include_34 0 rfl ?_
    refine z_getI hX dX1_include_35 fl_27 0 rfl rfl ?_
    refine z_iconst hX dX1_include_38 ?_
    refine z_isub hX dX1_include_39 ?_
    obtain rfl := Option.some.inj hr
    exact hQ _ _ dX1_include_40 hf
  · refine z_iconst hX dX1_include_12 ?_
    obtain rfl := Option.some.inj hr
    exact hQ _ _ dX1_include_13 hf

def fX1_includeStep (p1 : Int) (p2 : Int) (p3 : Int) (p4 : Int) (h : HS) : Option (Int × HS) := (fX1_has p1 h).bind fun r1 => if wr r1 = 0 then some ((-1), h) else if (0 : Int) ≤ p1 ∧ p1 < 6 then if wr (h 3 p1) < (8 : Int) then if (0 : Int) ≤ p1 ∧ p1 < 6 then if (0 : Int) ≤ ((p1 * 8) + (h 3 p1)) ∧ ((p1 * 8) + (h 3 p1)) < 48 then if (0 : Int) ≤ ((p1 * 8) + (h 3 p1)) ∧ ((p1 * 8) + (h 3 p1)) < 48 then if (0 : Int) ≤ ((p1 * 8) + (h 3 p1)) ∧ ((p1 * 8) + (h 3 p1)) < 48 then if (0 : Int) ≤ p1 ∧ p1 < 6 then if (0 : Int) ≤ p1 ∧ p1 < 6 then if (0 : Int) ≤ p1 ∧ p1 < 6 then some ((((hs (hs (hs (hs h 4 ((p1 * 8) + (h 3 p1)) p2) 5 ((p1 * 8) + (h 3 p1)) p3) 6 ((p1 * 8) + (h 3 p1)) p4) 3 p1 ((((hs (hs (hs h 4 ((p1 * 8) + (h 3 p1)) p2) 5 ((p1 * 8) + (h 3 p1)) p3) 6 ((p1 * 8) + (h 3 p1)) p4)) 3 p1) + 1))) 3 p1), (hs (hs (hs (hs h 4 ((p1 * 8) + (h 3 p1)) p2) 5 ((p1 * 8) + (h 3 p1)) p3) 6 ((p1 * 8) + (h 3 p1)) p4) 3 p1 ((((hs (hs (hs h 4 ((p1 * 8) + (h 3 p1)) p2) 5 ((p1 * 8) + (h 3 p1)) p3) 6 ((p1 * 8) + (h 3 p1)) p4)) 3 p1) + 1))) else none else none else none else none else none else none else none else some ((-1), h) else none
set_option maxRecDepth 100000 in
set_option maxHeartbeats 4000000 in
theorem mX1_includeStep {G : ZG} {l0 : Launch} {ad : Nat → Nat} {h0 : HS} {p1 : Int} {p2 : Int} {p3 : Int} {p4 : Int} {o : Int × HS} (hr : fX1_includeStep p1 p2 p3 p4 h0 = some o) : ZMi G l0 yX1_includeStep wsX1_includeStep ({ frames := 1, cells := 0, slots := 0, locals := 21 }) [.ref (ad 1), .int (iI p1), .int (iI p2), .int (iI p3), .int (iI p4)] sh_0 ad h0 [3, 4, 5, 6] o.1 o.2 := by
  refine ZMi.of (cc := cX1_includeStep) (maxL := 6) (ret := (some .int)) (own := RX1) (lv0 := [(0, .ref (ad 1)), (1, .int (iI p1)), (2, .int (iI p2)), (3, .int (iI p3)), (4, .int (iI p4))]) (by decide) rfl rfl rfl (Nat.le_of_ble_eq_true rfl) rfl ?_
  intro X hX hQ
  have hf : zfr [3, 4, 5, 6] h0 h0 := zfr_rf
  have fl_15 : zFld wsX1_includeStep RX1 15 1 RX1 TX1 6 1 := ⟨by decide +kernel, by decide +kernel, by decide, rfl⟩
  have fl_18 : zFld wsX1_includeStep RX1 18 1 RX1 TX1 6 2 := ⟨by decide +kernel, by decide +kernel, by decide, rfl⟩
  have fl_21 : zFld wsX1_includeStep RX1 21 1 RX1 TX1 6 3 := ⟨by decide +kernel, by decide +kernel, by decide, rfl⟩
  have fl_24 : zFld wsX1_includeStep RX1 24 1 RX1 TX1 6 4 := ⟨by decide +kernel, by decide +kernel, by decide, rfl⟩
  unfold fX1_includeStep at hr
  refine z_aload_n hX dX1_includeStep_0 0 rfl ?_
  refine z_iload_n hX dX1_includeStep_1 1 rfl ?_
  obtain ⟨r1, hc1, hr⟩ := z_bind hr
  refine z_callV_i (As := [.int (iI p1)]) (k1 := 0) (n1 := 0) (nA := 1) hX (mX1_has hc1) dX1_includeStep_2 gX1_includeStep_X1_has rfl ⟨rfl, by decide, by decide, by decide +kernel⟩ ⟨by decide, by decide⟩ ⟨by decide, by decide⟩ 0 rfl rfl rfl rfl (Nat.le_of_ble_eq_true rfl) (by decide +kernel) rfl rfl (fun hg1 => ?_)
  refine z_if_eq (tgt := 19) hX dX1_includeStep_5 (by decide) rfl hr (fun hr => ?_) (fun hr => ?_)
  · refine z_iconst hX dX1_includeStep_19 ?_
    obtain rfl := Option.some.inj hr
    exact hQ _ _ dX1_includeStep_20 hf
  · refine z_aload_n hX dX1_includeStep_8 0 rfl ?_
    refine z_getR (j := 3) hX dX1_includeStep_9 fl_15 0 rfl rfl ?_
    refine z_iload_n hX dX1_includeStep_12 1 rfl ?_
    refine z_iaload (b := 6) hX dX1_includeStep_13 2 rfl (by decide) rfl hr (fun hr => ?_)
    refine z_bipush hX dX1_includeStep_14 (by decide +kernel) ?_
    refine z_icmp_lt (tgt := 21) hX dX1_includeStep_16 (by decide) rfl (wr_of (by decide) (by decide)) hr (fun hr => ?_) (fun hr => ?_)
    · refine z_iload_n hX dX1_includeStep_21 1 rfl ?_
      refine z_bipush hX dX1_includeStep_22 (by decide +kernel) ?_
      refine z_imul hX dX1_includeStep_24 ?_
      refine z_aload_n hX dX1_includeStep_25 0 rfl ?_
      refine z_getR (j := 3) hX dX1_includeStep_26 fl_15 0 rfl rfl ?_
      refine z_iload_n hX dX1_includeStep_29 1 rfl ?_
      refine z_iaload (b := 6) hX dX1_includeStep_30 2 rfl (by decide) rfl hr (fun hr => ?_)
      refine z_iadd hX dX1_includeStep_31 ?_
      refine z_istore (lv1 := [(5, .int (iI ((p1 * 8) + (h0 3 p1)))), (0, .ref (ad 1)), (1, .int (iI p1)), (2, .int (iI p2)), (3, .int (iI p3)), (4, .int (iI p4))]) hX dX1_includeStep_32 (by decide) rfl ?_
      refine z_aload_n hX dX1_includeStep_34 1 rfl ?_
      refine z_getR (j := 4) hX dX1_includeStep_35 fl_18 0 rfl rfl ?_
      refine z_iload hX dX1_includeStep_38 0 rfl ?_
      refine z_iload_n hX dX1_includeStep_40 3 rfl ?_
      refine z_iastore (b := 48) hX dX1_includeStep_41 3 rfl (by decide) rfl hr (fun hr => ?_)
      have hf : zfr [3, 4, 5, 6] h0 (hs h0 4 ((p1 * 8) + (h0 3 p1)) p2) := zfr_hs hf (by decide)
      refine z_aload_n hX dX1_includeStep_42 1 rfl ?_
      refine z_getR (j := 5) hX dX1_includeStep_43 fl_21 0 rfl rfl ?_
      refine z_iload hX dX1_includeStep_46 0 rfl ?_
      refine z_iload_n hX dX1_includeStep_48 4 rfl ?_
      refine z_iastore (b := 48) hX dX1_includeStep_49 4 rfl (by decide) rfl hr (fun hr => ?_)
      have hf : zfr [3, 4, 5, 6] h0 (hs (hs h0 4 ((p1 * 8) + (h0 3 p1)) p2) 5 ((p1 * 8) + (h0 3 p1)) p3) := zfr_hs hf (by decide)
      refine z_aload_n hX dX1_includeStep_50 1 rfl ?_
      refine z_getR (j := 6) hX dX1_includeStep_51 fl_24 0 rfl rfl ?_
      refine z_iload hX dX1_includeStep_54 0 rfl ?_
      refine z_iload hX dX1_includeStep_56 5 rfl ?_
      refine z_iastore (b := 48) hX dX1_includeStep_58 5 rfl (by decide) rfl hr (fun hr => ?_)
      have hf : zfr [3, 4, 5, 6] h0 (hs (hs (hs h0 4 ((p1 * 8) + (h0 3 p1)) p2) 5 ((p1 * 8) + (h0 3 p1)) p3) 6 ((p1 * 8) + (h0 3 p1)) p4) := zfr_hs hf (by decide)
      refine z_aload_n hX dX1_includeStep_59 1 rfl ?_
      refine z_getR (j := 3) hX dX1_includeStep_60 fl_15 0 rfl rfl ?_
      refine z_iload_n hX dX1_includeStep_63 2 rfl ?_
      refine z_dup2 hX dX1_includeStep_64 rfl rfl ?_
      refine z_iaload (b := 6) hX dX1_includeStep_65 2 rfl (by decide) rfl hr (fun hr => ?_)
      refine z_iconst hX dX1_includeStep_66 ?_
      refine z_iadd hX dX1_includeStep_67 ?_
      refine z_iastore (b := 6) hX dX1_includeStep_68 2 rfl (by decide) rfl hr (fun hr => ?_)
      have hf : zfr [3, 4, 5, 6] h0 (hs (hs (hs (hs h0 4 ((p1 * 8) + (h0 3 p1)) p2) 5 ((p1 * 8) + (h0 3 p1)) p3) 6 ((p1 * 8) + (h0 3 p1)) p4) 3 p1 ((((hs (hs (hs h0 4 ((p1 * 8) + (h0 3 p1)) p2) 5 ((p1 * 8) + (h0 3 p1)) p3) 6 ((p1 * 8) + (h0 3 p1)) p4)) 3 p1) + 1)) := zfr_hs hf (by decide)
      refine z_aload_n hX dX1_includeStep_69 1 rfl ?_
      refine z_getR (j := 3) hX dX1_includeStep_70 fl_15 0 rfl rfl ?_
      refine z_iload_n hX dX1_includeStep_73 2 rfl ?_
      refine z_iaload (b := 6) hX dX1_includeStep_74 2 rfl (by decide) rfl hr (fun hr => ?_)
      obtain rfl := Option.some.inj hr
      exact hQ _ _ dX1_includeStep_75 hf
    · refine z_iconst hX dX1_includeStep_19 ?_
      obtain rfl := Option.some.inj hr
      exact hQ _ _ dX1_includeStep_20 hf

