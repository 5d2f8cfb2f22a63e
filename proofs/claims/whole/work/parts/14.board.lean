def fX5_isSquare (p1 : Int) (h : HS) : Option (Int) := if wr p1 < 0 then some 0 else if (64 : Int) ≤ wr p1 then some 0 else some 1
set_option maxRecDepth 100000 in
set_option maxHeartbeats 4000000 in
theorem mX5_isSquare {G : ZG} {l0 : Launch} {ad : Nat → Nat} {h0 : HS} {p1 : Int} {o : Int} (hr : fX5_isSquare p1 h0 = some o) : ZMi G l0 yX5_isSquare wsX5_isSquare ({ frames := 0, cells := 0, slots := 0, locals := 0 }) [.int (iI p1)] [] ad h0 [] o h0 := by
  refine ZMi.ofZ (cc := cX5_isSquare) (maxL := 1) (ret := (some .boolean)) (own := RX5) (lv0 := [(0, .int (iI p1))]) (by decide) rfl rfl rfl (Nat.le_of_ble_eq_true rfl) rfl ?_
  intro X hX hQ
  have hf : zfr [] h0 h0 := zfr_rf
  unfold fX5_isSquare at hr
  refine z_iload_n hX dX5_isSquare_0 0 rfl ?_
  refine z_if_lt (tgt := 14) hX dX5_isSquare_1 (by decide) rfl hr (fun hr => ?_) (fun hr => ?_)
  · refine z_iconst hX dX5_isSquare_14 ?_
    obtain rfl := Option.some.inj hr
    exact hQ _ _ dX5_isSquare_15 hf (Or.inl rfl)
  · refine z_iload_n hX dX5_isSquare_4 0 rfl ?_
    refine z_bipush hX dX5_isSquare_5 (by decide +kernel) ?_
    refine z_icmp_ge (tgt := 14) hX dX5_isSquare_7 (by decide) rfl (wr_of (by decide) (by decide)) hr (fun hr => ?_) (fun hr => ?_)
    · refine z_iconst hX dX5_isSquare_14 ?_
      obtain rfl := Option.some.inj hr
      exact hQ _ _ dX5_isSquare_15 hf (Or.inl rfl)
    · refine z_iconst hX dX5_isSquare_10 ?_
      refine z_goto (tgt := 15) hX dX5_isSquare_11 (by decide) ?_
      obtain rfl := Option.some.inj hr
      exact hQ _ _ dX5_isSquare_15 hf (Or.inr rfl)

def fX0_pieceOn (p1 : Int) (h : HS) : Option (Int) := (fX5_isSquare p1 h).bind fun r1 => if wr r1 = 0 then some (-1) else if (0 : Int) ≤ p1 ∧ p1 < 64 then some (h 8 p1) else none
set_option maxRecDepth 100000 in
set_option maxHeartbeats 4000000 in
theorem mX0_pieceOn {G : ZG} {l0 : Launch} {ad : Nat → Nat} {h0 : HS} {p1 : Int} {o : Int} (hr : fX0_pieceOn p1 h0 = some o) : ZMi G l0 yX0_pieceOn wsX0_pieceOn ({ frames := 1, cells := 0, slots := 0, locals := 20 }) [.ref (ad 7), .int (iI p1)] sh_6 ad h0 [] o h0 := by
  refine ZMi.of (cc := cX0_pieceOn) (maxL := 2) (ret := (some .int)) (own := RX0) (lv0 := [(0, .ref (ad 7)), (1, .int (iI p1))]) (by decide) rfl rfl rfl (Nat.le_of_ble_eq_true rfl) rfl ?_
  intro X hX hQ
  have hf : zfr [] h0 h0 := zfr_rf
  have fl_9 : zFld wsX0_pieceOn RX0 9 0 RX0 TX0 2 1 := ⟨by decide +kernel, by decide +kernel, by decide, rfl⟩
  unfold fX0_pieceOn at hr
  refine z_iload_n hX dX0_pieceOn_0 1 rfl ?_
  obtain ⟨r1, hc1, hr⟩ := z_bind hr
  refine z_callSN_i (As := [.int (iI p1)]) (k1 := 0) (n1 := 0) (nA := 1) hX (mX5_isSquare hc1) dX0_pieceOn_1 gX0_pieceOn_X5_isSquare_n25 (fun _ hn => hn.2.2.2.2.2.2.2.2.1) (by decide +kernel) (by decide +kernel) rfl ⟨by decide, by decide, by decide +kernel⟩ ⟨by decide, by decide⟩ ⟨by decide, by decide⟩ rfl rfl (Nat.le_of_ble_eq_true rfl) (by decide +kernel) rfl rfl (fun hg1 => ?_)
  refine z_if_eq (tgt := 16) hX dX0_pieceOn_4 (by decide) rfl hr (fun hr => ?_) (fun hr => ?_)
  · refine z_iconst hX dX0_pieceOn_16 ?_
    obtain rfl := Option.some.inj hr
    exact hQ _ _ dX0_pieceOn_17 hf
  · refine z_aload_n hX dX0_pieceOn_7 0 rfl ?_
    refine z_getR (j := 8) hX dX0_pieceOn_8 fl_9 6 rfl rfl ?_
    refine z_iload_n hX dX0_pieceOn_11 1 rfl ?_
    refine z_iaload (b := 64) hX dX0_pieceOn_12 7 rfl (by decide) rfl hr (fun hr => ?_)
    refine z_goto (tgt := 17) hX dX0_pieceOn_13 (by decide) ?_
    obtain rfl := Option.some.inj hr
    exact hQ _ _ dX0_pieceOn_17 hf

def fX0_isTaken (p1 : Int) (h : HS) : Option (Int) := (fX0_pieceOn p1 h).bind fun r1 => if wr r1 = ((-1) : Int) then some 0 else some 1
set_option maxRecDepth 100000 in
set_option maxHeartbeats 4000000 in
theorem mX0_isTaken {G : ZG} {l0 : Launch} {ad : Nat → Nat} {h0 : HS} {p1 : Int} {o : Int} (hr : fX0_isTaken p1 h0 = some o) : ZMi G l0 yX0_isTaken wsX0_isTaken ({ frames := 2, cells := 0, slots := 0, locals := 41 }) [.ref (ad 7), .int (iI p1)] sh_6 ad h0 [] o h0 := by
  refine ZMi.ofZ (cc := cX0_isTaken) (maxL := 2) (ret := (some .boolean)) (own := RX0) (lv0 := [(0, .ref (ad 7)), (1, .int (iI p1))]) (by decide) rfl rfl rfl (Nat.le_of_ble_eq_true rfl) rfl ?_
  intro X hX hQ
  have hf : zfr [] h0 h0 := zfr_rf
  unfold fX0_isTaken at hr
  refine z_aload_n hX dX0_isTaken_0 0 rfl ?_
  refine z_iload_n hX dX0_isTaken_1 1 rfl ?_
  obtain ⟨r1, hc1, hr⟩ := z_bind hr
  refine z_callV_i (As := [.int (iI p1)]) (k1 := 0) (n1 := 0) (nA := 1) hX (mX0_pieceOn hc1) dX0_isTaken_2 gX0_isTaken_X0_pieceOn rfl ⟨rfl, by decide, by decide, by decide +kernel⟩ ⟨by decide, by decide⟩ ⟨by decide, by decide⟩ 6 rfl rfl rfl rfl (Nat.le_of_ble_eq_true rfl) (by decide +kernel) rfl rfl (fun hg1 => ?_)
  refine z_iconst hX dX0_isTaken_5 ?_
  refine z_icmp_eq (tgt := 13) hX dX0_isTaken_6 (by decide) rfl (wr_of (by decide) (by decide)) hr (fun hr => ?_) (fun hr => ?_)
  · refine z_iconst hX dX0_isTaken_13 ?_
    obtain rfl := Option.some.inj hr
    exact hQ _ _ dX0_isTaken_14 hf (Or.inl rfl)
  · refine z_iconst hX dX0_isTaken_9 ?_
    refine z_goto (tgt := 14) hX dX0_isTaken_10 (by decide) ?_
    obtain rfl := Option.some.inj hr
    exact hQ _ _ dX0_isTaken_14 hf (Or.inr rfl)

def fX0_isOf (p1 : Int) (p2 : Int) (h : HS) : Option (Int) := (fX0_isTaken p1 h).bind fun r1 => if wr r1 = 0 then some 0 else (fX0_pieceOn p1 h).bind fun r2 => if (0 : Int) ≤ r2 ∧ r2 < 2147483648 then if wr (r2 % 2) = wr p2 then some 1 else some 0 else none
set_option maxRecDepth 100000 in
set_option maxHeartbeats 4000000 in
theorem mX0_isOf {G : ZG} {l0 : Launch} {ad : Nat → Nat} {h0 : HS} {p1 : Int} {p2 : Int} {o : Int} (hr : fX0_isOf p1 p2 h0 = some o) : ZMi G l0 yX0_isOf wsX0_isOf ({ frames := 3, cells := 0, slots := 0, locals := 62 }) [.ref (ad 7), .int (iI p1), .int (iI p2)] sh_6 ad h0 [] o h0 := by
  refine ZMi.ofZ (cc := cX0_isOf) (maxL := 3) (ret := (some .boolean)) (own := RX0) (lv0 := [(0, .ref (ad 7)), (1, .int (iI p1)), (2, .int (iI p2))]) (by decide) rfl rfl rfl (Nat.le_of_ble_eq_true rfl) rfl ?_
  intro X hX hQ
  have hf : zfr [] h0 h0 := zfr_rf
  unfold fX0_isOf at hr
  refine z_aload_n hX dX0_isOf_0 0 rfl ?_
  refine z_iload_n hX dX0_isOf_1 1 rfl ?_
  obtain ⟨r1, hc1, hr⟩ := z_bind hr
  refine z_callV_i (As := [.int (iI p1)]) (k1 := 0) (n1 := 0) (nA := 1) hX (mX0_isTaken hc1) dX0_isOf_2 gX0_isOf_X0_isTaken rfl ⟨rfl, by decide, by decide, by decide +kernel⟩ ⟨by decide, by decide⟩ ⟨by decide, by decide⟩ 6 rfl rfl rfl rfl (Nat.le_of_ble_eq_true rfl) (by decide +kernel) rfl rfl (fun hg1 => ?_)
  refine z_if_eq (tgt := 23) hX dX0_isOf_5 (by decide) rfl hr (fun hr => ?_) (fun hr => ?_)
  · refine z_iconst hX dX0_isOf_23 ?_
    obtain rfl := Option.some.inj hr
    exact hQ _ _ dX0_isOf_24 hf (Or.inl rfl)
  · refine z_aload_n hX dX0_isOf_8 0 rfl ?_
    refine z_iload_n hX dX0_isOf_9 1 rfl ?_
    obtain ⟨r2, hc2, hr⟩ := z_bind hr
    refine z_callV_i (As := [.int (iI p1)]) (k1 := 0) (n1 := 0) (nA := 1) hX (mX0_pieceOn hc2) dX0_isOf_10 gX0_isOf_X0_pieceOn rfl ⟨rfl, by decide, by decide, by decide +kernel⟩ ⟨by decide, by decide⟩ ⟨by decide, by decide⟩ 6 rfl rfl rfl rfl (Nat.le_of_ble_eq_true rfl) (by decide +kernel) rfl rfl (fun hg2 => ?_)
    refine z_iconst hX dX0_isOf_13 ?_
    refine z_irem hX dX0_isOf_14 (by decide) hr (fun hr => ?_)
    refine z_iload_n hX dX0_isOf_15 2 rfl ?_
    refine z_icmp_ne (tgt := 23) hX dX0_isOf_16 (by decide) rfl rfl hr (fun hr => ?_) (fun hr => ?_)
    · refine z_iconst hX dX0_isOf_23 ?_
      obtain rfl := Option.some.inj hr
      exact hQ _ _ dX0_isOf_24 hf (Or.inl rfl)
    · refine z_iconst hX dX0_isOf_19 ?_
      refine z_goto (tgt := 24) hX dX0_isOf_20 (by decide) ?_
      obtain rfl := Option.some.inj hr
      exact hQ _ _ dX0_isOf_24 hf (Or.inr rfl)

def fX0_replace (p1 : Int) (p2 : Int) (h : HS) : Option (Int × HS) := (fX5_isSquare p1 h).bind fun r1 => if wr r1 = 0 then some ((-1), h) else if (0 : Int) ≤ p1 ∧ p1 < 64 then if (0 : Int) ≤ p1 ∧ p1 < 64 then some ((h 8 p1), (hs h 8 p1 p2)) else none else none
set_option maxRecDepth 100000 in
set_option maxHeartbeats 4000000 in
theorem mX0_replace {G : ZG} {l0 : Launch} {ad : Nat → Nat} {h0 : HS} {p1 : Int} {p2 : Int} {o : Int × HS} (hr : fX0_replace p1 p2 h0 = some o) : ZMi G l0 yX0_replace wsX0_replace ({ frames := 1, cells := 0, slots := 0, locals := 20 }) [.ref (ad 7), .int (iI p1), .int (iI p2)] sh_6 ad h0 [8] o.1 o.2 := by
  refine ZMi.of (cc := cX0_replace) (maxL := 4) (ret := (some .int)) (own := RX0) (lv0 := [(0, .ref (ad 7)), (1, .int (iI p1)), (2, .int (iI p2))]) (by decide) rfl rfl rfl (Nat.le_of_ble_eq_true rfl) rfl ?_
  intro X hX hQ
  have hf : zfr [8] h0 h0 := zfr_rf
  have fl_9 : zFld wsX0_replace RX0 9 0 RX0 TX0 2 1 := ⟨by decide +kernel, by decide +kernel, by decide, rfl⟩
  unfold fX0_replace at hr
  refine z_iload_n hX dX0_replace_0 1 rfl ?_
  obtain ⟨r1, hc1, hr⟩ := z_bind hr
  refine z_callSN_i (As := [.int (iI p1)]) (k1 := 0) (n1 := 0) (nA := 1) hX (mX5_isSquare hc1) dX0_replace_1 gX0_replace_X5_isSquare_n25 (fun _ hn => hn.2.2.2.2.2.2.2.2.1) (by decide +kernel) (by decide +kernel) rfl ⟨by decide, by decide, by decide +kernel⟩ ⟨by decide, by decide⟩ ⟨by decide, by decide⟩ rfl rfl (Nat.le_of_ble_eq_true rfl) (by decide +kernel) rfl rfl (fun hg1 => ?_)
  refine z_if_ne (tgt := 9) hX dX0_replace_4 (by decide) rfl hr (fun hr => ?_) (fun hr => ?_)
  · refine z_aload_n hX dX0_replace_9 0 rfl ?_
    refine z_getR (j := 8) hX dX0_replace_10 fl_9 6 rfl rfl ?_
    refine z_iload_n hX dX0_replace_13 1 rfl ?_
    refine z_iaload (b := 64) hX dX0_replace_14 7 rfl (by decide) rfl hr (fun hr => ?_)
    refine z_istore_n (lv1 := [(3, .int (iI (h0 8 p1))), (0, .ref (ad 7)), (1, .int (iI p1)), (2, .int (iI p2))]) hX dX0_replace_15 (by decide) rfl ?_
    refine z_aload_n hX dX0_replace_16 1 rfl ?_
    refine z_getR (j := 8) hX dX0_replace_17 fl_9 6 rfl rfl ?_
    refine z_iload_n hX dX0_replace_20 2 rfl ?_
    refine z_iload_n hX dX0_replace_21 3 rfl ?_
    refine z_iastore (b := 64) hX dX0_replace_22 7 rfl (by decide) rfl hr (fun hr => ?_)
    have hf : zfr [8] h0 (hs h0 8 p1 p2) := zfr_hs hf (by decide)
    refine z_iload_n hX dX0_replace_23 0 rfl ?_
    obtain rfl := Option.some.inj hr
    exact hQ _ _ dX0_replace_24 hf
  · refine z_iconst hX dX0_replace_7 ?_
    obtain rfl := Option.some.inj hr
    exact hQ _ _ dX0_replace_8 hf

def fX0_move (p1 : Int) (p2 : Int) (h : HS) : Option (Int × HS) := (fX5_isSquare p1 h).bind fun r1 => if wr r1 = 0 then some ((-1), h) else (fX5_isSquare p2 h).bind fun r2 => if wr r2 = 0 then some ((-1), h) else if (0 : Int) ≤ p2 ∧ p2 < 64 then if (0 : Int) ≤ p1 ∧ p1 < 64 then if (0 : Int) ≤ p2 ∧ p2 < 64 then if (0 : Int) ≤ p1 ∧ p1 < 64 then some ((h 8 p2), (hs (hs h 8 p2 (h 8 p1)) 8 p1 (-1))) else none else none else none else none
set_option maxRecDepth 100000 in
set_option maxHeartbeats 4000000 in
theorem mX0_move {G : ZG} {l0 : Launch} {ad : Nat → Nat} {h0 : HS} {p1 : Int} {p2 : Int} {o : Int × HS} (hr : fX0_move p1 p2 h0 = some o) : ZMi G l0 yX0_move wsX0_move ({ frames := 1, cells := 0, slots := 0, locals := 20 }) [.ref (ad 7), .int (iI p1), .int (iI p2)] sh_6 ad h0 [8] o.1 o.2 := by
  refine ZMi.of (cc := cX0_move) (maxL := 4) (ret := (some .int)) (own := RX0) (lv0 := [(0, .ref (ad 7)), (1, .int (iI p1)), (2, .int (iI p2))]) (by decide) rfl rfl rfl (Nat.le_of_ble_eq_true rfl) rfl ?_
  intro X hX hQ
  have hf : zfr [8] h0 h0 := zfr_rf
  have fl_9 : zFld wsX0_move RX0 9 0 RX0 TX0 2 1 := ⟨by decide +kernel, by decide +kernel, by decide, rfl⟩
  unfold fX0_move at hr
  refine z_iload_n hX dX0_move_0 1 rfl ?_
  obtain ⟨r1, hc1, hr⟩ := z_bind hr
  refine z_callSN_i (As := [.int (iI p1)]) (k1 := 0) (n1 := 0) (nA := 1) hX (mX5_isSquare hc1) dX0_move_1 gX0_move_X5_isSquare_n25 (fun _ hn => hn.2.2.2.2.2.2.2.2.1) (by decide +kernel) (by decide +kernel) rfl ⟨by decide, by decide, by decide +kernel⟩ ⟨by decide, by decide⟩ ⟨by decide, by decide⟩ rfl rfl (Nat.le_of_ble_eq_true rfl) (by decide +kernel) rfl rfl (fun hg1 => ?_)
  refine z_if_eq (tgt := 14) hX dX0_move_4 (by decide) rfl hr (fun hr => ?_) (fun hr => ?_)
  · refine z_iconst hX dX0_move_14 ?_
    obtain rfl := Option.some.inj hr
    exact hQ _ _ dX0_move_15 hf
  · refine z_iload_n hX dX0_move_7 2 rfl ?_
    obtain ⟨r2, hc2, hr⟩ := z_bind hr
    refine z_callSN_i (As := [.int (iI p2)]) (k1 := 0) (n1 := 0) (nA := 1) hX (mX5_isSquare hc2) dX0_move_8 gX0_move_X5_isSquare_n25 (fun _ hn => hn.2.2.2.2.2.2.2.2.1) (by decide +kernel) (by decide +kernel) rfl ⟨by decide, by decide, by decide +kernel⟩ ⟨by decide, by decide⟩ ⟨by decide, by decide⟩ rfl rfl (Nat.le_of_ble_eq_true rfl) (by decide +kernel) rfl rfl (fun hg2 => ?_)
    refine z_if_ne (tgt := 16) hX dX0_move_11 (by decide) rfl hr (fun hr => ?_) (fun hr => ?_)
    · refine z_aload_n hX dX0_move_16 0 rfl ?_
      refine z_getR (j := 8) hX dX0_move_17 fl_9 6 rfl rfl ?_
      refine z_iload_n hX dX0_move_20 2 rfl ?_
      refine z_iaload (b := 64) hX dX0_move_21 7 rfl (by decide) rfl hr (fun hr => ?_)
      refine z_istore_n (lv1 := [(3, .int (iI (h0 8 p2))), (0, .ref (ad 7)), (1, .int (iI p1)), (2, .int (iI p2))]) hX dX0_move_22 (by decide) rfl ?_
      refine z_aload_n hX dX0_move_23 1 rfl ?_
      refine z_getR (j := 8) hX dX0_move_24 fl_9 6 rfl rfl ?_
      refine z_iload_n hX dX0_move_27 3 rfl ?_
      refine z_aload_n hX dX0_move_28 1 rfl ?_
      refine z_getR (j := 8) hX dX0_move_29 fl_9 6 rfl rfl ?_
      refine z_iload_n hX dX0_move_32 2 rfl ?_
      refine z_iaload (b := 64) hX dX0_move_33 7 rfl (by decide) rfl hr (fun hr => ?_)
      refine z_iastore (b := 64) hX dX0_move_34 7 rfl (by decide) rfl hr (fun hr => ?_)
      have hf : zfr [8] h0 (hs h0 8 p2 (h0 8 p1)) := zfr_hs hf (by decide)
      refine z_aload_n hX dX0_move_35 1 rfl ?_
      refine z_getR (j := 8) hX dX0_move_36 fl_9 6 rfl rfl ?_
      refine z_iload_n hX dX0_move_39 2 rfl ?_
      refine z_iconst hX dX0_move_40 ?_
      refine z_iastore (b := 64) hX dX0_move_41 7 rfl (by decide) rfl hr (fun hr => ?_)
      have hf : zfr [8] h0 (hs (hs h0 8 p2 (h0 8 p1)) 8 p1 (-1)) := zfr_hs hf (by decide)
      refine z_iload_n hX dX0_move_42 0 rfl ?_
      obtain rfl := Option.some.inj hr
      exact hQ _ _ dX0_move_43 hf
    · refine z_iconst hX dX0_move_14 ?_
      obtain rfl := Option.some.inj hr
      exact hQ _ _ dX0_move_15 hf

def fX0_takeBack (p1 : Int) (p2 : Int) (p3 : Int) (h : HS) : Option (HS) := (fX5_isSquare p1 h).bind fun r1 => if wr r1 = 0 then some h else (fX5_isSquare p2 h).bind fun r2 => if wr r2 = 0 then some h else if (0 : Int) ≤ p2 ∧ p2 < 64 then if (0 : Int) ≤ p1 ∧ p1 < 64 then if (0 : Int) ≤ p2 ∧ p2 < 64 then some (hs (hs h 8 p1 (h 8 p2)) 8 p2 p3) else none else none else none
set_option maxRecDepth 100000 in
set_option maxHeartbeats 4000000 in
theorem mX0_takeBack {G : ZG} {l0 : Launch} {ad : Nat → Nat} {h0 : HS} {p1 : Int} {p2 : Int} {p3 : Int} {o : HS} (hr : fX0_takeBack p1 p2 p3 h0 = some o) : ZMv G l0 yX0_takeBack wsX0_takeBack ({ frames := 1, cells := 0, slots := 0, locals := 20 }) [.ref (ad 7), .int (iI p1), .int (iI p2), .int (iI p3)] sh_6 ad h0 [8] o := by
  refine ZMv.of (cc := cX0_takeBack) (maxL := 4) (ret := none) (own := RX0) (lv0 := [(0, .ref (ad 7)), (1, .int (iI p1)), (2, .int (iI p2)), (3, .int (iI p3))]) (by decide) rfl rfl rfl (Nat.le_of_ble_eq_true rfl) rfl ?_
  intro X hX hQ
  have hf : zfr [8] h0 h0 := zfr_rf
  have fl_9 : zFld wsX0_takeBack RX0 9 0 RX0 TX0 2 1 := ⟨by decide +kernel, by decide +kernel, by decide, rfl⟩
  unfold fX0_takeBack at hr
  refine z_iload_n hX dX0_takeBack_0 1 rfl ?_
  obtain ⟨r1, hc1, hr⟩ := z_bind hr
  refine z_callSN_i (As := [.int (iI p1)]) (k1 := 0) (n1 := 0) (nA := 1) hX (mX5_isSquare hc1) dX0_takeBack_1 gX0_takeBack_X5_isSquare_n25 (fun _ hn => hn.2.2.2.2.2.2.2.2.1) (by decide +kernel) (by decide +kernel) rfl ⟨by decide, by decide, by decide +kernel⟩ ⟨by decide, by decide⟩ ⟨by decide, by decide⟩ rfl rfl (Nat.le_of_ble_eq_true rfl) (by decide +kernel) rfl rfl (fun hg1 => ?_)
  refine z_if_eq (tgt := 33) hX dX0_takeBack_4 (by decide) rfl hr (fun hr => ?_) (fun hr => ?_)
  · obtain rfl := Option.some.inj hr
    exact hQ _ _ dX0_takeBack_33 hf
  · refine z_iload_n hX dX0_takeBack_7 2 rfl ?_
    obtain ⟨r2, hc2, hr⟩ := z_bind hr
    refine z_callSN_i (As := [.int (iI p2)]) (k1 := 0) (n1 := 0) (nA := 1) hX (mX5_isSquare hc2) dX0_takeBack_8 gX0_takeBack_X5_isSquare_n25 (fun _ hn => hn.2.2.2.2.2.2.2.2.1) (by decide +kernel) (by decide +kernel) rfl ⟨by decide, by decide, by decide +kernel⟩ ⟨by decide, by decide⟩ ⟨by decide, by decide⟩ rfl rfl (Nat.le_of_ble_eq_true rfl) (by decide +kernel) rfl rfl (fun hg2 => ?_)
    refine z_if_eq (tgt := 33) hX dX0_takeBack_11 (by decide) rfl hr (fun hr => ?_) (fun hr => ?_)
    · obtain rfl := Option.some.inj hr
      exact hQ _ _ dX0_takeBack_33 hf
    · refine z_aload_n hX dX0_takeBack_14 0 rfl ?_
      refine z_getR (j := 8) hX dX0_takeBack_15 fl_9 6 rfl rfl ?_
      refine z_iload_n hX dX0_takeBack_18 1 rfl ?_
      refine z_aload_n hX dX0_takeBack_19 0 rfl ?_
      refine z_getR (j := 8) hX dX0_takeBack_20 fl_9 6 rfl rfl ?_
      refine z_iload_n hX dX0_takeBack_23 2 rfl ?_
      refine z_iaload (b := 64) hX dX0_takeBack_24 7 rfl (by decide) rfl hr (fun hr => ?_)
      refine z_iastore (b := 64) hX dX0_takeBack_25 7 rfl (by decide) rfl hr (fun hr => ?_)
      have hf : zfr [8] h0 (hs h0 8 p1 (h0 8 p2)) := zfr_hs hf (by decide)
      refine z_aload_n hX dX0_takeBack_26 0 rfl ?_
      refine z_getR (j := 8) hX dX0_takeBack_27 fl_9 6 rfl rfl ?_
      refine z_iload_n hX dX0_takeBack_30 2 rfl ?_
      refine z_iload_n hX dX0_takeBack_31 3 rfl ?_
      refine z_iastore (b := 64) hX dX0_takeBack_32 7 rfl (by decide) rfl hr (fun hr => ?_)
      have hf : zfr [8] h0 (hs (hs h0 8 p1 (h0 8 p2)) 8 p2 p3) := zfr_hs hf (by decide)
      obtain rfl := Option.some.inj hr
      exact hQ _ _ dX0_takeBack_33 hf

def fX0_reachedFrom_b10 (h : HS) : Option (Int64) := some (Int64.ofNat 0)
def fX0_reachedFrom_b36 (h : HS) : Option (Int64) := some (Int64.ofNat 0)
def fX0_reachedFrom_b256 (k73 : Int → Int → Int → Int64 → Int → HS → Option (Int64)) (x1 : Int) (x3 : Int) (x5 : Int) (x6 : Int64) (x8 : Int) (h : HS) : Option (Int64) := k73 x1 x3 x5 x6 (x8 + 1) h
def fX0_reachedFrom_b237 (k73 : Int → Int → Int → Int64 → Int → HS → Option (Int64)) (k152 : Int → Int → Int → Int64 → Int → Int → Int → Int → Int → Int → HS → Option (Int64)) (x1 : Int) (x3 : Int) (x5 : Int) (x6 : Int64) (x8 : Int) (x9 : Int) (x10 : Int) (x11 : Int) (x12 : Int) (s0 : Int) (h : HS) : Option (Int64) := k152 x1 x3 x5 x6 x8 x9 x10 (x11 + x9) (x12 + x10) s0 h
def fX0_reachedFrom_b223 (k73 : Int → Int → Int → Int64 → Int → HS → Option (Int64)) (k152 : Int → Int → Int → Int64 → Int → Int → Int → Int → Int → Int → HS → Option (Int64)) (x1 : Int) (x3 : Int) (x5 : Int) (x6 : Int64) (x8 : Int) (x9 : Int) (x10 : Int) (x11 : Int) (x12 : Int) (x13 : Int) (x15 : Int) (h : HS) : Option (Int64) := if wr x15 = ((-1) : Int) then fX0_reachedFrom_b237 k73 k152 x1 x3 x5 x6 x8 x9 x10 x11 x12 (x13 - 1) h else fX0_reachedFrom_b237 k73 k152 x1 x3 x5 x6 x8 x9 x10 x11 x12 0 h
def fX0_reachedFrom_b214 (k73 : Int → Int → Int → Int64 → Int → HS → Option (Int64)) (k152 : Int → Int → Int → Int64 → Int → Int → Int → Int → Int → Int → HS → Option (Int64)) (x1 : Int) (x3 : Int) (x5 : Int) (x6 : Int64) (x8 : Int) (x9 : Int) (x10 : Int) (x11 : Int) (x12 : Int) (x13 : Int) (x14 : Int) (x15 : Int) (h : HS) : Option (Int64) := fX0_reachedFrom_b223 k73 k152 x1 x3 x5 (x6 ||| (zshl (Int64.ofNat 1) x14)) x8 x9 x10 x11 x12 x13 x15 h
def fX0_reachedFrom_L152 (k73 : Int → Int → Int → Int64 → Int → HS → Option (Int64)) : Nat → Int → Int → Int → Int64 → Int → Int → Int → Int → Int → Int → HS → Option (Int64)
  | 0, _, _, _, _, _, _, _, _, _, _, _ => none
  | nf + 1, x1, x3, x5, x6, x8, x9, x10, x11, x12, x13, h => if wr x13 ≤ 0 then fX0_reachedFrom_b256 k73 x1 x3 x5 x6 x8 h else if wr x11 < 0 then fX0_reachedFrom_b256 k73 x1 x3 x5 x6 x8 h else if (8 : Int) ≤ wr x11 then fX0_reachedFrom_b256 k73 x1 x3 x5 x6 x8 h else if wr x12 < 0 then fX0_reachedFrom_b256 k73 x1 x3 x5 x6 x8 h else if (8 : Int) ≤ wr x12 then fX0_reachedFrom_b256 k73 x1 x3 x5 x6 x8 h else if (0 : Int) ≤ ((x12 * 8) + x11) ∧ ((x12 * 8) + x11) < 64 then if wr (h 8 ((x12 * 8) + x11)) = ((-1) : Int) then fX0_reachedFrom_b214 k73 (fun a0 a1 a2 a3 a4 a5 a6 a7 a8 a9 hh => fX0_reachedFrom_L152 k73 nf a0 a1 a2 a3 a4 a5 a6 a7 a8 a9 hh) x1 x3 x5 x6 x8 x9 x10 x11 x12 x13 ((x12 * 8) + x11) (h 8 ((x12 * 8) + x11)) h else if (0 : Int) ≤ (h 8 ((x12 * 8) + x11)) ∧ (h 8 ((x12 * 8) + x11)) < 2147483648 then if wr ((h 8 ((x12 * 8) + x11)) % 2) = wr x3 then fX0_reachedFrom_b223 k73 (fun a0 a1 a2 a3 a4 a5 a6 a7 a8 a9 hh => fX0_reachedFrom_L152 k73 nf a0 a1 a2 a3 a4 a5 a6 a7 a8 a9 hh) x1 x3 x5 x6 x8 x9 x10 x11 x12 x13 (h 8 ((x12 * 8) + x11)) h else fX0_reachedFrom_b214 k73 (fun a0 a1 a2 a3 a4 a5 a6 a7 a8 a9 hh => fX0_reachedFrom_L152 k73 nf a0 a1 a2 a3 a4 a5 a6 a7 a8 a9 hh) x1 x3 x5 x6 x8 x9 x10 x11 x12 x13 ((x12 * 8) + x11) (h 8 ((x12 * 8) + x11)) h else none else none
def fX0_reachedFrom_b120 (k73 : Int → Int → Int → Int64 → Int → HS → Option (Int64)) (x1 : Int) (x3 : Int) (x5 : Int) (x6 : Int64) (x8 : Int) (x9 : Int) (s0 : Int) (h : HS) : Option (Int64) := if (0 : Int) ≤ x1 ∧ x1 < 2147483648 then if (0 : Int) ≤ x1 ∧ x1 < 2147483648 then if (0 : Int) ≤ x8 ∧ x8 < 48 then fX0_reachedFrom_L152 k73 zF x1 x3 x5 x6 x8 x9 s0 ((x1 % 8) + x9) ((x1 / 8) + s0) (h 6 x8) h else none else none else none
def fX0_reachedFrom_L73 : Nat → Int → Int → Int → Int64 → Int → HS → Option (Int64)
  | 0, _, _, _, _, _, _ => none
  | nf + 1, x1, x3, x5, x6, x8, h => if wr x5 ≤ wr x8 then some x6 else if (0 : Int) ≤ x8 ∧ x8 < 48 then if wr x3 = 0 then if (0 : Int) ≤ x8 ∧ x8 < 48 then fX0_reachedFrom_b120 (fun a0 a1 a2 a3 a4 hh => fX0_reachedFrom_L73 nf a0 a1 a2 a3 a4 hh) x1 x3 x5 x6 x8 (h 4 x8) (h 5 x8) h else none else if (0 : Int) ≤ x8 ∧ x8 < 48 then fX0_reachedFrom_b120 (fun a0 a1 a2 a3 a4 hh => fX0_reachedFrom_L73 nf a0 a1 a2 a3 a4 hh) x1 x3 x5 x6 x8 (h 4 x8) (-(h 5 x8)) h else none else none
def fX0_reachedFrom (p1 : Int) (h : HS) : Option (Int64) := if wr p1 < 0 then fX0_reachedFrom_b10 h else if wr p1 < (64 : Int) then if (0 : Int) ≤ p1 ∧ p1 < 64 then if wr (h 8 p1) < 0 then fX0_reachedFrom_b36 h else if (0 : Int) ≤ (h 8 p1) ∧ (h 8 p1) < 2147483648 then if wr ((h 8 p1) / 2) < wr (h 1 5) then if (0 : Int) ≤ (h 8 p1) ∧ (h 8 p1) < 2147483648 then if (0 : Int) ≤ (h 8 p1) ∧ (h 8 p1) < 2147483648 then if (0 : Int) ≤ (h 8 p1) ∧ (h 8 p1) < 2147483648 then if (0 : Int) ≤ ((h 8 p1) / 2) ∧ ((h 8 p1) / 2) < 6 then fX0_reachedFrom_L73 zF p1 ((h 8 p1) % 2) ((((h 8 p1) / 2) * 8) + (h 3 ((h 8 p1) / 2))) (Int64.ofNat 0) (((h 8 p1) / 2) * 8) h else none else none else none else none else fX0_reachedFrom_b36 h else none else none else fX0_reachedFrom_b10 h
set_option maxRecDepth 100000 in
set_option maxHeartbeats 4000000 in
theorem mX0_reachedFrom {G : ZG} {l0 : Launch} {ad : Nat → Nat} {h0 : HS} {p1 : Int} {o : Int64} (hr : fX0_reachedFrom p1 h0 = some o) : ZMl G l0 yX0_reachedFrom wsX0_reachedFrom ({ frames := 0, cells := 0, slots := 0, locals := 0 }) [.ref (ad 7), .int (iI p1)] sh_6 ad h0 [] o h0 := by
  refine ZMl.of (cc := cX0_reachedFrom) (maxL := 16) (ret := (some .long)) (own := RX0) (lv0 := [(0, .ref (ad 7)), (1, .int (iI p1))]) (by decide) rfl rfl rfl (Nat.le_of_ble_eq_true rfl) rfl ?_
  intro X hX hQ
  have hf : zfr [] h0 h0 := zfr_rf
  have fl_15 : zFld wsX0_reachedFrom RX0 15 0 RX0 TX0 2 0 := ⟨by decide +kernel, by decide +kernel, by decide, rfl⟩
  have flN_40 : zFldN wsX0_reachedFrom RX0 40 1 RX1 TX1 6 5 RX5 := ⟨by decide +kernel, fun _ hn => hn.1, by decide, rfl⟩
  have flN_46 : zFldN wsX0_reachedFrom RX0 46 1 RX1 TX1 6 1 RX5 := ⟨by decide +kernel, fun _ hn => hn.2.1, by decide, rfl⟩
  have flN_49 : zFldN wsX0_reachedFrom RX0 49 1 RX1 TX1 6 2 RX5 := ⟨by decide +kernel, fun _ hn => hn.2.2.1, by decide, rfl⟩
  have flN_52 : zFldN wsX0_reachedFrom RX0 52 1 RX1 TX1 6 3 RX5 := ⟨by decide +kernel, fun _ hn => hn.2.2.2.1, by decide, rfl⟩
  have flN_55 : zFldN wsX0_reachedFrom RX0 55 1 RX1 TX1 6 4 RX5 := ⟨by decide +kernel, fun _ hn => hn.2.2.2.2.1, by decide, rfl⟩
  have fl_9 : zFld wsX0_reachedFrom RX0 9 0 RX0 TX0 2 1 := ⟨by decide +kernel, by decide +kernel, by decide, rfl⟩
  have B10 : fX0_reachedFrom_b10 h0 = some o → ZW G X sh_6 ad h0 0 0 [] 10 [] := by
    intro hr
    unfold fX0_reachedFrom_b10 at hr
    refine z_lconst hX dX0_reachedFrom_10 ?_
    obtain rfl := Option.some.inj hr
    exact hQ _ _ dX0_reachedFrom_11 hf
  have B36 : fX0_reachedFrom_b36 h0 = some o → ZW G X sh_6 ad h0 0 0 [] 36 [] := by
    intro hr
    unfold fX0_reachedFrom_b36 at hr
    refine z_lconst hX dX0_reachedFrom_36 ?_
    obtain rfl := Option.some.inj hr
    exact hQ _ _ dX0_reachedFrom_37 hf
  have B73 : ∀ (nf : Nat) (x1 : Int) (x3 : Int) (x5 : Int) (x6 : Int64) (x8 : Int), fX0_reachedFrom_L73 nf x1 x3 x5 x6 x8 h0 = some o → ZW G X sh_6 ad h0 0 0 [(0, .ref (ad 7)), (1, .int (iI x1)), (3, .int (iI x3)), (5, .int (iI x5)), (6, .long x6), (8, .int (iI x8))] 73 [] := by
    intro nf
    induction nf with
    | zero => intro x1 x3 x5 x6 x8 hr; exact z_none hr
    | succ n73 ih73 =>
      intro x1 x3 x5 x6 x8 hr
      have B256 : ∀ (x1 : Int) (x3 : Int) (x5 : Int) (x6 : Int64) (x8 : Int), fX0_reachedFrom_b256 (fun a0 a1 a2 a3 a4 hh => fX0_reachedFrom_L73 n73 a0 a1 a2 a3 a4 hh) x1 x3 x5 x6 x8 h0 = some o → ZW G X sh_6 ad h0 0 0 [(0, .ref (ad 7)), (1, .int (iI x1)), (3, .int (iI x3)), (5, .int (iI x5)), (6, .long x6), (8, .int (iI x8))] 256 [] := by
        intro x1 x3 x5 x6 x8 hr
        unfold fX0_reachedFrom_b256 at hr
        refine z_iinc (lv1 := [(8, .int (iI (x8 + 1))), (0, .ref (ad 7)), (1, .int (iI x1)), (3, .int (iI x3)), (5, .int (iI x5)), (6, .long x6)]) hX dX0_reachedFrom_256 5 rfl (by decide) rfl ?_
        refine z_goto (tgt := 73) hX dX0_reachedFrom_259 (by decide) ?_
        refine z_lv [1, 2, 3, 4, 5, 0] rfl ?_
        exact ih73 x1 x3 x5 x6 (x8 + 1) hr
      have B152 : ∀ (nf : Nat) (x1 : Int) (x3 : Int) (x5 : Int) (x6 : Int64) (x8 : Int) (x9 : Int) (x10 : Int) (x11 : Int) (x12 : Int) (x13 : Int), fX0_reachedFrom_L152 (fun a0 a1 a2 a3 a4 hh => fX0_reachedFrom_L73 n73 a0 a1 a2 a3 a4 hh) nf x1 x3 x5 x6 x8 x9 x10 x11 x12 x13 h0 = some o → ZW G X sh_6 ad h0 0 0 [(0, .ref (ad 7)), (1, .int (iI x1)), (3, .int (iI x3)), (5, .int (iI x5)), (6, .long x6), (8, .int (iI x8)), (9, .int (iI x9)), (10, .int (iI x10)), (11, .int (iI x11)), (12, .int (iI x12)), (13, .int (iI x13))] 152 [] := by
        intro nf
        induction nf with
        | zero => intro x1 x3 x5 x6 x8 x9 x10 x11 x12 x13 hr; exact z_none hr
        | succ n152 ih152 =>
          intro x1 x3 x5 x6 x8 x9 x10 x11 x12 x13 hr
          have B237 : ∀ (x1 : Int) (x3 : Int) (x5 : Int) (x6 : Int64) (x8 : Int) (x9 : Int) (x10 : Int) (x11 : Int) (x12 : Int) (s0 : Int), fX0_reachedFrom_b237 (fun a0 a1 a2 a3 a4 hh => fX0_reachedFrom_L73 n73 a0 a1 a2 a3 a4 hh) (fun a0 a1 a2 a3 a4 a5 a6 a7 a8 a9 hh => fX0_reachedFrom_L152 (fun a0 a1 a2 a3 a4 hh => fX0_reachedFrom_L73 n73 a0 a1 a2 a3 a4 hh) n152 a0 a1 a2 a3 a4 a5 a6 a7 a8 a9 hh) x1 x3 x5 x6 x8 x9 x10 x11 x12 s0 h0 = some o → ZW G X sh_6 ad h0 0 0 [(0, .ref (ad 7)), (1, .int (iI x1)), (3, .int (iI x3)), (5, .int (iI x5)), (6, .long x6), (8, .int (iI x8)), (9, .int (iI x9)), (10, .int (iI x10)), (11, .int (iI x11)), (12, .int (iI x12))] 237 [.int (iI s0)] := by
            intro x1 x3 x5 x6 x8 x9 x10 x11 x12 s0 hr
            unfold fX0_reachedFrom_b237 at hr
            refine z_istore (lv1 := [(13, .int (iI s0)), (0, .ref (ad 7)), (1, .int (iI x1)), (3, .int (iI x3)), (5, .int (iI x5)), (6, .long x6), (8, .int (iI x8)), (9, .int (iI x9)), (10, .int (iI x10)), (11, .int (iI x11)), (12, .int (iI x12))]) hX dX0_reachedFrom_237 (by decide) rfl ?_
            refine z_iload hX dX0_reachedFrom_239 9 rfl ?_
            refine z_iload hX dX0_reachedFrom_241 7 rfl ?_
            refine z_iadd hX dX0_reachedFrom_243 ?_
            refine z_istore (lv1 := [(11, .int (iI (x11 + x9))), (13, .int (iI s0)), (0, .ref (ad 7)), (1, .int (iI x1)), (3, .int (iI x3)), (5, .int (iI x5)), (6, .long x6), (8, .int (iI x8)), (9, .int (iI x9)), (10, .int (iI x10)), (12, .int (iI x12))]) hX dX0_reachedFrom_244 (by decide) rfl ?_
            refine z_iload hX dX0_reachedFrom_246 10 rfl ?_
            refine z_iload hX dX0_reachedFrom_248 9 rfl ?_
            refine z_iadd hX dX0_reachedFrom_250 ?_
            refine z_istore (lv1 := [(12, .int (iI (x12 + x10))), (11, .int (iI (x11 + x9))), (13, .int (iI s0)), (0, .ref (ad 7)), (1, .int (iI x1)), (3, .int (iI x3)), (5, .int (iI x5)), (6, .long x6), (8, .int (iI x8)), (9, .int (iI x9)), (10, .int (iI x10))]) hX dX0_reachedFrom_251 (by decide) rfl ?_
            refine z_goto (tgt := 152) hX dX0_reachedFrom_253 (by decide) ?_
            refine z_lv [3, 4, 5, 6, 7, 8, 9, 10, 1, 0, 2] rfl ?_
            exact ih152 x1 x3 x5 x6 x8 x9 x10 (x11 + x9) (x12 + x10) s0 hr
          have B223 : ∀ (x1 : Int) (x3 : Int) (x5 : Int) (x6 : Int64) (x8 : Int) (x9 : Int) (x10 : Int) (x11 : Int) (x12 : Int) (x13 : Int) (x15 : Int), fX0_reachedFrom_b223 (fun a0 a1 a2 a3 a4 hh => fX0_reachedFrom_L73 n73 a0 a1 a2 a3 a4 hh) (fun a0 a1 a2 a3 a4 a5 a6 a7 a8 a9 hh => fX0_reachedFrom_L152 (fun a0 a1 a2 a3 a4 hh => fX0_reachedFrom_L73 n73 a0 a1 a2 a3 a4 hh) n152 a0 a1 a2 a3 a4 a5 a6 a7 a8 a9 hh) x1 x3 x5 x6 x8 x9 x10 x11 x12 x13 x15 h0 = some o → ZW G X sh_6 ad h0 0 0 [(0, .ref (ad 7)), (1, .int (iI x1)), (3, .int (iI x3)), (5, .int (iI x5)), (6, .long x6), (8, .int (iI x8)), (9, .int (iI x9)), (10, .int (iI x10)), (11, .int (iI x11)), (12, .int (iI x12)), (13, .int (iI x13)), (15, .int (iI x15))] 223 [] := by
            intro x1 x3 x5 x6 x8 x9 x10 x11 x12 x13 x15 hr
            unfold fX0_reachedFrom_b223 at hr
            refine z_iload hX dX0_reachedFrom_223 11 rfl ?_
            refine z_iconst hX dX0_reachedFrom_225 ?_
            refine z_icmp_ne (tgt := 236) hX dX0_reachedFrom_226 (by decide) rfl (wr_of (by decide) (by decide)) hr (fun hr => ?_) (fun hr => ?_)
            · refine z_iconst hX dX0_reachedFrom_236 ?_
              refine z_lv [0, 1, 2, 3, 4, 5, 6, 7, 8, 9] rfl ?_
              exact B237 x1 x3 x5 x6 x8 x9 x10 x11 x12 0 hr
            · refine z_iload hX dX0_reachedFrom_229 10 rfl ?_
              refine z_iconst hX dX0_reachedFrom_231 ?_
              refine z_isub hX dX0_reachedFrom_232 ?_
              refine z_goto (tgt := 237) hX dX0_reachedFrom_233 (by decide) ?_
              refine z_lv [0, 1, 2, 3, 4, 5, 6, 7, 8, 9] rfl ?_
              exact B237 x1 x3 x5 x6 x8 x9 x10 x11 x12 (x13 - 1) hr
          have B214 : ∀ (x1 : Int) (x3 : Int) (x5 : Int) (x6 : Int64) (x8 : Int) (x9 : Int) (x10 : Int) (x11 : Int) (x12 : Int) (x13 : Int) (x14 : Int) (x15 : Int), fX0_reachedFrom_b214 (fun a0 a1 a2 a3 a4 hh => fX0_reachedFrom_L73 n73 a0 a1 a2 a3 a4 hh) (fun a0 a1 a2 a3 a4 a5 a6 a7 a8 a9 hh => fX0_reachedFrom_L152 (fun a0 a1 a2 a3 a4 hh => fX0_reachedFrom_L73 n73 a0 a1 a2 a3 a4 hh) n152 a0 a1 a2 a3 a4 a5 a6 a7 a8 a9 hh) x1 x3 x5 x6 x8 x9 x10 x11 x12 x13 x14 x15 h0 = some o → ZW G X sh_6 ad h0 0 0 [(0, .ref (ad 7)), (1, .int (iI x1)), (3, .int (iI x3)), (5, .int (iI x5)), (6, .long x6), (8, .int (iI x8)), (9, .int (iI x9)), (10, .int (iI x10)), (11, .int (iI x11)), (12, .int (iI x12)), (13, .int (iI x13)), (14, .int (iI x14)), (15, .int (iI x15))] 214 [] := by
            intro x1 x3 x5 x6 x8 x9 x10 x11 x12 x13 x14 x15 hr
            unfold fX0_reachedFrom_b214 at hr
            refine z_lload hX dX0_reachedFrom_214 4 rfl ?_
            refine z_lconst hX dX0_reachedFrom_216 ?_
            refine z_iload hX dX0_reachedFrom_217 11 rfl ?_
            refine z_lshl hX dX0_reachedFrom_219 ?_
            refine z_lor hX dX0_reachedFrom_220 ?_
            refine z_lstore (lv1 := [(6, .long (x6 ||| (zshl (Int64.ofNat 1) x14))), (0, .ref (ad 7)), (1, .int (iI x1)), (3, .int (iI x3)), (5, .int (iI x5)), (8, .int (iI x8)), (9, .int (iI x9)), (10, .int (iI x10)), (11, .int (iI x11)), (12, .int (iI x12)), (13, .int (iI x13)), (14, .int (iI x14)), (15, .int (iI x15))]) hX dX0_reachedFrom_221 (by decide) rfl ?_
            refine z_lv [1, 2, 3, 4, 0, 5, 6, 7, 8, 9, 10, 12] rfl ?_
            exact B223 x1 x3 x5 (x6 ||| (zshl (Int64.ofNat 1) x14)) x8 x9 x10 x11 x12 x13 x15 hr
          unfold fX0_reachedFrom_L152 at hr
          refine z_iload hX dX0_reachedFrom_152 10 rfl ?_
          refine z_if_le (tgt := 256) hX dX0_reachedFrom_154 (by decide) rfl hr (fun hr => ?_) (fun hr => ?_)
          · refine z_lv [0, 1, 2, 3, 4, 5] rfl ?_
            exact B256 x1 x3 x5 x6 x8 hr
          · refine z_iload hX dX0_reachedFrom_157 8 rfl ?_
            refine z_if_lt (tgt := 256) hX dX0_reachedFrom_159 (by decide) rfl hr (fun hr => ?_) (fun hr => ?_)
            · refine z_lv [0, 1, 2, 3, 4, 5] rfl ?_
              exact B256 x1 x3 x5 x6 x8 hr
            · refine z_iload hX dX0_reachedFrom_162 8 rfl ?_
              refine z_bipush hX dX0_reachedFrom_164 (by decide +kernel) ?_
              refine z_icmp_ge (tgt := 256) hX dX0_reachedFrom_166 (by decide) rfl (wr_of (by decide) (by decide)) hr (fun hr => ?_) (fun hr => ?_)
              · refine z_lv [0, 1, 2, 3, 4, 5] rfl ?_
                exact B256 x1 x3 x5 x6 x8 hr
              · refine z_iload hX dX0_reachedFrom_169 9 rfl ?_
                refine z_if_lt (tgt := 256) hX dX0_reachedFrom_171 (by decide) rfl hr (fun hr => ?_) (fun hr => ?_)
                · refine z_lv [0, 1, 2, 3, 4, 5] rfl ?_
                  exact B256 x1 x3 x5 x6 x8 hr
                · refine z_iload hX dX0_reachedFrom_174 9 rfl ?_
                  refine z_bipush hX dX0_reachedFrom_176 (by decide +kernel) ?_
                  refine z_icmp_ge (tgt := 256) hX dX0_reachedFrom_178 (by decide) rfl (wr_of (by decide) (by decide)) hr (fun hr => ?_) (fun hr => ?_)
                  · refine z_lv [0, 1, 2, 3, 4, 5] rfl ?_
                    exact B256 x1 x3 x5 x6 x8 hr
                  · refine z_iload hX dX0_reachedFrom_181 9 rfl ?_
                    refine z_bipush hX dX0_reachedFrom_183 (by decide +kernel) ?_
                    refine z_imul hX dX0_reachedFrom_185 ?_
                    refine z_iload hX dX0_reachedFrom_186 8 rfl ?_
                    refine z_iadd hX dX0_reachedFrom_188 ?_
                    refine z_istore (lv1 := [(14, .int (iI ((x12 * 8) + x11))), (0, .ref (ad 7)), (1, .int (iI x1)), (3, .int (iI x3)), (5, .int (iI x5)), (6, .long x6), (8, .int (iI x8)), (9, .int (iI x9)), (10, .int (iI x10)), (11, .int (iI x11)), (12, .int (iI x12)), (13, .int (iI x13))]) hX dX0_reachedFrom_189 (by decide) rfl ?_
                    refine z_aload_n hX dX0_reachedFrom_191 1 rfl ?_
                    refine z_getR (j := 8) hX dX0_reachedFrom_192 fl_9 6 rfl rfl ?_
                    refine z_iload hX dX0_reachedFrom_195 0 rfl ?_
                    refine z_iaload (b := 64) hX dX0_reachedFrom_197 7 rfl (by decide) rfl hr (fun hr => ?_)
                    refine z_istore (lv1 := [(15, .int (iI (h0 8 ((x12 * 8) + x11)))), (14, .int (iI ((x12 * 8) + x11))), (0, .ref (ad 7)), (1, .int (iI x1)), (3, .int (iI x3)), (5, .int (iI x5)), (6, .long x6), (8, .int (iI x8)), (9, .int (iI x9)), (10, .int (iI x10)), (11, .int (iI x11)), (12, .int (iI x12)), (13, .int (iI x13))]) hX dX0_reachedFrom_198 (by decide) rfl ?_
                    refine z_iload hX dX0_reachedFrom_200 0 rfl ?_
                    refine z_iconst hX dX0_reachedFrom_202 ?_
                    refine z_icmp_eq (tgt := 214) hX dX0_reachedFrom_203 (by decide) rfl (wr_of (by decide) (by decide)) hr (fun hr => ?_) (fun hr => ?_)
                    · refine z_lv [2, 3, 4, 5, 6, 7, 8, 9, 10, 11, 12, 1, 0] rfl ?_
                      exact B214 x1 x3 x5 x6 x8 x9 x10 x11 x12 x13 ((x12 * 8) + x11) (h0 8 ((x12 * 8) + x11)) hr
                    · refine z_iload hX dX0_reachedFrom_206 0 rfl ?_
                      refine z_iconst hX dX0_reachedFrom_208 ?_
                      refine z_irem hX dX0_reachedFrom_209 (by decide) hr (fun hr => ?_)
                      refine z_iload_n hX dX0_reachedFrom_210 4 rfl ?_
                      refine z_icmp_eq (tgt := 223) hX dX0_reachedFrom_211 (by decide) rfl rfl hr (fun hr => ?_) (fun hr => ?_)
                      · refine z_lv [2, 3, 4, 5, 6, 7, 8, 9, 10, 11, 12, 0] rfl ?_
                        exact B223 x1 x3 x5 x6 x8 x9 x10 x11 x12 x13 (h0 8 ((x12 * 8) + x11)) hr
                      · refine z_lv [2, 3, 4, 5, 6, 7, 8, 9, 10, 11, 12, 1, 0] rfl ?_
                        exact B214 x1 x3 x5 x6 x8 x9 x10 x11 x12 x13 ((x12 * 8) + x11) (h0 8 ((x12 * 8) + x11)) hr
      have B120 : ∀ (x1 : Int) (x3 : Int) (x5 : Int) (x6 : Int64) (x8 : Int) (x9 : Int) (s0 : Int), fX0_reachedFrom_b120 (fun a0 a1 a2 a3 a4 hh => fX0_reachedFrom_L73 n73 a0 a1 a2 a3 a4 hh) x1 x3 x5 x6 x8 x9 s0 h0 = some o → ZW G X sh_6 ad h0 0 0 [(0, .ref (ad 7)), (1, .int (iI x1)), (3, .int (iI x3)), (5, .int (iI x5)), (6, .long x6), (8, .int (iI x8)), (9, .int (iI x9))] 120 [.int (iI s0)] := by
        intro x1 x3 x5 x6 x8 x9 s0 hr
        unfold fX0_reachedFrom_b120 at hr
        refine z_istore (lv1 := [(10, .int (iI s0)), (0, .ref (ad 7)), (1, .int (iI x1)), (3, .int (iI x3)), (5, .int (iI x5)), (6, .long x6), (8, .int (iI x8)), (9, .int (iI x9))]) hX dX0_reachedFrom_120 (by decide) rfl ?_
        refine z_iload_n hX dX0_reachedFrom_122 2 rfl ?_
        refine z_bipush hX dX0_reachedFrom_123 (by decide +kernel) ?_
        refine z_irem hX dX0_reachedFrom_125 (by decide) hr (fun hr => ?_)
        refine z_iload hX dX0_reachedFrom_126 7 rfl ?_
        refine z_iadd hX dX0_reachedFrom_128 ?_
        refine z_istore (lv1 := [(11, .int (iI ((x1 % 8) + x9))), (10, .int (iI s0)), (0, .ref (ad 7)), (1, .int (iI x1)), (3, .int (iI x3)), (5, .int (iI x5)), (6, .long x6), (8, .int (iI x8)), (9, .int (iI x9))]) hX dX0_reachedFrom_129 (by decide) rfl ?_
        refine z_iload_n hX dX0_reachedFrom_131 3 rfl ?_
        refine z_bipush hX dX0_reachedFrom_132 (by decide +kernel) ?_
        refine z_idiv hX dX0_reachedFrom_134 (by decide) hr (fun hr => ?_)
        refine z_iload hX dX0_reachedFrom_135 1 rfl ?_
        refine z_iadd hX dX0_reachedFrom_137 ?_
        refine z_istore (lv1 := [(12, .int (iI ((x1 / 8) + s0))), (11, .int (iI ((x1 % 8) + x9))), (10, .int (iI s0)), (0, .ref (ad 7)), (1, .int (iI x1)), (3, .int (iI x3)), (5, .int (iI x5)), (6, .long x6), (8, .int (iI x8)), (9, .int (iI x9))]) hX dX0_reachedFrom_138 (by decide) rfl ?_
        refine z_aload_n hX dX0_reachedFrom_140 3 rfl ?_
        refine z_getR (j := 1) hX dX0_reachedFrom_141 fl_15 6 rfl rfl ?_
        refine z_getRN (j := 6) hX dX0_reachedFrom_144 flN_55 0 rfl rfl ?_
        refine z_iload hX dX0_reachedFrom_147 8 rfl ?_
        refine z_iaload (b := 48) hX dX0_reachedFrom_149 5 rfl (by decide) rfl hr (fun hr => ?_)
        refine z_istore (lv1 := [(13, .int (iI (h0 6 x8))), (12, .int (iI ((x1 / 8) + s0))), (11, .int (iI ((x1 % 8) + x9))), (10, .int (iI s0)), (0, .ref (ad 7)), (1, .int (iI x1)), (3, .int (iI x3)), (5, .int (iI x5)), (6, .long x6), (8, .int (iI x8)), (9, .int (iI x9))]) hX dX0_reachedFrom_150 (by decide) rfl ?_
        refine z_lv [4, 5, 6, 7, 8, 9, 10, 3, 2, 1, 0] rfl ?_
        exact B152 zF x1 x3 x5 x6 x8 x9 s0 ((x1 % 8) + x9) ((x1 / 8) + s0) (h0 6 x8) hr
      unfold fX0_reachedFrom_L73 at hr
      refine z_iload hX dX0_reachedFrom_73 5 rfl ?_
      refine z_iload hX dX0_reachedFrom_75 3 rfl ?_
      refine z_icmp_ge (tgt := 262) hX dX0_reachedFrom_77 (by decide) rfl rfl hr (fun hr => ?_) (fun hr => ?_)
      · refine z_lload hX dX0_reachedFrom_262 4 rfl ?_
        obtain rfl := Option.some.inj hr
        exact hQ _ _ dX0_reachedFrom_264 hf
      · refine z_aload_n hX dX0_reachedFrom_80 0 rfl ?_
        refine z_getR (j := 1) hX dX0_reachedFrom_81 fl_15 6 rfl rfl ?_
        refine z_getRN (j := 4) hX dX0_reachedFrom_84 flN_49 0 rfl rfl ?_
        refine z_iload hX dX0_reachedFrom_87 5 rfl ?_
        refine z_iaload (b := 48) hX dX0_reachedFrom_89 3 rfl (by decide) rfl hr (fun hr => ?_)
        refine z_istore (lv1 := [(9, .int (iI (h0 4 x8))), (0, .ref (ad 7)), (1, .int (iI x1)), (3, .int (iI x3)), (5, .int (iI x5)), (6, .long x6), (8, .int (iI x8))]) hX dX0_reachedFrom_90 (by decide) rfl ?_
        refine z_iload_n hX dX0_reachedFrom_92 3 rfl ?_
        refine z_if_ne (tgt := 109) hX dX0_reachedFrom_93 (by decide) rfl hr (fun hr => ?_) (fun hr => ?_)
        · refine z_aload_n hX dX0_reachedFrom_109 1 rfl ?_
          refine z_getR (j := 1) hX dX0_reachedFrom_110 fl_15 6 rfl rfl ?_
          refine z_getRN (j := 5) hX dX0_reachedFrom_113 flN_52 0 rfl rfl ?_
          refine z_iload hX dX0_reachedFrom_116 6 rfl ?_
          refine z_iaload (b := 48) hX dX0_reachedFrom_118 4 rfl (by decide) rfl hr (fun hr => ?_)
          refine z_ineg hX dX0_reachedFrom_119 ?_
          refine z_lv [1, 2, 3, 4, 5, 6, 0] rfl ?_
          exact B120 x1 x3 x5 x6 x8 (h0 4 x8) (-(h0 5 x8)) hr
        · refine z_aload_n hX dX0_reachedFrom_96 1 rfl ?_
          refine z_getR (j := 1) hX dX0_reachedFrom_97 fl_15 6 rfl rfl ?_
          refine z_getRN (j := 5) hX dX0_reachedFrom_100 flN_52 0 rfl rfl ?_
          refine z_iload hX dX0_reachedFrom_103 6 rfl ?_
          refine z_iaload (b := 48) hX dX0_reachedFrom_105 4 rfl (by decide) rfl hr (fun hr => ?_)
          refine z_goto (tgt := 120) hX dX0_reachedFrom_106 (by decide) ?_
          refine z_lv [1, 2, 3, 4, 5, 6, 0] rfl ?_
          exact B120 x1 x3 x5 x6 x8 (h0 4 x8) (h0 5 x8) hr
  unfold fX0_reachedFrom at hr
  refine z_iload_n hX dX0_reachedFrom_0 1 rfl ?_
  refine z_if_lt (tgt := 10) hX dX0_reachedFrom_1 (by decide) rfl hr (fun hr => ?_) (fun hr => ?_)
  · refine z_lv [] rfl ?_
    exact B10 hr
  · refine z_iload_n hX dX0_reachedFrom_4 1 rfl ?_
    refine z_bipush hX dX0_reachedFrom_5 (by decide +kernel) ?_
    refine z_icmp_lt (tgt := 12) hX dX0_reachedFrom_7 (by decide) rfl (wr_of (by decide) (by decide)) hr (fun hr => ?_) (fun hr => ?_)
    · refine z_aload_n hX dX0_reachedFrom_12 0 rfl ?_
      refine z_getR (j := 8) hX dX0_reachedFrom_13 fl_9 6 rfl rfl ?_
      refine z_iload_n hX dX0_reachedFrom_16 1 rfl ?_
      refine z_iaload (b := 64) hX dX0_reachedFrom_17 7 rfl (by decide) rfl hr (fun hr => ?_)
      refine z_istore_n (lv1 := [(2, .int (iI (h0 8 p1))), (0, .ref (ad 7)), (1, .int (iI p1))]) hX dX0_reachedFrom_18 (by decide) rfl ?_
      refine z_iload_n hX dX0_reachedFrom_19 0 rfl ?_
      refine z_if_lt (tgt := 36) hX dX0_reachedFrom_20 (by decide) rfl hr (fun hr => ?_) (fun hr => ?_)
      · refine z_lv [] rfl ?_
        exact B36 hr
      · refine z_iload_n hX dX0_reachedFrom_23 0 rfl ?_
        refine z_iconst hX dX0_reachedFrom_24 ?_
        refine z_idiv hX dX0_reachedFrom_25 (by decide) hr (fun hr => ?_)
        refine z_aload_n hX dX0_reachedFrom_26 1 rfl ?_
        refine z_getR (j := 1) hX dX0_reachedFrom_27 fl_15 6 rfl rfl ?_
        refine z_getIN hX dX0_reachedFrom_30 flN_40 0 rfl rfl ?_
        refine z_icmp_lt (tgt := 38) hX dX0_reachedFrom_33 (by decide) rfl rfl hr (fun hr => ?_) (fun hr => ?_)
        · refine z_iload_n hX dX0_reachedFrom_38 0 rfl ?_
          refine z_iconst hX dX0_reachedFrom_39 ?_
          refine z_irem hX dX0_reachedFrom_40 (by decide) hr (fun hr => ?_)
          refine z_istore_n (lv1 := [(3, .int (iI ((h0 8 p1) % 2))), (2, .int (iI (h0 8 p1))), (0, .ref (ad 7)), (1, .int (iI p1))]) hX dX0_reachedFrom_41 (by decide) rfl ?_
          refine z_iload_n hX dX0_reachedFrom_42 1 rfl ?_
          refine z_iconst hX dX0_reachedFrom_43 ?_
          refine z_idiv hX dX0_reachedFrom_44 (by decide) hr (fun hr => ?_)
          refine z_bipush hX dX0_reachedFrom_45 (by decide +kernel) ?_
          refine z_imul hX dX0_reachedFrom_47 ?_
          refine z_istore (lv1 := [(4, .int (iI (((h0 8 p1) / 2) * 8))), (3, .int (iI ((h0 8 p1) % 2))), (2, .int (iI (h0 8 p1))), (0, .ref (ad 7)), (1, .int (iI p1))]) hX dX0_reachedFrom_48 (by decide) rfl ?_
          refine z_iload hX dX0_reachedFrom_50 0 rfl ?_
          refine z_aload_n hX dX0_reachedFrom_52 3 rfl ?_
          refine z_getR (j := 1) hX dX0_reachedFrom_53 fl_15 6 rfl rfl ?_
          refine z_getRN (j := 3) hX dX0_reachedFrom_56 flN_46 0 rfl rfl ?_
          refine z_iload_n hX dX0_reachedFrom_59 2 rfl ?_
          refine z_iconst hX dX0_reachedFrom_60 ?_
          refine z_idiv hX dX0_reachedFrom_61 (by decide) hr (fun hr => ?_)
          refine z_iaload (b := 6) hX dX0_reachedFrom_62 2 rfl (by decide) rfl hr (fun hr => ?_)
          refine z_iadd hX dX0_reachedFrom_63 ?_
          refine z_istore (lv1 := [(5, .int (iI ((((h0 8 p1) / 2) * 8) + (h0 3 ((h0 8 p1) / 2))))), (4, .int (iI (((h0 8 p1) / 2) * 8))), (3, .int (iI ((h0 8 p1) % 2))), (2, .int (iI (h0 8 p1))), (0, .ref (ad 7)), (1, .int (iI p1))]) hX dX0_reachedFrom_64 (by decide) rfl ?_
          refine z_lconst hX dX0_reachedFrom_66 ?_
          refine z_lstore (lv1 := [(6, .long (Int64.ofNat 0)), (5, .int (iI ((((h0 8 p1) / 2) * 8) + (h0 3 ((h0 8 p1) / 2))))), (4, .int (iI (((h0 8 p1) / 2) * 8))), (3, .int (iI ((h0 8 p1) % 2))), (2, .int (iI (h0 8 p1))), (0, .ref (ad 7)), (1, .int (iI p1))]) hX dX0_reachedFrom_67 (by decide) rfl ?_
          refine z_iload hX dX0_reachedFrom_69 2 rfl ?_
          refine z_istore (lv1 := [(8, .int (iI (((h0 8 p1) / 2) * 8))), (6, .long (Int64.ofNat 0)), (5, .int (iI ((((h0 8 p1) / 2) * 8) + (h0 3 ((h0 8 p1) / 2))))), (4, .int (iI (((h0 8 p1) / 2) * 8))), (3, .int (iI ((h0 8 p1) % 2))), (2, .int (iI (h0 8 p1))), (0, .ref (ad 7)), (1, .int (iI p1))]) hX dX0_reachedFrom_71 (by decide) rfl ?_
          refine z_lv [6, 7, 4, 2, 1, 0] rfl ?_
          exact B73 zF p1 ((h0 8 p1) % 2) ((((h0 8 p1) / 2) * 8) + (h0 3 ((h0 8 p1) / 2))) (Int64.ofNat 0) (((h0 8 p1) / 2) * 8) hr
        · refine z_lv [] rfl ?_
          exact B36 hr
    · refine z_lv [] rfl ?_
      exact B10 hr

def fX0_reaches (p1 : Int) (p2 : Int) (h : HS) : Option (Int) := (fX5_isSquare p2 h).bind fun r1 => if wr r1 = 0 then some 0 else (fX0_reachedFrom p1 h).bind fun r2 => if wr (zcmp ((zushr r2 p2) &&& (Int64.ofNat 1)) (Int64.ofNat 0)) = 0 then some 0 else some 1
set_option maxRecDepth 100000 in
set_option maxHeartbeats 4000000 in
theorem mX0_reaches {G : ZG} {l0 : Launch} {ad : Nat → Nat} {h0 : HS} {p1 : Int} {p2 : Int} {o : Int} (hr : fX0_reaches p1 p2 h0 = some o) : ZMi G l0 yX0_reaches wsX0_reaches ({ frames := 1, cells := 0, slots := 0, locals := 35 }) [.ref (ad 7), .int (iI p1), .int (iI p2)] sh_6 ad h0 [] o h0 := by
  refine ZMi.ofZ (cc := cX0_reaches) (maxL := 3) (ret := (some .boolean)) (own := RX0) (lv0 := [(0, .ref (ad 7)), (1, .int (iI p1)), (2, .int (iI p2))]) (by decide) rfl rfl rfl (Nat.le_of_ble_eq_true rfl) rfl ?_
  intro X hX hQ
  have hf : zfr [] h0 h0 := zfr_rf
  unfold fX0_reaches at hr
  refine z_iload_n hX dX0_reaches_0 2 rfl ?_
  obtain ⟨r1, hc1, hr⟩ := z_bind hr
  refine z_callSN_i (As := [.int (iI p2)]) (k1 := 0) (n1 := 0) (nA := 1) hX (mX5_isSquare hc1) dX0_reaches_1 gX0_reaches_X5_isSquare_n25 (fun _ hn => hn.2.2.2.2.2.2.2.2.1) (by decide +kernel) (by decide +kernel) rfl ⟨by decide, by decide, by decide +kernel⟩ ⟨by decide, by decide⟩ ⟨by decide, by decide⟩ rfl rfl (Nat.le_of_ble_eq_true rfl) (by decide +kernel) rfl rfl (fun hg1 => ?_)
  refine z_if_eq (tgt := 25) hX dX0_reaches_4 (by decide) rfl hr (fun hr => ?_) (fun hr => ?_)
  · refine z_iconst hX dX0_reaches_25 ?_
    obtain rfl := Option.some.inj hr
    exact hQ _ _ dX0_reaches_26 hf (Or.inl rfl)
  · refine z_aload_n hX dX0_reaches_7 0 rfl ?_
    refine z_iload_n hX dX0_reaches_8 1 rfl ?_
    obtain ⟨r2, hc2, hr⟩ := z_bind hr
    refine z_callV_l (As := [.int (iI p1)]) (k1 := 0) (n1 := 0) (nA := 1) hX (mX0_reachedFrom hc2) dX0_reaches_9 gX0_reaches_X0_reachedFrom rfl ⟨rfl, by decide, by decide, by decide +kernel⟩ ⟨by decide, by decide⟩ ⟨by decide, by decide⟩ 6 rfl rfl rfl rfl (Nat.le_of_ble_eq_true rfl) (by decide +kernel) rfl rfl (fun hg2 => ?_)
    refine z_iload_n hX dX0_reaches_12 2 rfl ?_
    refine z_lushr hX dX0_reaches_13 ?_
    refine z_lconst hX dX0_reaches_14 ?_
    refine z_land hX dX0_reaches_15 ?_
    refine z_lconst hX dX0_reaches_16 ?_
    refine z_lcmp hX dX0_reaches_17 ?_
    refine z_if_eq (tgt := 25) hX dX0_reaches_18 (by decide) rfl hr (fun hr => ?_) (fun hr => ?_)
    · refine z_iconst hX dX0_reaches_25 ?_
      obtain rfl := Option.some.inj hr
      exact hQ _ _ dX0_reaches_26 hf (Or.inl rfl)
    · refine z_iconst hX dX0_reaches_21 ?_
      refine z_goto (tgt := 26) hX dX0_reaches_22 (by decide) ?_
      obtain rfl := Option.some.inj hr
      exact hQ _ _ dX0_reaches_26 hf (Or.inr rfl)

def fX0_royalsOf_b32 (k5 : Int → Int64 → Int → HS → Option (Int64)) (x1 : Int) (x2 : Int64) (x4 : Int) (h : HS) : Option (Int64) := k5 x1 x2 (x4 + 1) h
def fX0_royalsOf_L5 : Nat → Int → Int64 → Int → HS → Option (Int64)
  | 0, _, _, _, _ => none
  | nf + 1, x1, x2, x4, h => if (64 : Int) ≤ wr x4 then some x2 else if (0 : Int) ≤ x4 ∧ x4 < 64 then if wr (h 8 x4) = wr (0 + x1) then fX0_royalsOf_b32 (fun a0 a1 a2 hh => fX0_royalsOf_L5 nf a0 a1 a2 hh) x1 (x2 ||| (zshl (Int64.ofNat 1) x4)) x4 h else fX0_royalsOf_b32 (fun a0 a1 a2 hh => fX0_royalsOf_L5 nf a0 a1 a2 hh) x1 x2 x4 h else none
def fX0_royalsOf (p1 : Int) (h : HS) : Option (Int64) := fX0_royalsOf_L5 zF p1 (Int64.ofNat 0) 0 h
set_option maxRecDepth 100000 in
set_option maxHeartbeats 4000000 in
theorem mX0_royalsOf {G : ZG} {l0 : Launch} {ad : Nat → Nat} {h0 : HS} {p1 : Int} {o : Int64} (hr : fX0_royalsOf p1 h0 = some o) : ZMl G l0 yX0_royalsOf wsX0_royalsOf ({ frames := 0, cells := 0, slots := 0, locals := 0 }) [.ref (ad 7), .int (iI p1)] sh_6 ad h0 [] o h0 := by
  refine ZMl.of (cc := cX0_royalsOf) (maxL := 5) (ret := (some .long)) (own := RX0) (lv0 := [(0, .ref (ad 7)), (1, .int (iI p1))]) (by decide) rfl rfl rfl (Nat.le_of_ble_eq_true rfl) rfl ?_
  intro X hX hQ
  have hf : zfr [] h0 h0 := zfr_rf
  have fl_9 : zFld wsX0_royalsOf RX0 9 0 RX0 TX0 2 1 := ⟨by decide +kernel, by decide +kernel, by decide, rfl⟩
  have B5 : ∀ (nf : Nat) (x1 : Int) (x2 : Int64) (x4 : Int), fX0_royalsOf_L5 nf x1 x2 x4 h0 = some o → ZW G X sh_6 ad h0 0 0 [(0, .ref (ad 7)), (1, .int (iI x1)), (2, .long x2), (4, .int (iI x4))] 5 [] := by
    intro nf
    induction nf with
    | zero => intro x1 x2 x4 hr; exact z_none hr
    | succ n5 ih5 =>
      intro x1 x2 x4 hr
      have B32 : ∀ (x1 : Int) (x2 : Int64) (x4 : Int), fX0_royalsOf_b32 (fun a0 a1 a2 hh => fX0_royalsOf_L5 n5 a0 a1 a2 hh) x1 x2 x4 h0 = some o → ZW G X sh_6 ad h0 0 0 [(0, .ref (ad 7)), (1, .int (iI x1)), (2, .long x2), (4, .int (iI x4))] 32 [] := by
        intro x1 x2 x4 hr
        unfold fX0_royalsOf_b32 at hr
        refine z_iinc (lv1 := [(4, .int (iI (x4 + 1))), (0, .ref (ad 7)), (1, .int (iI x1)), (2, .long x2)]) hX dX0_royalsOf_32 3 rfl (by decide) rfl ?_
        refine z_goto (tgt := 5) hX dX0_royalsOf_35 (by decide) ?_
        refine z_lv [1, 2, 3, 0] rfl ?_
        exact ih5 x1 x2 (x4 + 1) hr
      unfold fX0_royalsOf_L5 at hr
      refine z_iload hX dX0_royalsOf_5 3 rfl ?_
      refine z_bipush hX dX0_royalsOf_7 (by decide +kernel) ?_
      refine z_icmp_ge (tgt := 38) hX dX0_royalsOf_9 (by decide) rfl (wr_of (by decide) (by decide)) hr (fun hr => ?_) (fun hr => ?_)
      · refine z_lload_n hX dX0_royalsOf_38 2 rfl ?_
        obtain rfl := Option.some.inj hr
        exact hQ _ _ dX0_royalsOf_39 hf
      · refine z_aload_n hX dX0_royalsOf_12 0 rfl ?_
        refine z_getR (j := 8) hX dX0_royalsOf_13 fl_9 6 rfl rfl ?_
        refine z_iload hX dX0_royalsOf_16 3 rfl ?_
        refine z_iaload (b := 64) hX dX0_royalsOf_18 7 rfl (by decide) rfl hr (fun hr => ?_)
        refine z_iconst hX dX0_royalsOf_19 ?_
        refine z_iload_n hX dX0_royalsOf_20 1 rfl ?_
        refine z_iadd hX dX0_royalsOf_21 ?_
        refine z_icmp_ne (tgt := 32) hX dX0_royalsOf_22 (by decide) rfl rfl hr (fun hr => ?_) (fun hr => ?_)
        · exact B32 x1 x2 x4 hr
        · refine z_lload_n hX dX0_royalsOf_25 2 rfl ?_
          refine z_lconst hX dX0_royalsOf_26 ?_
          refine z_iload hX dX0_royalsOf_27 3 rfl ?_
          refine z_lshl hX dX0_royalsOf_29 ?_
          refine z_lor hX dX0_royalsOf_30 ?_
          refine z_lstore_n (lv1 := [(2, .long (x2 ||| (zshl (Int64.ofNat 1) x4))), (0, .ref (ad 7)), (1, .int (iI x1)), (4, .int (iI x4))]) hX dX0_royalsOf_31 (by decide) rfl ?_
          refine z_lv [1, 2, 0, 3] rfl ?_
          exact B32 x1 (x2 ||| (zshl (Int64.ofNat 1) x4)) x4 hr
  unfold fX0_royalsOf at hr
  refine z_lconst hX dX0_royalsOf_0 ?_
  refine z_lstore_n (lv1 := [(2, .long (Int64.ofNat 0)), (0, .ref (ad 7)), (1, .int (iI p1))]) hX dX0_royalsOf_1 (by decide) rfl ?_
  refine z_iconst hX dX0_royalsOf_2 ?_
  refine z_istore (lv1 := [(4, .int (iI 0)), (2, .long (Int64.ofNat 0)), (0, .ref (ad 7)), (1, .int (iI p1))]) hX dX0_royalsOf_3 (by decide) rfl ?_
  refine z_lv [2, 3, 1, 0] rfl ?_
  exact B5 zF p1 (Int64.ofNat 0) 0 hr

def fX0_inCheck_b74 (k12 : Int → Int64 → Int → Int → HS → Option (Int)) (x1 : Int) (x2 : Int64) (x4 : Int) (x5 : Int) (h : HS) : Option (Int) := k12 x1 x2 x4 (x5 + 1) h
def fX0_inCheck_b72 (k12 : Int → Int64 → Int → Int → HS → Option (Int)) (x1 : Int) (x2 : Int64) (x5 : Int) (s0 : Int) (h : HS) : Option (Int) := fX0_inCheck_b74 k12 x1 x2 s0 x5 h
def fX0_inCheck_L12 : Nat → Int → Int64 → Int → Int → HS → Option (Int)
  | 0, _, _, _, _, _ => none
  | nf + 1, x1, x2, x4, x5, h => if (64 : Int) ≤ wr x5 then if x4 = 0 ∨ x4 = 1 then some x4 else none else if wr (zcmp x2 (Int64.ofNat 0)) = 0 then if x4 = 0 ∨ x4 = 1 then some x4 else none else if wr x4 = 0 then if (0 : Int) ≤ x5 ∧ x5 < 64 then if wr (h 8 x5) = ((-1) : Int) then fX0_inCheck_b74 (fun a0 a1 a2 a3 hh => fX0_inCheck_L12 nf a0 a1 a2 a3 hh) x1 x2 x4 x5 h else if (0 : Int) ≤ x5 ∧ x5 < 64 then if (0 : Int) ≤ (h 8 x5) ∧ (h 8 x5) < 2147483648 then if wr ((h 8 x5) % 2) = wr x1 then fX0_inCheck_b74 (fun a0 a1 a2 a3 hh => fX0_inCheck_L12 nf a0 a1 a2 a3 hh) x1 x2 x4 x5 h else (fX0_reachedFrom x5 h).bind fun r1 => if wr (zcmp (r1 &&& x2) (Int64.ofNat 0)) = 0 then fX0_inCheck_b72 (fun a0 a1 a2 a3 hh => fX0_inCheck_L12 nf a0 a1 a2 a3 hh) x1 x2 x5 0 h else fX0_inCheck_b72 (fun a0 a1 a2 a3 hh => fX0_inCheck_L12 nf a0 a1 a2 a3 hh) x1 x2 x5 1 h else none else none else none else if x4 = 0 ∨ x4 = 1 then some x4 else none
def fX0_inCheck (p1 : Int) (h : HS) : Option (Int) := (fX0_royalsOf p1 h).bind fun r2 => fX0_inCheck_L12 zF p1 r2 0 0 h
set_option maxRecDepth 100000 in
set_option maxHeartbeats 4000000 in
theorem mX0_inCheck {G : ZG} {l0 : Launch} {ad : Nat → Nat} {h0 : HS} {p1 : Int} {o : Int} (hr : fX0_inCheck p1 h0 = some o) : ZMi G l0 yX0_inCheck wsX0_inCheck ({ frames := 1, cells := 0, slots := 0, locals := 35 }) [.ref (ad 7), .int (iI p1)] sh_6 ad h0 [] o h0 := by
  refine ZMi.ofZ (cc := cX0_inCheck) (maxL := 6) (ret := (some .boolean)) (own := RX0) (lv0 := [(0, .ref (ad 7)), (1, .int (iI p1))]) (by decide) rfl rfl rfl (Nat.le_of_ble_eq_true rfl) rfl ?_
  intro X hX hQ
  have hf : zfr [] h0 h0 := zfr_rf
  have fl_9 : zFld wsX0_inCheck RX0 9 0 RX0 TX0 2 1 := ⟨by decide +kernel, by decide +kernel, by decide, rfl⟩
  have B12 : ∀ (nf : Nat) (x1 : Int) (x2 : Int64) (x4 : Int) (x5 : Int), fX0_inCheck_L12 nf x1 x2 x4 x5 h0 = some o → ZW G X sh_6 ad h0 0 0 [(0, .ref (ad 7)), (1, .int (iI x1)), (2, .long x2), (4, .int (iI x4)), (5, .int (iI x5))] 12 [] := by
    intro nf
    induction nf with
    | zero => intro x1 x2 x4 x5 hr; exact z_none hr
    | succ n12 ih12 =>
      intro x1 x2 x4 x5 hr
      have B74 : ∀ (x1 : Int) (x2 : Int64) (x4 : Int) (x5 : Int), fX0_inCheck_b74 (fun a0 a1 a2 a3 hh => fX0_inCheck_L12 n12 a0 a1 a2 a3 hh) x1 x2 x4 x5 h0 = some o → ZW G X sh_6 ad h0 0 0 [(0, .ref (ad 7)), (1, .int (iI x1)), (2, .long x2), (4, .int (iI x4)), (5, .int (iI x5))] 74 [] := by
        intro x1 x2 x4 x5 hr
        unfold fX0_inCheck_b74 at hr
        refine z_iinc (lv1 := [(5, .int (iI (x5 + 1))), (0, .ref (ad 7)), (1, .int (iI x1)), (2, .long x2), (4, .int (iI x4))]) hX dX0_inCheck_74 4 rfl (by decide) rfl ?_
        refine z_goto (tgt := 12) hX dX0_inCheck_77 (by decide) ?_
        refine z_lv [1, 2, 3, 4, 0] rfl ?_
        exact ih12 x1 x2 x4 (x5 + 1) hr
      have B72 : ∀ (x1 : Int) (x2 : Int64) (x5 : Int) (s0 : Int), fX0_inCheck_b72 (fun a0 a1 a2 a3 hh => fX0_inCheck_L12 n12 a0 a1 a2 a3 hh) x1 x2 x5 s0 h0 = some o → ZW G X sh_6 ad h0 0 0 [(0, .ref (ad 7)), (1, .int (iI x1)), (2, .long x2), (5, .int (iI x5))] 72 [.int (iI s0)] := by
        intro x1 x2 x5 s0 hr
        unfold fX0_inCheck_b72 at hr
        refine z_istore (lv1 := [(4, .int (iI s0)), (0, .ref (ad 7)), (1, .int (iI x1)), (2, .long x2), (5, .int (iI x5))]) hX dX0_inCheck_72 (by decide) rfl ?_
        refine z_lv [1, 2, 3, 0, 4] rfl ?_
        exact B74 x1 x2 s0 x5 hr
      unfold fX0_inCheck_L12 at hr
      refine z_iload hX dX0_inCheck_12 4 rfl ?_
      refine z_bipush hX dX0_inCheck_14 (by decide +kernel) ?_
      refine z_icmp_ge (tgt := 80) hX dX0_inCheck_16 (by decide) rfl (wr_of (by decide) (by decide)) hr (fun hr => ?_) (fun hr => ?_)
      · refine z_iload hX dX0_inCheck_80 3 rfl ?_
        obtain ⟨hz, hr⟩ := z_ifg hr
        obtain rfl := Option.some.inj hr
        exact hQ _ _ dX0_inCheck_82 hf hz
      · refine z_lload_n hX dX0_inCheck_19 2 rfl ?_
        refine z_lconst hX dX0_inCheck_20 ?_
        refine z_lcmp hX dX0_inCheck_21 ?_
        refine z_if_eq (tgt := 80) hX dX0_inCheck_22 (by decide) rfl hr (fun hr => ?_) (fun hr => ?_)
        · refine z_iload hX dX0_inCheck_80 3 rfl ?_
          obtain ⟨hz, hr⟩ := z_ifg hr
          obtain rfl := Option.some.inj hr
          exact hQ _ _ dX0_inCheck_82 hf hz
        · refine z_iload hX dX0_inCheck_25 3 rfl ?_
          refine z_if_ne (tgt := 80) hX dX0_inCheck_27 (by decide) rfl hr (fun hr => ?_) (fun hr => ?_)
          · refine z_iload hX dX0_inCheck_80 3 rfl ?_
            obtain ⟨hz, hr⟩ := z_ifg hr
            obtain rfl := Option.some.inj hr
            exact hQ _ _ dX0_inCheck_82 hf hz
          · refine z_aload_n hX dX0_inCheck_30 0 rfl ?_
            refine z_getR (j := 8) hX dX0_inCheck_31 fl_9 6 rfl rfl ?_
            refine z_iload hX dX0_inCheck_34 4 rfl ?_
            refine z_iaload (b := 64) hX dX0_inCheck_36 7 rfl (by decide) rfl hr (fun hr => ?_)
            refine z_iconst hX dX0_inCheck_37 ?_
            refine z_icmp_eq (tgt := 74) hX dX0_inCheck_38 (by decide) rfl (wr_of (by decide) (by decide)) hr (fun hr => ?_) (fun hr => ?_)
            · exact B74 x1 x2 x4 x5 hr
            · refine z_aload_n hX dX0_inCheck_41 0 rfl ?_
              refine z_getR (j := 8) hX dX0_inCheck_42 fl_9 6 rfl rfl ?_
              refine z_iload hX dX0_inCheck_45 4 rfl ?_
              refine z_iaload (b := 64) hX dX0_inCheck_47 7 rfl (by decide) rfl hr (fun hr => ?_)
              refine z_iconst hX dX0_inCheck_48 ?_
              refine z_irem hX dX0_inCheck_49 (by decide) hr (fun hr => ?_)
              refine z_iload_n hX dX0_inCheck_50 1 rfl ?_
              refine z_icmp_eq (tgt := 74) hX dX0_inCheck_51 (by decide) rfl rfl hr (fun hr => ?_) (fun hr => ?_)
              · exact B74 x1 x2 x4 x5 hr
              · refine z_aload_n hX dX0_inCheck_54 0 rfl ?_
                refine z_iload hX dX0_inCheck_55 4 rfl ?_
                obtain ⟨r1, hc1, hr⟩ := z_bind hr
                refine z_callV_l (As := [.int (iI x5)]) (k1 := 0) (n1 := 0) (nA := 1) hX (mX0_reachedFrom hc1) dX0_inCheck_57 gX0_inCheck_X0_reachedFrom rfl ⟨rfl, by decide, by decide, by decide +kernel⟩ ⟨by decide, by decide⟩ ⟨by decide, by decide⟩ 6 rfl rfl rfl rfl (Nat.le_of_ble_eq_true rfl) (by decide +kernel) rfl rfl (fun hg1 => ?_)
                refine z_lload_n hX dX0_inCheck_60 2 rfl ?_
                refine z_land hX dX0_inCheck_61 ?_
                refine z_lconst hX dX0_inCheck_62 ?_
                refine z_lcmp hX dX0_inCheck_63 ?_
                refine z_if_eq (tgt := 71) hX dX0_inCheck_64 (by decide) rfl hr (fun hr => ?_) (fun hr => ?_)
                · refine z_iconst hX dX0_inCheck_71 ?_
                  refine z_lv [0, 1, 2, 4] rfl ?_
                  exact B72 x1 x2 x5 0 hr
                · refine z_iconst hX dX0_inCheck_67 ?_
                  refine z_goto (tgt := 72) hX dX0_inCheck_68 (by decide) ?_
                  refine z_lv [0, 1, 2, 4] rfl ?_
                  exact B72 x1 x2 x5 1 hr
  unfold fX0_inCheck at hr
  refine z_aload_n hX dX0_inCheck_0 0 rfl ?_
  refine z_iload_n hX dX0_inCheck_1 1 rfl ?_
  obtain ⟨r2, hc2, hr⟩ := z_bind hr
  refine z_callV_l (As := [.int (iI p1)]) (k1 := 0) (n1 := 0) (nA := 1) hX (mX0_royalsOf hc2) dX0_inCheck_2 gX0_inCheck_X0_royalsOf rfl ⟨rfl, by decide, by decide, by decide +kernel⟩ ⟨by decide, by decide⟩ ⟨by decide, by decide⟩ 6 rfl rfl rfl rfl (Nat.le_of_ble_eq_true rfl) (by decide +kernel) rfl rfl (fun hg2 => ?_)
  refine z_lstore_n (lv1 := [(2, .long r2), (0, .ref (ad 7)), (1, .int (iI p1))]) hX dX0_inCheck_5 (by decide) rfl ?_
  refine z_iconst hX dX0_inCheck_6 ?_
  refine z_istore (lv1 := [(4, .int (iI 0)), (2, .long r2), (0, .ref (ad 7)), (1, .int (iI p1))]) hX dX0_inCheck_7 (by decide) rfl ?_
  refine z_iconst hX dX0_inCheck_9 ?_
  refine z_istore (lv1 := [(5, .int (iI 0)), (4, .int (iI 0)), (2, .long r2), (0, .ref (ad 7)), (1, .int (iI p1))]) hX dX0_inCheck_10 (by decide) rfl ?_
  refine z_lv [3, 4, 2, 1, 0] rfl ?_
  exact B12 zF p1 r2 0 0 hr

def fX0_keepsRoyalsSafe_b29 (x1 : Int) (x2 : Int) (x4 : Int) (s0 : Int) (h : HS) : Option (Int × HS) := (fX0_takeBack x1 x2 x4 h).bind fun r1 => if s0 = 0 ∨ s0 = 1 then some (s0, r1) else none
def fX0_keepsRoyalsSafe (p1 : Int) (p2 : Int) (h : HS) : Option (Int × HS) := (fX0_pieceOn p1 h).bind fun r2 => if (0 : Int) ≤ r2 ∧ r2 < 2147483648 then (fX0_move p1 p2 h).bind fun r3 => (fX0_inCheck (r2 % 2) r3.2).bind fun r4 => if wr r4 = 0 then fX0_keepsRoyalsSafe_b29 p1 p2 r3.1 1 r3.2 else fX0_keepsRoyalsSafe_b29 p1 p2 r3.1 0 r3.2 else none
set_option maxRecDepth 100000 in
set_option maxHeartbeats 4000000 in
theorem mX0_keepsRoyalsSafe {G : ZG} {l0 : Launch} {ad : Nat → Nat} {h0 : HS} {p1 : Int} {p2 : Int} {o : Int × HS} (hr : fX0_keepsRoyalsSafe p1 p2 h0 = some o) : ZMi G l0 yX0_keepsRoyalsSafe wsX0_keepsRoyalsSafe ({ frames := 2, cells := 0, slots := 0, locals := 60 }) [.ref (ad 7), .int (iI p1), .int (iI p2)] sh_6 ad h0 [8] o.1 o.2 := by
  refine ZMi.ofZ (cc := cX0_keepsRoyalsSafe) (maxL := 6) (ret := (some .boolean)) (own := RX0) (lv0 := [(0, .ref (ad 7)), (1, .int (iI p1)), (2, .int (iI p2))]) (by decide) rfl rfl rfl (Nat.le_of_ble_eq_true rfl) rfl ?_
  intro X hX hQ
  have hf : zfr [8] h0 h0 := zfr_rf
  have B29 : ∀ (x1 : Int) (x2 : Int) (x4 : Int) (s0 : Int) (h : HS), zfr [8] h0 h → fX0_keepsRoyalsSafe_b29 x1 x2 x4 s0 h = some o → ZW G X sh_6 ad h 0 0 [(0, .ref (ad 7)), (1, .int (iI x1)), (2, .int (iI x2)), (4, .int (iI x4))] 29 [.int (iI s0)] := by
    intro x1 x2 x4 s0 h hf hr
    unfold fX0_keepsRoyalsSafe_b29 at hr
    refine z_istore (lv1 := [(5, .int (iI s0)), (0, .ref (ad 7)), (1, .int (iI x1)), (2, .int (iI x2)), (4, .int (iI x4))]) hX dX0_keepsRoyalsSafe_29 (by decide) rfl ?_
    refine z_aload_n hX dX0_keepsRoyalsSafe_31 1 rfl ?_
    refine z_iload_n hX dX0_keepsRoyalsSafe_32 2 rfl ?_
    refine z_iload_n hX dX0_keepsRoyalsSafe_33 3 rfl ?_
    refine z_iload hX dX0_keepsRoyalsSafe_34 4 rfl ?_
    obtain ⟨r1, hc1, hr⟩ := z_bind hr
    refine z_callV_v (As := [.int (iI x1), .int (iI x2), .int (iI x4)]) (k1 := 0) (n1 := 0) (nA := 3) hX (mX0_takeBack hc1) dX0_keepsRoyalsSafe_36 gX0_keepsRoyalsSafe_X0_takeBack rfl ⟨rfl, by decide, by decide, by decide +kernel⟩ ⟨by decide, by decide⟩ ⟨by decide, by decide⟩ 6 rfl rfl rfl rfl (Nat.le_of_ble_eq_true rfl) (by decide +kernel) rfl rfl (fun hg1 => ?_)
    have hf : zfr [8] h0 r1 := zfr_tr hf (by decide) hg1
    refine z_iload hX dX0_keepsRoyalsSafe_39 0 rfl ?_
    obtain ⟨hz, hr⟩ := z_ifg hr
    obtain rfl := Option.some.inj hr
    exact hQ _ _ dX0_keepsRoyalsSafe_41 hf hz
  unfold fX0_keepsRoyalsSafe at hr
  refine z_aload_n hX dX0_keepsRoyalsSafe_0 0 rfl ?_
  refine z_iload_n hX dX0_keepsRoyalsSafe_1 1 rfl ?_
  obtain ⟨r2, hc2, hr⟩ := z_bind hr
  refine z_callV_i (As := [.int (iI p1)]) (k1 := 0) (n1 := 0) (nA := 1) hX (mX0_pieceOn hc2) dX0_keepsRoyalsSafe_2 gX0_keepsRoyalsSafe_X0_pieceOn rfl ⟨rfl, by decide, by decide, by decide +kernel⟩ ⟨by decide, by decide⟩ ⟨by decide, by decide⟩ 6 rfl rfl rfl rfl (Nat.le_of_ble_eq_true rfl) (by decide +kernel) rfl rfl (fun hg2 => ?_)
  refine z_iconst hX dX0_keepsRoyalsSafe_5 ?_
  refine z_irem hX dX0_keepsRoyalsSafe_6 (by decide) hr (fun hr => ?_)
  refine z_istore_n (lv1 := [(3, .int (iI (r2 % 2))), (0, .ref (ad 7)), (1, .int (iI p1)), (2, .int (iI p2))]) hX dX0_keepsRoyalsSafe_7 (by decide) rfl ?_
  refine z_aload_n hX dX0_keepsRoyalsSafe_8 1 rfl ?_
  refine z_iload_n hX dX0_keepsRoyalsSafe_9 2 rfl ?_
  refine z_iload_n hX dX0_keepsRoyalsSafe_10 3 rfl ?_
  obtain ⟨r3, hc3, hr⟩ := z_bind hr
  refine z_callV_i (As := [.int (iI p1), .int (iI p2)]) (k1 := 0) (n1 := 0) (nA := 2) hX (mX0_move hc3) dX0_keepsRoyalsSafe_11 gX0_keepsRoyalsSafe_X0_move rfl ⟨rfl, by decide, by decide, by decide +kernel⟩ ⟨by decide, by decide⟩ ⟨by decide, by decide⟩ 6 rfl rfl rfl rfl (Nat.le_of_ble_eq_true rfl) (by decide +kernel) rfl rfl (fun hg3 => ?_)
  have hf : zfr [8] h0 r3.2 := zfr_tr hf (by decide) hg3
  refine z_istore (lv1 := [(4, .int (iI r3.1)), (3, .int (iI (r2 % 2))), (0, .ref (ad 7)), (1, .int (iI p1)), (2, .int (iI p2))]) hX dX0_keepsRoyalsSafe_14 (by decide) rfl ?_
  refine z_aload_n hX dX0_keepsRoyalsSafe_16 2 rfl ?_
  refine z_iload_n hX dX0_keepsRoyalsSafe_17 1 rfl ?_
  obtain ⟨r4, hc4, hr⟩ := z_bind hr
  refine z_callV_i (As := [.int (iI (r2 % 2))]) (k1 := 0) (n1 := 0) (nA := 1) hX (mX0_inCheck hc4) dX0_keepsRoyalsSafe_18 gX0_keepsRoyalsSafe_X0_inCheck rfl ⟨rfl, by decide, by decide, by decide +kernel⟩ ⟨by decide, by decide⟩ ⟨by decide, by decide⟩ 6 rfl rfl rfl rfl (Nat.le_of_ble_eq_true rfl) (by decide +kernel) rfl rfl (fun hg4 => ?_)
  refine z_if_ne (tgt := 28) hX dX0_keepsRoyalsSafe_21 (by decide) rfl hr (fun hr => ?_) (fun hr => ?_)
  · refine z_iconst hX dX0_keepsRoyalsSafe_28 ?_
    refine z_lv [2, 3, 4, 0] rfl ?_
    exact B29 p1 p2 r3.1 0 r3.2 hf hr
  · refine z_iconst hX dX0_keepsRoyalsSafe_24 ?_
    refine z_goto (tgt := 29) hX dX0_keepsRoyalsSafe_25 (by decide) ?_
    refine z_lv [2, 3, 4, 0] rfl ?_
    exact B29 p1 p2 r3.1 1 r3.2 hf hr

def fX0_countLegalMoves_b110 (k5 : Int → Int → Int → Int → HS → Option (Int × HS)) (x1 : Int) (x2 : Int) (x3 : Int) (x4 : Int) (h : HS) : Option (Int × HS) := k5 x1 x2 x3 (x4 + 1) h
def fX0_countLegalMoves_b104 (k5 : Int → Int → Int → Int → HS → Option (Int × HS)) (k56 : Int → Int → Int → Int → Int64 → Int → HS → Option (Int × HS)) (x1 : Int) (x2 : Int) (x3 : Int) (x4 : Int) (x5 : Int64) (x7 : Int) (h : HS) : Option (Int × HS) := k56 x1 x2 x3 x4 x5 (x7 + 1) h
def fX0_countLegalMoves_L56 (k5 : Int → Int → Int → Int → HS → Option (Int × HS)) : Nat → Int → Int → Int → Int → Int64 → Int → HS → Option (Int × HS)
  | 0, _, _, _, _, _, _, _ => none
  | nf + 1, x1, x2, x3, x4, x5, x7, h => if (64 : Int) ≤ wr x7 then fX0_countLegalMoves_b110 k5 x1 x2 x3 x4 h else if wr (zcmp (zushr x5 x7) (Int64.ofNat 0)) = 0 then fX0_countLegalMoves_b110 k5 x1 x2 x3 x4 h else if wr x2 ≤ wr x3 then fX0_countLegalMoves_b110 k5 x1 x2 x3 x4 h else if wr (zcmp ((zushr x5 x7) &&& (Int64.ofNat 1)) (Int64.ofNat 0)) = 0 then fX0_countLegalMoves_b104 k5 (fun a0 a1 a2 a3 a4 a5 hh => fX0_countLegalMoves_L56 k5 nf a0 a1 a2 a3 a4 a5 hh) x1 x2 x3 x4 x5 x7 h else (fX0_keepsRoyalsSafe x4 x7 h).bind fun r1 => if wr r1.1 = 0 then fX0_countLegalMoves_b104 k5 (fun a0 a1 a2 a3 a4 a5 hh => fX0_countLegalMoves_L56 k5 nf a0 a1 a2 a3 a4 a5 hh) x1 x2 x3 x4 x5 x7 r1.2 else fX0_countLegalMoves_b104 k5 (fun a0 a1 a2 a3 a4 a5 hh => fX0_countLegalMoves_L56 k5 nf a0 a1 a2 a3 a4 a5 hh) x1 x2 (x3 + 1) x4 x5 x7 r1.2
def fX0_countLegalMoves_b51 (k5 : Int → Int → Int → Int → HS → Option (Int × HS)) (x1 : Int) (x2 : Int) (x3 : Int) (x4 : Int) (s0 : Int64) (h : HS) : Option (Int × HS) := fX0_countLegalMoves_L56 k5 zF x1 x2 x3 x4 s0 0 h
def fX0_countLegalMoves_b50 (k5 : Int → Int → Int → Int → HS → Option (Int × HS)) (x1 : Int) (x2 : Int) (x3 : Int) (x4 : Int) (h : HS) : Option (Int × HS) := fX0_countLegalMoves_b51 k5 x1 x2 x3 x4 (Int64.ofNat 0) h
def fX0_countLegalMoves_L5 : Nat → Int → Int → Int → Int → HS → Option (Int × HS)
  | 0, _, _, _, _, _ => none
  | nf + 1, x1, x2, x3, x4, h => if (64 : Int) ≤ wr x4 then some (x3, h) else if wr x2 ≤ wr x3 then some (x3, h) else if (0 : Int) ≤ x4 ∧ x4 < 64 then if wr (h 8 x4) = ((-1) : Int) then fX0_countLegalMoves_b50 (fun a0 a1 a2 a3 hh => fX0_countLegalMoves_L5 nf a0 a1 a2 a3 hh) x1 x2 x3 x4 h else if (0 : Int) ≤ x4 ∧ x4 < 64 then if (0 : Int) ≤ (h 8 x4) ∧ (h 8 x4) < 2147483648 then if wr ((h 8 x4) % 2) = wr x1 then (fX0_reachedFrom x4 h).bind fun r2 => fX0_countLegalMoves_b51 (fun a0 a1 a2 a3 hh => fX0_countLegalMoves_L5 nf a0 a1 a2 a3 hh) x1 x2 x3 x4 r2 h else fX0_countLegalMoves_b50 (fun a0 a1 a2 a3 hh => fX0_countLegalMoves_L5 nf a0 a1 a2 a3 hh) x1 x2 x3 x4 h else none else none else none
def fX0_countLegalMoves (p1 : Int) (p2 : Int) (h : HS) : Option (Int × HS) := fX0_countLegalMoves_L5 zF p1 p2 0 0 h
set_option maxRecDepth 100000 in
set_option maxHeartbeats 4000000 in
theorem mX0_countLegalMoves {G : ZG} {l0 : Launch} {ad : Nat → Nat} {h0 : HS} {p1 : Int} {p2 : Int} {o : Int × HS} (hr : fX0_countLegalMoves p1 p2 h0 = some o) : ZMi G l0 yX0_countLegalMoves wsX0_countLegalMoves ({ frames := 3, cells := 0, slots := 0, locals := 85 }) [.ref (ad 7), .int (iI p1), .int (iI p2)] sh_6 ad h0 [8] o.1 o.2 := by
  refine ZMi.of (cc := cX0_countLegalMoves) (maxL := 8) (ret := (some .int)) (own := RX0) (lv0 := [(0, .ref (ad 7)), (1, .int (iI p1)), (2, .int (iI p2))]) (by decide) rfl rfl rfl (Nat.le_of_ble_eq_true rfl) rfl ?_
  intro X hX hQ
  have hf : zfr [8] h0 h0 := zfr_rf
  have fl_9 : zFld wsX0_countLegalMoves RX0 9 0 RX0 TX0 2 1 := ⟨by decide +kernel, by decide +kernel, by decide, rfl⟩
  have B5 : ∀ (nf : Nat) (x1 : Int) (x2 : Int) (x3 : Int) (x4 : Int) (h : HS), zfr [8] h0 h → fX0_countLegalMoves_L5 nf x1 x2 x3 x4 h = some o → ZW G X sh_6 ad h 0 0 [(0, .ref (ad 7)), (1, .int (iI x1)), (2, .int (iI x2)), (3, .int (iI x3)), (4, .int (iI x4))] 5 [] := by
    intro nf
    induction nf with
    | zero => intro x1 x2 x3 x4 h hf hr; exact z_none hr
    | succ n5 ih5 =>
      intro x1 x2 x3 x4 h hf hr
      have B110 : ∀ (x1 : Int) (x2 : Int) (x3 : Int) (x4 : Int) (h : HS), zfr [8] h0 h → fX0_countLegalMoves_b110 (fun a0 a1 a2 a3 hh => fX0_countLegalMoves_L5 n5 a0 a1 a2 a3 hh) x1 x2 x3 x4 h = some o → ZW G X sh_6 ad h 0 0 [(0, .ref (ad 7)), (1, .int (iI x1)), (2, .int (iI x2)), (3, .int (iI x3)), (4, .int (iI x4))] 110 [] := by
        intro x1 x2 x3 x4 h hf hr
        unfold fX0_countLegalMoves_b110 at hr
        refine z_iinc (lv1 := [(4, .int (iI (x4 + 1))), (0, .ref (ad 7)), (1, .int (iI x1)), (2, .int (iI x2)), (3, .int (iI x3))]) hX dX0_countLegalMoves_110 4 rfl (by decide) rfl ?_
        refine z_goto (tgt := 5) hX dX0_countLegalMoves_113 (by decide) ?_
        refine z_lv [1, 2, 3, 4, 0] rfl ?_
        exact ih5 x1 x2 x3 (x4 + 1) h hf hr
      have B56 : ∀ (nf : Nat) (x1 : Int) (x2 : Int) (x3 : Int) (x4 : Int) (x5 : Int64) (x7 : Int) (h : HS), zfr [8] h0 h → fX0_countLegalMoves_L56 (fun a0 a1 a2 a3 hh => fX0_countLegalMoves_L5 n5 a0 a1 a2 a3 hh) nf x1 x2 x3 x4 x5 x7 h = some o → ZW G X sh_6 ad h 0 0 [(0, .ref (ad 7)), (1, .int (iI x1)), (2, .int (iI x2)), (3, .int (iI x3)), (4, .int (iI x4)), (5, .long x5), (7, .int (iI x7))] 56 [] := by
        intro nf
        induction nf with
        | zero => intro x1 x2 x3 x4 x5 x7 h hf hr; exact z_none hr
        | succ n56 ih56 =>
          intro x1 x2 x3 x4 x5 x7 h hf hr
          have B104 : ∀ (x1 : Int) (x2 : Int) (x3 : Int) (x4 : Int) (x5 : Int64) (x7 : Int) (h : HS), zfr [8] h0 h → fX0_countLegalMoves_b104 (fun a0 a1 a2 a3 hh => fX0_countLegalMoves_L5 n5 a0 a1 a2 a3 hh) (fun a0 a1 a2 a3 a4 a5 hh => fX0_countLegalMoves_L56 (fun a0 a1 a2 a3 hh => fX0_countLegalMoves_L5 n5 a0 a1 a2 a3 hh) n56 a0 a1 a2 a3 a4 a5 hh) x1 x2 x3 x4 x5 x7 h = some o → ZW G X sh_6 ad h 0 0 [(0, .ref (ad 7)), (1, .int (iI x1)), (2, .int (iI x2)), (3, .int (iI x3)), (4, .int (iI x4)), (5, .long x5), (7, .int (iI x7))] 104 [] := by
            intro x1 x2 x3 x4 x5 x7 h hf hr
            unfold fX0_countLegalMoves_b104 at hr
            refine z_iinc (lv1 := [(7, .int (iI (x7 + 1))), (0, .ref (ad 7)), (1, .int (iI x1)), (2, .int (iI x2)), (3, .int (iI x3)), (4, .int (iI x4)), (5, .long x5)]) hX dX0_countLegalMoves_104 6 rfl (by decide) rfl ?_
            refine z_goto (tgt := 56) hX dX0_countLegalMoves_107 (by decide) ?_
            refine z_lv [1, 2, 3, 4, 5, 6, 0] rfl ?_
            exact ih56 x1 x2 x3 x4 x5 (x7 + 1) h hf hr
          unfold fX0_countLegalMoves_L56 at hr
          refine z_iload hX dX0_countLegalMoves_56 6 rfl ?_
          refine z_bipush hX dX0_countLegalMoves_58 (by decide +kernel) ?_
          refine z_icmp_ge (tgt := 110) hX dX0_countLegalMoves_60 (by decide) rfl (wr_of (by decide) (by decide)) hr (fun hr => ?_) (fun hr => ?_)
          · refine z_lv [0, 1, 2, 3, 4] rfl ?_
            exact B110 x1 x2 x3 x4 h hf hr
          · refine z_lload hX dX0_countLegalMoves_63 5 rfl ?_
            refine z_iload hX dX0_countLegalMoves_65 6 rfl ?_
            refine z_lushr hX dX0_countLegalMoves_67 ?_
            refine z_lconst hX dX0_countLegalMoves_68 ?_
            refine z_lcmp hX dX0_countLegalMoves_69 ?_
            refine z_if_eq (tgt := 110) hX dX0_countLegalMoves_70 (by decide) rfl hr (fun hr => ?_) (fun hr => ?_)
            · refine z_lv [0, 1, 2, 3, 4] rfl ?_
              exact B110 x1 x2 x3 x4 h hf hr
            · refine z_iload_n hX dX0_countLegalMoves_73 3 rfl ?_
              refine z_iload_n hX dX0_countLegalMoves_74 2 rfl ?_
              refine z_icmp_ge (tgt := 110) hX dX0_countLegalMoves_75 (by decide) rfl rfl hr (fun hr => ?_) (fun hr => ?_)
              · refine z_lv [0, 1, 2, 3, 4] rfl ?_
                exact B110 x1 x2 x3 x4 h hf hr
              · refine z_lload hX dX0_countLegalMoves_78 5 rfl ?_
                refine z_iload hX dX0_countLegalMoves_80 6 rfl ?_
                refine z_lushr hX dX0_countLegalMoves_82 ?_
                refine z_lconst hX dX0_countLegalMoves_83 ?_
                refine z_land hX dX0_countLegalMoves_84 ?_
                refine z_lconst hX dX0_countLegalMoves_85 ?_
                refine z_lcmp hX dX0_countLegalMoves_86 ?_
                refine z_if_eq (tgt := 104) hX dX0_countLegalMoves_87 (by decide) rfl hr (fun hr => ?_) (fun hr => ?_)
                · exact B104 x1 x2 x3 x4 x5 x7 h hf hr
                · refine z_aload_n hX dX0_countLegalMoves_90 0 rfl ?_
                  refine z_iload hX dX0_countLegalMoves_91 4 rfl ?_
                  refine z_iload hX dX0_countLegalMoves_93 6 rfl ?_
                  obtain ⟨r1, hc1, hr⟩ := z_bind hr
                  refine z_callV_i (As := [.int (iI x4), .int (iI x7)]) (k1 := 0) (n1 := 0) (nA := 2) hX (mX0_keepsRoyalsSafe hc1) dX0_countLegalMoves_95 gX0_countLegalMoves_X0_keepsRoyalsSafe rfl ⟨rfl, by decide, by decide, by decide +kernel⟩ ⟨by decide, by decide⟩ ⟨by decide, by decide⟩ 6 rfl rfl rfl rfl (Nat.le_of_ble_eq_true rfl) (by decide +kernel) rfl rfl (fun hg1 => ?_)
                  have hf : zfr [8] h0 r1.2 := zfr_tr hf (by decide) hg1
                  refine z_if_eq (tgt := 104) hX dX0_countLegalMoves_98 (by decide) rfl hr (fun hr => ?_) (fun hr => ?_)
                  · exact B104 x1 x2 x3 x4 x5 x7 r1.2 hf hr
                  · refine z_iinc (lv1 := [(3, .int (iI (x3 + 1))), (0, .ref (ad 7)), (1, .int (iI x1)), (2, .int (iI x2)), (4, .int (iI x4)), (5, .long x5), (7, .int (iI x7))]) hX dX0_countLegalMoves_101 3 rfl (by decide) rfl ?_
                    refine z_lv [1, 2, 3, 0, 4, 5, 6] rfl ?_
                    exact B104 x1 x2 (x3 + 1) x4 x5 x7 r1.2 hf hr
      have B51 : ∀ (x1 : Int) (x2 : Int) (x3 : Int) (x4 : Int) (s0 : Int64) (h : HS), zfr [8] h0 h → fX0_countLegalMoves_b51 (fun a0 a1 a2 a3 hh => fX0_countLegalMoves_L5 n5 a0 a1 a2 a3 hh) x1 x2 x3 x4 s0 h = some o → ZW G X sh_6 ad h 0 0 [(0, .ref (ad 7)), (1, .int (iI x1)), (2, .int (iI x2)), (3, .int (iI x3)), (4, .int (iI x4))] 51 [.long s0] := by
        intro x1 x2 x3 x4 s0 h hf hr
        unfold fX0_countLegalMoves_b51 at hr
        refine z_lstore (lv1 := [(5, .long s0), (0, .ref (ad 7)), (1, .int (iI x1)), (2, .int (iI x2)), (3, .int (iI x3)), (4, .int (iI x4))]) hX dX0_countLegalMoves_51 (by decide) rfl ?_
        refine z_iconst hX dX0_countLegalMoves_53 ?_
        refine z_istore (lv1 := [(7, .int (iI 0)), (5, .long s0), (0, .ref (ad 7)), (1, .int (iI x1)), (2, .int (iI x2)), (3, .int (iI x3)), (4, .int (iI x4))]) hX dX0_countLegalMoves_54 (by decide) rfl ?_
        refine z_lv [2, 3, 4, 5, 6, 1, 0] rfl ?_
        exact B56 zF x1 x2 x3 x4 s0 0 h hf hr
      have B50 : ∀ (x1 : Int) (x2 : Int) (x3 : Int) (x4 : Int) (h : HS), zfr [8] h0 h → fX0_countLegalMoves_b50 (fun a0 a1 a2 a3 hh => fX0_countLegalMoves_L5 n5 a0 a1 a2 a3 hh) x1 x2 x3 x4 h = some o → ZW G X sh_6 ad h 0 0 [(0, .ref (ad 7)), (1, .int (iI x1)), (2, .int (iI x2)), (3, .int (iI x3)), (4, .int (iI x4))] 50 [] := by
        intro x1 x2 x3 x4 h hf hr
        unfold fX0_countLegalMoves_b50 at hr
        refine z_lconst hX dX0_countLegalMoves_50 ?_
        exact B51 x1 x2 x3 x4 (Int64.ofNat 0) h hf hr
      unfold fX0_countLegalMoves_L5 at hr
      refine z_iload hX dX0_countLegalMoves_5 4 rfl ?_
      refine z_bipush hX dX0_countLegalMoves_7 (by decide +kernel) ?_
      refine z_icmp_ge (tgt := 116) hX dX0_countLegalMoves_9 (by decide) rfl (wr_of (by decide) (by decide)) hr (fun hr => ?_) (fun hr => ?_)
      · refine z_iload_n hX dX0_countLegalMoves_116 3 rfl ?_
        obtain rfl := Option.some.inj hr
        exact hQ _ _ dX0_countLegalMoves_117 hf
      · refine z_iload_n hX dX0_countLegalMoves_12 3 rfl ?_
        refine z_iload_n hX dX0_countLegalMoves_13 2 rfl ?_
        refine z_icmp_ge (tgt := 116) hX dX0_countLegalMoves_14 (by decide) rfl rfl hr (fun hr => ?_) (fun hr => ?_)
        · refine z_iload_n hX dX0_countLegalMoves_116 3 rfl ?_
          obtain rfl := Option.some.inj hr
          exact hQ _ _ dX0_countLegalMoves_117 hf
        · refine z_aload_n hX dX0_countLegalMoves_17 0 rfl ?_
          refine z_getR (j := 8) hX dX0_countLegalMoves_18 fl_9 6 rfl rfl ?_
          refine z_iload hX dX0_countLegalMoves_21 4 rfl ?_
          refine z_iaload (b := 64) hX dX0_countLegalMoves_23 7 rfl (by decide) rfl hr (fun hr => ?_)
          refine z_iconst hX dX0_countLegalMoves_24 ?_
          refine z_icmp_eq (tgt := 50) hX dX0_countLegalMoves_25 (by decide) rfl (wr_of (by decide) (by decide)) hr (fun hr => ?_) (fun hr => ?_)
          · exact B50 x1 x2 x3 x4 h hf hr
          · refine z_aload_n hX dX0_countLegalMoves_28 0 rfl ?_
            refine z_getR (j := 8) hX dX0_countLegalMoves_29 fl_9 6 rfl rfl ?_
            refine z_iload hX dX0_countLegalMoves_32 4 rfl ?_
            refine z_iaload (b := 64) hX dX0_countLegalMoves_34 7 rfl (by decide) rfl hr (fun hr => ?_)
            refine z_iconst hX dX0_countLegalMoves_35 ?_
            refine z_irem hX dX0_countLegalMoves_36 (by decide) hr (fun hr => ?_)
            refine z_iload_n hX dX0_countLegalMoves_37 1 rfl ?_
            refine z_icmp_ne (tgt := 50) hX dX0_countLegalMoves_38 (by decide) rfl rfl hr (fun hr => ?_) (fun hr => ?_)
            · exact B50 x1 x2 x3 x4 h hf hr
            · refine z_aload_n hX dX0_countLegalMoves_41 0 rfl ?_
              refine z_iload hX dX0_countLegalMoves_42 4 rfl ?_
              obtain ⟨r2, hc2, hr⟩ := z_bind hr
              refine z_callV_l (As := [.int (iI x4)]) (k1 := 0) (n1 := 0) (nA := 1) hX (mX0_reachedFrom hc2) dX0_countLegalMoves_44 gX0_countLegalMoves_X0_reachedFrom rfl ⟨rfl, by decide, by decide, by decide +kernel⟩ ⟨by decide, by decide⟩ ⟨by decide, by decide⟩ 6 rfl rfl rfl rfl (Nat.le_of_ble_eq_true rfl) (by decide +kernel) rfl rfl (fun hg2 => ?_)
              refine z_goto (tgt := 51) hX dX0_countLegalMoves_47 (by decide) ?_
              exact B51 x1 x2 x3 x4 r2 h hf hr
  unfold fX0_countLegalMoves at hr
  refine z_iconst hX dX0_countLegalMoves_0 ?_
  refine z_istore_n (lv1 := [(3, .int (iI 0)), (0, .ref (ad 7)), (1, .int (iI p1)), (2, .int (iI p2))]) hX dX0_countLegalMoves_1 (by decide) rfl ?_
  refine z_iconst hX dX0_countLegalMoves_2 ?_
  refine z_istore (lv1 := [(4, .int (iI 0)), (3, .int (iI 0)), (0, .ref (ad 7)), (1, .int (iI p1)), (2, .int (iI p2))]) hX dX0_countLegalMoves_3 (by decide) rfl ?_
  refine z_lv [2, 3, 4, 1, 0] rfl ?_
  exact B5 zF p1 p2 0 0 h0 hf hr

def fX0_signBehind_b47 (x1 : Int) (x2 : Int) (x4 : Int) (x5 : Int) (h : HS) : Option (Int × HS) := (fX0_takeBack x1 x2 x4 h).bind fun r1 => some (x5, r1)
def fX0_signBehind_b45 (x1 : Int) (x2 : Int) (x4 : Int) (s0 : Int) (h : HS) : Option (Int × HS) := fX0_signBehind_b47 x1 x2 x4 s0 h
def fX0_signBehind (p1 : Int) (p2 : Int) (h : HS) : Option (Int × HS) := (fX0_pieceOn p1 h).bind fun r2 => if (0 : Int) ≤ r2 ∧ r2 < 2147483648 then (fX0_move p1 p2 h).bind fun r3 => (fX0_inCheck (1 - (r2 % 2)) r3.2).bind fun r4 => if wr r4 = 0 then fX0_signBehind_b47 p1 p2 r3.1 (-1) r3.2 else (fX0_countLegalMoves (1 - (r2 % 2)) 1 r3.2).bind fun r5 => if wr r5.1 ≤ 0 then fX0_signBehind_b45 p1 p2 r3.1 35 r5.2 else fX0_signBehind_b45 p1 p2 r3.1 43 r5.2 else none
set_option maxRecDepth 100000 in
set_option maxHeartbeats 4000000 in
theorem mX0_signBehind {G : ZG} {l0 : Launch} {ad : Nat → Nat} {h0 : HS} {p1 : Int} {p2 : Int} {o : Int × HS} (hr : fX0_signBehind p1 p2 h0 = some o) : ZMi G l0 yX0_signBehind wsX0_signBehind ({ frames := 4, cells := 0, slots := 0, locals := 112 }) [.ref (ad 7), .int (iI p1), .int (iI p2)] sh_6 ad h0 [8] o.1 o.2 := by
  refine ZMi.of (cc := cX0_signBehind) (maxL := 6) (ret := (some .int)) (own := RX0) (lv0 := [(0, .ref (ad 7)), (1, .int (iI p1)), (2, .int (iI p2))]) (by decide) rfl rfl rfl (Nat.le_of_ble_eq_true rfl) rfl ?_
  intro X hX hQ
  have hf : zfr [8] h0 h0 := zfr_rf
  have B47 : ∀ (x1 : Int) (x2 : Int) (x4 : Int) (x5 : Int) (h : HS), zfr [8] h0 h → fX0_signBehind_b47 x1 x2 x4 x5 h = some o → ZW G X sh_6 ad h 0 0 [(0, .ref (ad 7)), (1, .int (iI x1)), (2, .int (iI x2)), (4, .int (iI x4)), (5, .int (iI x5))] 47 [] := by
    intro x1 x2 x4 x5 h hf hr
    unfold fX0_signBehind_b47 at hr
    refine z_aload_n hX dX0_signBehind_47 0 rfl ?_
    refine z_iload_n hX dX0_signBehind_48 1 rfl ?_
    refine z_iload_n hX dX0_signBehind_49 2 rfl ?_
    refine z_iload hX dX0_signBehind_50 3 rfl ?_
    obtain ⟨r1, hc1, hr⟩ := z_bind hr
    refine z_callV_v (As := [.int (iI x1), .int (iI x2), .int (iI x4)]) (k1 := 0) (n1 := 0) (nA := 3) hX (mX0_takeBack hc1) dX0_signBehind_52 gX0_signBehind_X0_takeBack rfl ⟨rfl, by decide, by decide, by decide +kernel⟩ ⟨by decide, by decide⟩ ⟨by decide, by decide⟩ 6 rfl rfl rfl rfl (Nat.le_of_ble_eq_true rfl) (by decide +kernel) rfl rfl (fun hg1 => ?_)
    have hf : zfr [8] h0 r1 := zfr_tr hf (by decide) hg1
    refine z_iload hX dX0_signBehind_55 4 rfl ?_
    obtain rfl := Option.some.inj hr
    exact hQ _ _ dX0_signBehind_57 hf
  have B45 : ∀ (x1 : Int) (x2 : Int) (x4 : Int) (s0 : Int) (h : HS), zfr [8] h0 h → fX0_signBehind_b45 x1 x2 x4 s0 h = some o → ZW G X sh_6 ad h 0 0 [(0, .ref (ad 7)), (1, .int (iI x1)), (2, .int (iI x2)), (4, .int (iI x4))] 45 [.int (iI s0)] := by
    intro x1 x2 x4 s0 h hf hr
    unfold fX0_signBehind_b45 at hr
    refine z_istore (lv1 := [(5, .int (iI s0)), (0, .ref (ad 7)), (1, .int (iI x1)), (2, .int (iI x2)), (4, .int (iI x4))]) hX dX0_signBehind_45 (by decide) rfl ?_
    refine z_lv [1, 2, 3, 4, 0] rfl ?_
    exact B47 x1 x2 x4 s0 h hf hr
  unfold fX0_signBehind at hr
  refine z_iconst hX dX0_signBehind_0 ?_
  refine z_aload_n hX dX0_signBehind_1 0 rfl ?_
  refine z_iload_n hX dX0_signBehind_2 1 rfl ?_
  obtain ⟨r2, hc2, hr⟩ := z_bind hr
  refine z_callV_i (As := [.int (iI p1)]) (k1 := 0) (n1 := 0) (nA := 1) hX (mX0_pieceOn hc2) dX0_signBehind_3 gX0_signBehind_X0_pieceOn rfl ⟨rfl, by decide, by decide, by decide +kernel⟩ ⟨by decide, by decide⟩ ⟨by decide, by decide⟩ 6 rfl rfl rfl rfl (Nat.le_of_ble_eq_true rfl) (by decide +kernel) rfl rfl (fun hg2 => ?_)
  refine z_iconst hX dX0_signBehind_6 ?_
  refine z_irem hX dX0_signBehind_7 (by decide) hr (fun hr => ?_)
  refine z_isub hX dX0_signBehind_8 ?_
  refine z_istore_n (lv1 := [(3, .int (iI (1 - (r2 % 2)))), (0, .ref (ad 7)), (1, .int (iI p1)), (2, .int (iI p2))]) hX dX0_signBehind_9 (by decide) rfl ?_
  refine z_aload_n hX dX0_signBehind_10 1 rfl ?_
  refine z_iload_n hX dX0_signBehind_11 2 rfl ?_
  refine z_iload_n hX dX0_signBehind_12 3 rfl ?_
  obtain ⟨r3, hc3, hr⟩ := z_bind hr
  refine z_callV_i (As := [.int (iI p1), .int (iI p2)]) (k1 := 0) (n1 := 0) (nA := 2) hX (mX0_move hc3) dX0_signBehind_13 gX0_signBehind_X0_move rfl ⟨rfl, by decide, by decide, by decide +kernel⟩ ⟨by decide, by decide⟩ ⟨by decide, by decide⟩ 6 rfl rfl rfl rfl (Nat.le_of_ble_eq_true rfl) (by decide +kernel) rfl rfl (fun hg3 => ?_)
  have hf : zfr [8] h0 r3.2 := zfr_tr hf (by decide) hg3
  refine z_istore (lv1 := [(4, .int (iI r3.1)), (3, .int (iI (1 - (r2 % 2)))), (0, .ref (ad 7)), (1, .int (iI p1)), (2, .int (iI p2))]) hX dX0_signBehind_16 (by decide) rfl ?_
  refine z_iconst hX dX0_signBehind_18 ?_
  refine z_istore (lv1 := [(5, .int (iI (-1))), (4, .int (iI r3.1)), (3, .int (iI (1 - (r2 % 2)))), (0, .ref (ad 7)), (1, .int (iI p1)), (2, .int (iI p2))]) hX dX0_signBehind_19 (by decide) rfl ?_
  refine z_aload_n hX dX0_signBehind_21 3 rfl ?_
  refine z_iload_n hX dX0_signBehind_22 2 rfl ?_
  obtain ⟨r4, hc4, hr⟩ := z_bind hr
  refine z_callV_i (As := [.int (iI (1 - (r2 % 2)))]) (k1 := 0) (n1 := 0) (nA := 1) hX (mX0_inCheck hc4) dX0_signBehind_23 gX0_signBehind_X0_inCheck rfl ⟨rfl, by decide, by decide, by decide +kernel⟩ ⟨by decide, by decide⟩ ⟨by decide, by decide⟩ 6 rfl rfl rfl rfl (Nat.le_of_ble_eq_true rfl) (by decide +kernel) rfl rfl (fun hg4 => ?_)
  refine z_if_eq (tgt := 47) hX dX0_signBehind_26 (by decide) rfl hr (fun hr => ?_) (fun hr => ?_)
  · refine z_lv [3, 4, 5, 1, 0] rfl ?_
    exact B47 p1 p2 r3.1 (-1) r3.2 hf hr
  · refine z_aload_n hX dX0_signBehind_29 3 rfl ?_
    refine z_iload_n hX dX0_signBehind_30 2 rfl ?_
    refine z_iconst hX dX0_signBehind_31 ?_
    obtain ⟨r5, hc5, hr⟩ := z_bind hr
    refine z_callV_i (As := [.int (iI (1 - (r2 % 2))), .int (iI 1)]) (k1 := 0) (n1 := 0) (nA := 2) hX (mX0_countLegalMoves hc5) dX0_signBehind_32 gX0_signBehind_X0_countLegalMoves rfl ⟨rfl, by decide, by decide, by decide +kernel⟩ ⟨by decide, by decide⟩ ⟨by decide, by decide⟩ 6 rfl rfl rfl rfl (Nat.le_of_ble_eq_true rfl) (by decide +kernel) rfl rfl (fun hg5 => ?_)
    have hf : zfr [8] h0 r5.2 := zfr_tr hf (by decide) hg5
    refine z_if_le (tgt := 43) hX dX0_signBehind_35 (by decide) rfl hr (fun hr => ?_) (fun hr => ?_)
    · refine z_bipush hX dX0_signBehind_43 (by decide +kernel) ?_
      refine z_lv [3, 4, 5, 1] rfl ?_
      exact B45 p1 p2 r3.1 35 r5.2 hf hr
    · refine z_bipush hX dX0_signBehind_38 (by decide +kernel) ?_
      refine z_goto (tgt := 45) hX dX0_signBehind_40 (by decide) ?_
      refine z_lv [3, 4, 5, 1] rfl ?_
      exact B45 p1 p2 r3.1 43 r5.2 hf hr

