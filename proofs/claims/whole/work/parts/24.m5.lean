def fX6_putBelow_b89 (kr : Int → HS → Option HS) (k2 : Int → HS → Option (HS)) (x2 : Int) (h : HS) : Option (HS) := (fX6_continuation0 x2 0 h).bind fun r1 => k2 r1 h
def fX6_putBelow_L30 (kr : Int → HS → Option HS) (k2 : Int → HS → Option (HS)) : Nat → Int → Int → HS → Option (HS)
  | 0, _, _, _ => none
  | nf + 1, x2, x3, h => (fX6_get x2 4 h).bind fun r2 => if wr r2 ≤ wr x3 then fX6_putBelow_b89 kr k2 x2 h else if wr (h 30 24) = 0 then (fX6_blank h).bind fun r3 => (fX6_put_ 40 r3).bind fun r4 => (fX6_continuation0 x2 x3 r4).bind fun r5 => (fX6_putNode r5 r4).bind fun r6 => (fX6_continuation0 x2 x3 r6).bind fun r7 => (kr r7 r6).bind fun r8 => (fX6_put_ 41 r8).bind fun r9 => fX6_putBelow_L30 kr k2 nf x2 (x3 + 1) r9 else fX6_putBelow_b89 kr k2 x2 h
def fX6_putBelow_L2 (kr : Int → HS → Option HS) : Nat → Int → HS → Option (HS)
  | 0, _, _ => none
  | nf + 1, x2, h => (fX6_get x2 4 h).bind fun r10 => if wr r10 ≤ 0 then some h else if wr (h 30 24) = 0 then (fX6_continuation0 x2 0 h).bind fun r11 => (fX6_putNode r11 h).bind fun r12 => fX6_putBelow_L30 kr (fun a0 hh => fX6_putBelow_L2 kr nf a0 hh) zF x2 1 r12 else some h
def fX6_putBelow_c (kr : Int → HS → Option HS) (p1 : Int) (h : HS) : Option (HS) := fX6_putBelow_L2 kr zF p1 h
def fX6_putBelow : Nat → Int → HS → Option HS
  | 0, _, _ => none
  | d + 1, p1, h => fX6_putBelow_c (fun a hh => fX6_putBelow d a hh) p1 h
set_option maxRecDepth 100000 in
set_option maxHeartbeats 4000000 in
theorem mX6_putBelow_c {G : ZG} {l0 : Launch} {ad : Nat → Nat} {h0 : HS} {p1 : Int} {o : HS} {d : Nat} {kr : Int → HS → Option HS} (hkr : ∀ {a : Int} {hh o : HS}, kr a hh = some o → ZMv G l0 yX6_putBelow wsX6_putBelow ({ frames := 9 + d, cells := 0, slots := 0, locals := 221 + 23 * d }) [.ref (ad 30), .int (iI a)] sh_8 ad hh [30, 35, 36, 40, 41] o) (hr : fX6_putBelow_c kr p1 h0 = some o) : ZMv G l0 yX6_putBelow wsX6_putBelow ({ frames := 9 + (d + 1), cells := 0, slots := 0, locals := 221 + 23 * (d + 1) }) [.ref (ad 30), .int (iI p1)] sh_8 ad h0 [30, 35, 36, 40, 41] o := by
  refine ZMv.of (cc := cX6_putBelow) (maxL := 4) (ret := none) (own := RX6) (lv0 := [(0, .ref (ad 30)), (1, .int (iI p1))]) (by decide) rfl rfl rfl (Nat.le_of_ble_eq_true rfl) rfl ?_
  intro X hX hQ
  have hf : zfr [30, 35, 36, 40, 41] h0 h0 := zfr_rf
  have fl_202 : zFld wsX6_putBelow RX6 202 6 RX6 TX6 26 24 := ⟨by decide +kernel, by decide +kernel, by decide, rfl⟩
  have B2 : ∀ (nf : Nat) (x2 : Int) (h : HS), zfr [30, 35, 36, 40, 41] h0 h → fX6_putBelow_L2 kr nf x2 h = some o → ZW G X sh_8 ad h 0 0 [(0, .ref (ad 30)), (2, .int (iI x2))] 2 [] := by
    intro nf
    induction nf with
    | zero => intro x2 h hf hr; exact z_none hr
    | succ n2 ih2 =>
      intro x2 h hf hr
      have B89 : ∀ (x2 : Int) (h : HS), zfr [30, 35, 36, 40, 41] h0 h → fX6_putBelow_b89 kr (fun a0 hh => fX6_putBelow_L2 kr n2 a0 hh) x2 h = some o → ZW G X sh_8 ad h 0 0 [(0, .ref (ad 30)), (2, .int (iI x2))] 89 [] := by
        intro x2 h hf hr
        unfold fX6_putBelow_b89 at hr
        refine z_aload_n hX dX6_putBelow_89 0 rfl ?_
        refine z_iload_n hX dX6_putBelow_90 1 rfl ?_
        refine z_iconst hX dX6_putBelow_91 ?_
        obtain ⟨r1, hc1, hr⟩ := z_bind hr
        refine z_callV_i (As := [.int (iI x2), .int (iI 0)]) (k1 := 0) (n1 := 0) (nA := 2) hX (mX6_continuation0 hc1) dX6_putBelow_92 gX6_putBelow_X6_continuation0 rfl ⟨rfl, by decide, by decide, by decide +kernel⟩ ⟨by dsimp only; omega, by dsimp only; omega⟩ ⟨by dsimp only; omega, by dsimp only; omega⟩ 0 rfl rfl rfl rfl (Nat.le_of_ble_eq_true rfl) (by decide +kernel) rfl rfl (fun hg1 => ?_)
        refine z_istore_n (lv1 := [(2, .int (iI r1)), (0, .ref (ad 30))]) hX dX6_putBelow_95 (by decide) rfl ?_
        refine z_goto (tgt := 2) hX dX6_putBelow_96 (by decide) ?_
        refine z_lv [1, 0] rfl ?_
        exact ih2 r1 h hf hr
      have B30 : ∀ (nf : Nat) (x2 : Int) (x3 : Int) (h : HS), zfr [30, 35, 36, 40, 41] h0 h → fX6_putBelow_L30 kr (fun a0 hh => fX6_putBelow_L2 kr n2 a0 hh) nf x2 x3 h = some o → ZW G X sh_8 ad h 0 0 [(0, .ref (ad 30)), (2, .int (iI x2)), (3, .int (iI x3))] 30 [] := by
        intro nf
        induction nf with
        | zero => intro x2 x3 h hf hr; exact z_none hr
        | succ n30 ih30 =>
          intro x2 x3 h hf hr
          unfold fX6_putBelow_L30 at hr
          refine z_iload_n hX dX6_putBelow_30 2 rfl ?_
          refine z_aload_n hX dX6_putBelow_31 0 rfl ?_
          refine z_iload_n hX dX6_putBelow_32 1 rfl ?_
          refine z_iconst hX dX6_putBelow_33 ?_
          obtain ⟨r2, hc2, hr⟩ := z_bind hr
          refine z_callV_i (As := [.int (iI x2), .int (iI 4)]) (k1 := 0) (n1 := 0) (nA := 2) hX (mX6_get hc2) dX6_putBelow_34 gX6_putBelow_X6_get rfl ⟨rfl, by decide, by decide, by decide +kernel⟩ ⟨by dsimp only; omega, by dsimp only; omega⟩ ⟨by dsimp only; omega, by dsimp only; omega⟩ 0 rfl rfl rfl rfl (Nat.le_of_ble_eq_true rfl) (by decide +kernel) rfl rfl (fun hg2 => ?_)
          refine z_icmp_ge (tgt := 89) hX dX6_putBelow_37 (by decide) rfl rfl hr (fun hr => ?_) (fun hr => ?_)
          · refine z_lv [0, 1] rfl ?_
            exact B89 x2 h hf hr
          · refine z_aload_n hX dX6_putBelow_40 0 rfl ?_
            refine z_getI hX dX6_putBelow_41 fl_202 0 rfl rfl ?_
            refine z_if_ne (tgt := 89) hX dX6_putBelow_44 (by decide) rfl hr (fun hr => ?_) (fun hr => ?_)
            · refine z_lv [0, 1] rfl ?_
              exact B89 x2 h hf hr
            · refine z_aload_n hX dX6_putBelow_47 0 rfl ?_
              obtain ⟨r3, hc3, hr⟩ := z_bind hr
              refine z_callV_v (As := []) (k1 := 0) (n1 := 0) (nA := 0) hX (mX6_blank hc3) dX6_putBelow_48 gX6_putBelow_X6_blank rfl ⟨rfl, by decide, by decide, by decide +kernel⟩ ⟨by dsimp only; omega, by dsimp only; omega⟩ ⟨by dsimp only; omega, by dsimp only; omega⟩ 0 rfl rfl rfl rfl (Nat.le_of_ble_eq_true rfl) (by decide +kernel) rfl rfl (fun hg3 => ?_)
              have hf : zfr [30, 35, 36, 40, 41] h0 r3 := zfr_tr hf (by decide) hg3
              refine z_aload_n hX dX6_putBelow_51 0 rfl ?_
              refine z_bipush hX dX6_putBelow_52 (by decide +kernel) ?_
              obtain ⟨r4, hc4, hr⟩ := z_bind hr
              refine z_callV_v (As := [.int (iI 40)]) (k1 := 0) (n1 := 0) (nA := 1) hX (mX6_put_ hc4) dX6_putBelow_54 gX6_putBelow_X6_put_ rfl ⟨rfl, by decide, by decide, by decide +kernel⟩ ⟨by dsimp only; omega, by dsimp only; omega⟩ ⟨by dsimp only; omega, by dsimp only; omega⟩ 0 rfl rfl rfl rfl (Nat.le_of_ble_eq_true rfl) (by decide +kernel) rfl rfl (fun hg4 => ?_)
              have hf : zfr [30, 35, 36, 40, 41] h0 r4 := zfr_tr hf (by decide) hg4
              refine z_aload_n hX dX6_putBelow_57 0 rfl ?_
              refine z_aload_n hX dX6_putBelow_58 0 rfl ?_
              refine z_iload_n hX dX6_putBelow_59 1 rfl ?_
              refine z_iload_n hX dX6_putBelow_60 2 rfl ?_
              obtain ⟨r5, hc5, hr⟩ := z_bind hr
              refine z_callV_i (As := [.int (iI x2), .int (iI x3)]) (k1 := 0) (n1 := 0) (nA := 2) hX (mX6_continuation0 hc5) dX6_putBelow_61 gX6_putBelow_X6_continuation0 rfl ⟨rfl, by decide, by decide, by decide +kernel⟩ ⟨by dsimp only; omega, by dsimp only; omega⟩ ⟨by dsimp only; omega, by dsimp only; omega⟩ 0 rfl rfl rfl rfl (Nat.le_of_ble_eq_true rfl) (by decide +kernel) rfl rfl (fun hg5 => ?_)
              obtain ⟨r6, hc6, hr⟩ := z_bind hr
              refine z_callV_v (As := [.int (iI r5)]) (k1 := 0) (n1 := 0) (nA := 1) hX (mX6_putNode hc6) dX6_putBelow_64 gX6_putBelow_X6_putNode rfl ⟨rfl, by decide, by decide, by decide +kernel⟩ ⟨by dsimp only; omega, by dsimp only; omega⟩ ⟨by dsimp only; omega, by dsimp only; omega⟩ 0 rfl rfl rfl rfl (Nat.le_of_ble_eq_true rfl) (by decide +kernel) rfl rfl (fun hg6 => ?_)
              have hf : zfr [30, 35, 36, 40, 41] h0 r6 := zfr_tr hf (by decide) hg6
              refine z_aload_n hX dX6_putBelow_67 0 rfl ?_
              refine z_aload_n hX dX6_putBelow_68 0 rfl ?_
              refine z_iload_n hX dX6_putBelow_69 1 rfl ?_
              refine z_iload_n hX dX6_putBelow_70 2 rfl ?_
              obtain ⟨r7, hc7, hr⟩ := z_bind hr
              refine z_callV_i (As := [.int (iI x2), .int (iI x3)]) (k1 := 0) (n1 := 0) (nA := 2) hX (mX6_continuation0 hc7) dX6_putBelow_71 gX6_putBelow_X6_continuation0 rfl ⟨rfl, by decide, by decide, by decide +kernel⟩ ⟨by dsimp only; omega, by dsimp only; omega⟩ ⟨by dsimp only; omega, by dsimp only; omega⟩ 0 rfl rfl rfl rfl (Nat.le_of_ble_eq_true rfl) (by decide +kernel) rfl rfl (fun hg7 => ?_)
              obtain ⟨r8, hc8, hr⟩ := z_bind hr
              refine z_callV_v (As := [.int (iI r7)]) (k1 := 0) (n1 := 0) (nA := 1) hX (hkr hc8) dX6_putBelow_74 gX6_putBelow_X6_putBelow rfl ⟨rfl, by decide, by decide, by decide +kernel⟩ ⟨by dsimp only; omega, by dsimp only; omega⟩ ⟨by dsimp only; omega, by dsimp only; omega⟩ 0 rfl rfl rfl rfl (Nat.le_of_ble_eq_true rfl) (by decide +kernel) rfl rfl (fun hg8 => ?_)
              have hf : zfr [30, 35, 36, 40, 41] h0 r8 := zfr_tr hf (by decide) hg8
              refine z_aload_n hX dX6_putBelow_77 0 rfl ?_
              refine z_bipush hX dX6_putBelow_78 (by decide +kernel) ?_
              obtain ⟨r9, hc9, hr⟩ := z_bind hr
              refine z_callV_v (As := [.int (iI 41)]) (k1 := 0) (n1 := 0) (nA := 1) hX (mX6_put_ hc9) dX6_putBelow_80 gX6_putBelow_X6_put_ rfl ⟨rfl, by decide, by decide, by decide +kernel⟩ ⟨by dsimp only; omega, by dsimp only; omega⟩ ⟨by dsimp only; omega, by dsimp only; omega⟩ 0 rfl rfl rfl rfl (Nat.le_of_ble_eq_true rfl) (by decide +kernel) rfl rfl (fun hg9 => ?_)
              have hf : zfr [30, 35, 36, 40, 41] h0 r9 := zfr_tr hf (by decide) hg9
              refine z_iinc (lv1 := [(3, .int (iI (x3 + 1))), (0, .ref (ad 30)), (2, .int (iI x2))]) hX dX6_putBelow_83 2 rfl (by decide) rfl ?_
              refine z_goto (tgt := 30) hX dX6_putBelow_86 (by decide) ?_
              refine z_lv [1, 2, 0] rfl ?_
              exact ih30 x2 (x3 + 1) r9 hf hr
      unfold fX6_putBelow_L2 at hr
      refine z_aload_n hX dX6_putBelow_2 0 rfl ?_
      refine z_iload_n hX dX6_putBelow_3 1 rfl ?_
      refine z_iconst hX dX6_putBelow_4 ?_
      obtain ⟨r10, hc10, hr⟩ := z_bind hr
      refine z_callV_i (As := [.int (iI x2), .int (iI 4)]) (k1 := 0) (n1 := 0) (nA := 2) hX (mX6_get hc10) dX6_putBelow_5 gX6_putBelow_X6_get rfl ⟨rfl, by decide, by decide, by decide +kernel⟩ ⟨by dsimp only; omega, by dsimp only; omega⟩ ⟨by dsimp only; omega, by dsimp only; omega⟩ 0 rfl rfl rfl rfl (Nat.le_of_ble_eq_true rfl) (by decide +kernel) rfl rfl (fun hg10 => ?_)
      refine z_if_le (tgt := 99) hX dX6_putBelow_8 (by decide) rfl hr (fun hr => ?_) (fun hr => ?_)
      · obtain rfl := Option.some.inj hr
        exact hQ _ _ dX6_putBelow_99 hf
      · refine z_aload_n hX dX6_putBelow_11 0 rfl ?_
        refine z_getI hX dX6_putBelow_12 fl_202 0 rfl rfl ?_
        refine z_if_ne (tgt := 99) hX dX6_putBelow_15 (by decide) rfl hr (fun hr => ?_) (fun hr => ?_)
        · obtain rfl := Option.some.inj hr
          exact hQ _ _ dX6_putBelow_99 hf
        · refine z_aload_n hX dX6_putBelow_18 0 rfl ?_
          refine z_aload_n hX dX6_putBelow_19 0 rfl ?_
          refine z_iload_n hX dX6_putBelow_20 1 rfl ?_
          refine z_iconst hX dX6_putBelow_21 ?_
          obtain ⟨r11, hc11, hr⟩ := z_bind hr
          refine z_callV_i (As := [.int (iI x2), .int (iI 0)]) (k1 := 0) (n1 := 0) (nA := 2) hX (mX6_continuation0 hc11) dX6_putBelow_22 gX6_putBelow_X6_continuation0 rfl ⟨rfl, by decide, by decide, by decide +kernel⟩ ⟨by dsimp only; omega, by dsimp only; omega⟩ ⟨by dsimp only; omega, by dsimp only; omega⟩ 0 rfl rfl rfl rfl (Nat.le_of_ble_eq_true rfl) (by decide +kernel) rfl rfl (fun hg11 => ?_)
          obtain ⟨r12, hc12, hr⟩ := z_bind hr
          refine z_callV_v (As := [.int (iI r11)]) (k1 := 0) (n1 := 0) (nA := 1) hX (mX6_putNode hc12) dX6_putBelow_25 gX6_putBelow_X6_putNode rfl ⟨rfl, by decide, by decide, by decide +kernel⟩ ⟨by dsimp only; omega, by dsimp only; omega⟩ ⟨by dsimp only; omega, by dsimp only; omega⟩ 0 rfl rfl rfl rfl (Nat.le_of_ble_eq_true rfl) (by decide +kernel) rfl rfl (fun hg12 => ?_)
          have hf : zfr [30, 35, 36, 40, 41] h0 r12 := zfr_tr hf (by decide) hg12
          refine z_iconst hX dX6_putBelow_28 ?_
          refine z_istore_n (lv1 := [(3, .int (iI 1)), (0, .ref (ad 30)), (2, .int (iI x2))]) hX dX6_putBelow_29 (by decide) rfl ?_
          refine z_lv [1, 2, 0] rfl ?_
          exact B30 zF x2 1 r12 hf hr
  unfold fX6_putBelow_c at hr
  refine z_iload_n hX dX6_putBelow_0 1 rfl ?_
  refine z_istore_n (lv1 := [(2, .int (iI p1)), (0, .ref (ad 30)), (1, .int (iI p1))]) hX dX6_putBelow_1 (by decide) rfl ?_
  refine z_lv [1, 0] rfl ?_
  exact B2 zF p1 h0 hf hr
theorem mX6_putBelow {G : ZG} {l0 : Launch} {ad : Nat → Nat} : ∀ (d : Nat) {h0 : HS} {p1 : Int} {o : HS}, fX6_putBelow d p1 h0 = some o → ZMv G l0 yX6_putBelow wsX6_putBelow ({ frames := 9 + d, cells := 0, slots := 0, locals := 221 + 23 * d }) [.ref (ad 30), .int (iI p1)] sh_8 ad h0 [30, 35, 36, 40, 41] o
  | 0, _, _, _, hr => z_none hr
  | d + 1, _, _, _, hr => mX6_putBelow_c (fun e => mX6_putBelow d e) hr

def fX6_writeGame (h : HS) : Option (Int × HS) := if (0 : Int) = 0 ∨ (0 : Int) = 1 then (fX6_putBelow 201 0 (hs (hs (hs h 30 0 0) 30 23 0) 30 24 0)).bind fun r1 => (fX6_set (r1 30 9) r1).bind fun r2 => if wr (r2 30 24) = 0 then (fX6_toTape r2).bind fun r3 => some (r3.1, r3.2) else (fX6_fail 1 r2).bind fun r4 => some (r4.1, r4.2) else none
set_option maxRecDepth 100000 in
set_option maxHeartbeats 4000000 in
theorem mX6_writeGame {G : ZG} {l0 : Launch} {ad : Nat → Nat} {h0 : HS} {o : Int × HS} (hr : fX6_writeGame h0 = some o) : ZMi G l0 yX6_writeGame wsX6_writeGame ({ frames := 211, cells := 0, slots := 0, locals := 4867 }) [.ref (ad 30)] sh_8 ad h0 [30, 35, 36, 39, 40, 41] o.1 o.2 := by
  refine ZMi.of (cc := cX6_writeGame) (maxL := 1) (ret := (some .int)) (own := RX6) (lv0 := [(0, .ref (ad 30))]) (by decide) rfl rfl rfl (Nat.le_of_ble_eq_true rfl) rfl ?_
  intro X hX hQ
  have hf : zfr [30, 35, 36, 39, 40, 41] h0 h0 := zfr_rf
  have fl_202 : zFld wsX6_writeGame RX6 202 6 RX6 TX6 26 24 := ⟨by decide +kernel, by decide +kernel, by decide, rfl⟩
  have fl_206 : zFld wsX6_writeGame RX6 206 6 RX6 TX6 26 23 := ⟨by decide +kernel, by decide +kernel, by decide, rfl⟩
  have fl_66 : zFld wsX6_writeGame RX6 66 6 RX6 TX6 26 0 := ⟨by decide +kernel, by decide +kernel, by decide, rfl⟩
  have fl_95 : zFld wsX6_writeGame RX6 95 6 RX6 TX6 26 9 := ⟨by decide +kernel, by decide +kernel, by decide, rfl⟩
  have pu_X6_0 : zPut TX6 26 0 tyX6 .int := ⟨tyX6_ok, nmX6, rfl, by decide +kernel⟩
  have pu_X6_23 : zPut TX6 26 23 tyX6 .int := ⟨tyX6_ok, nmX6, rfl, by decide +kernel⟩
  have pu_X6_24 : zPut TX6 26 24 tyX6 .boolean := ⟨tyX6_ok, nmX6, rfl, by decide +kernel⟩
  unfold fX6_writeGame at hr
  refine z_aload_n hX dX6_writeGame_0 0 rfl ?_
  refine z_iconst hX dX6_writeGame_1 ?_
  refine z_putI hX dX6_writeGame_2 fl_66 pu_X6_0 0 rfl rfl ?_
  have hf : zfr [30, 35, 36, 39, 40, 41] h0 (hs h0 30 0 0) := zfr_hs hf (by decide)
  refine z_aload_n hX dX6_writeGame_5 0 rfl ?_
  refine z_iconst hX dX6_writeGame_6 ?_
  refine z_putI hX dX6_writeGame_7 fl_206 pu_X6_23 0 rfl rfl ?_
  have hf : zfr [30, 35, 36, 39, 40, 41] h0 (hs (hs h0 30 0 0) 30 23 0) := zfr_hs hf (by decide)
  refine z_aload_n hX dX6_writeGame_10 0 rfl ?_
  refine z_iconst hX dX6_writeGame_11 ?_
  refine z_putZ hX dX6_writeGame_12 fl_202 pu_X6_24 0 rfl rfl hr (fun hr => ?_)
  have hf : zfr [30, 35, 36, 39, 40, 41] h0 (hs (hs (hs h0 30 0 0) 30 23 0) 30 24 0) := zfr_hs hf (by decide)
  refine z_aload_n hX dX6_writeGame_15 0 rfl ?_
  refine z_iconst hX dX6_writeGame_16 ?_
  obtain ⟨r1, hc1, hr⟩ := z_bind hr
  refine z_callV_v (As := [.int (iI 0)]) (k1 := 0) (n1 := 0) (nA := 1) hX (mX6_putBelow 201 hc1) dX6_writeGame_17 gX6_writeGame_X6_putBelow rfl ⟨rfl, by decide, by decide, by decide +kernel⟩ ⟨by decide, by decide⟩ ⟨by decide, by decide⟩ 0 rfl rfl rfl rfl (Nat.le_of_ble_eq_true rfl) (by decide +kernel) rfl rfl (fun hg1 => ?_)
  have hf : zfr [30, 35, 36, 39, 40, 41] h0 r1 := zfr_tr hf (by decide) hg1
  refine z_aload_n hX dX6_writeGame_20 0 rfl ?_
  refine z_aload_n hX dX6_writeGame_21 0 rfl ?_
  refine z_getI hX dX6_writeGame_22 fl_95 0 rfl rfl ?_
  obtain ⟨r2, hc2, hr⟩ := z_bind hr
  refine z_callV_v (As := [.int (iI (r1 30 9))]) (k1 := 0) (n1 := 0) (nA := 1) hX (mX6_set hc2) dX6_writeGame_25 gX6_writeGame_X6_set rfl ⟨rfl, by decide, by decide, by decide +kernel⟩ ⟨by decide, by decide⟩ ⟨by decide, by decide⟩ 0 rfl rfl rfl rfl (Nat.le_of_ble_eq_true rfl) (by decide +kernel) rfl rfl (fun hg2 => ?_)
  have hf : zfr [30, 35, 36, 39, 40, 41] h0 r2 := zfr_tr hf (by decide) hg2
  refine z_aload_n hX dX6_writeGame_28 0 rfl ?_
  refine z_getI hX dX6_writeGame_29 fl_202 0 rfl rfl ?_
  refine z_if_eq (tgt := 43) hX dX6_writeGame_32 (by decide) rfl hr (fun hr => ?_) (fun hr => ?_)
  · refine z_aload_n hX dX6_writeGame_43 0 rfl ?_
    obtain ⟨r3, hc3, hr⟩ := z_bind hr
    refine z_callV_i (As := []) (k1 := 0) (n1 := 0) (nA := 0) hX (mX6_toTape hc3) dX6_writeGame_44 gX6_writeGame_X6_toTape rfl ⟨rfl, by decide, by decide, by decide +kernel⟩ ⟨by decide, by decide⟩ ⟨by decide, by decide⟩ 0 rfl rfl rfl rfl (Nat.le_of_ble_eq_true rfl) (by decide +kernel) rfl rfl (fun hg3 => ?_)
    have hf : zfr [30, 35, 36, 39, 40, 41] h0 r3.2 := zfr_tr hf (by decide) hg3
    obtain rfl := Option.some.inj hr
    exact hQ _ _ dX6_writeGame_47 hf
  · refine z_aload_n hX dX6_writeGame_35 0 rfl ?_
    refine z_iconst hX dX6_writeGame_36 ?_
    obtain ⟨r4, hc4, hr⟩ := z_bind hr
    refine z_callV_i (As := [.int (iI 1)]) (k1 := 0) (n1 := 0) (nA := 1) hX (mX6_fail hc4) dX6_writeGame_37 gX6_writeGame_X6_fail rfl ⟨rfl, by decide, by decide, by decide +kernel⟩ ⟨by decide, by decide⟩ ⟨by decide, by decide⟩ 0 rfl rfl rfl rfl (Nat.le_of_ble_eq_true rfl) (by decide +kernel) rfl rfl (fun hg4 => ?_)
    have hf : zfr [30, 35, 36, 39, 40, 41] h0 r4.2 := zfr_tr hf (by decide) hg4
    refine z_goto (tgt := 47) hX dX6_writeGame_40 (by decide) ?_
    obtain rfl := Option.some.inj hr
    exact hQ _ _ dX6_writeGame_47 hf

def fX6_clearNodes (h : HS) : Option (HS) := if (0 : Int) ≤ 4 ∧ 4 < 1000 then (fX6_set 0 (hs (hs (hs h 30 8 1) 37 4 0) 30 9 0)).bind fun r1 => some r1 else none
set_option maxRecDepth 100000 in
set_option maxHeartbeats 4000000 in
theorem mX6_clearNodes {G : ZG} {l0 : Launch} {ad : Nat → Nat} {h0 : HS} {o : HS} (hr : fX6_clearNodes h0 = some o) : ZMv G l0 yX6_clearNodes wsX6_clearNodes ({ frames := 2, cells := 0, slots := 0, locals := 63 }) [.ref (ad 30)] sh_8 ad h0 [30, 35, 37, 40] o := by
  refine ZMv.of (cc := cX6_clearNodes) (maxL := 1) (ret := none) (own := RX6) (lv0 := [(0, .ref (ad 30))]) (by decide) rfl rfl rfl (Nat.le_of_ble_eq_true rfl) rfl ?_
  intro X hX hQ
  have hf : zfr [30, 35, 37, 40] h0 h0 := zfr_rf
  have fl_28 : zFld wsX6_clearNodes RX6 28 6 RX6 TX6 26 8 := ⟨by decide +kernel, by decide +kernel, by decide, rfl⟩
  have fl_32 : zFld wsX6_clearNodes RX6 32 6 RX6 TX6 26 10 := ⟨by decide +kernel, by decide +kernel, by decide, rfl⟩
  have fl_95 : zFld wsX6_clearNodes RX6 95 6 RX6 TX6 26 9 := ⟨by decide +kernel, by decide +kernel, by decide, rfl⟩
  have pu_X6_8 : zPut TX6 26 8 tyX6 .int := ⟨tyX6_ok, nmX6, rfl, by decide +kernel⟩
  have pu_X6_9 : zPut TX6 26 9 tyX6 .int := ⟨tyX6_ok, nmX6, rfl, by decide +kernel⟩
  unfold fX6_clearNodes at hr
  refine z_aload_n hX dX6_clearNodes_0 0 rfl ?_
  refine z_iconst hX dX6_clearNodes_1 ?_
  refine z_putI hX dX6_clearNodes_2 fl_28 pu_X6_8 0 rfl rfl ?_
  have hf : zfr [30, 35, 37, 40] h0 (hs h0 30 8 1) := zfr_hs hf (by decide)
  refine z_aload_n hX dX6_clearNodes_5 0 rfl ?_
  refine z_getR (j := 37) hX dX6_clearNodes_6 fl_32 0 rfl rfl ?_
  refine z_iconst hX dX6_clearNodes_9 ?_
  refine z_iconst hX dX6_clearNodes_10 ?_
  refine z_iastore (b := 1000) hX dX6_clearNodes_11 7 rfl (by decide) rfl hr (fun hr => ?_)
  have hf : zfr [30, 35, 37, 40] h0 (hs (hs h0 30 8 1) 37 4 0) := zfr_hs hf (by decide)
  refine z_aload_n hX dX6_clearNodes_12 0 rfl ?_
  refine z_iconst hX dX6_clearNodes_13 ?_
  refine z_putI hX dX6_clearNodes_14 fl_95 pu_X6_9 0 rfl rfl ?_
  have hf : zfr [30, 35, 37, 40] h0 (hs (hs (hs h0 30 8 1) 37 4 0) 30 9 0) := zfr_hs hf (by decide)
  refine z_aload_n hX dX6_clearNodes_17 0 rfl ?_
  refine z_iconst hX dX6_clearNodes_18 ?_
  obtain ⟨r1, hc1, hr⟩ := z_bind hr
  refine z_callV_v (As := [.int (iI 0)]) (k1 := 0) (n1 := 0) (nA := 1) hX (mX6_set hc1) dX6_clearNodes_19 gX6_clearNodes_X6_set rfl ⟨rfl, by decide, by decide, by decide +kernel⟩ ⟨by decide, by decide⟩ ⟨by decide, by decide⟩ 0 rfl rfl rfl rfl (Nat.le_of_ble_eq_true rfl) (by decide +kernel) rfl rfl (fun hg1 => ?_)
  have hf : zfr [30, 35, 37, 40] h0 r1 := zfr_tr hf (by decide) hg1
  obtain rfl := Option.some.inj hr
  exact hQ _ _ dX6_clearNodes_22 hf

def fX6_stop (p1 : Int) (p2 : Int) (h : HS) : Option (Int × HS) := some (p1, (hs h 30 14 p2))
set_option maxRecDepth 100000 in
set_option maxHeartbeats 4000000 in
theorem mX6_stop {G : ZG} {l0 : Launch} {ad : Nat → Nat} {h0 : HS} {p1 : Int} {p2 : Int} {o : Int × HS} (hr : fX6_stop p1 p2 h0 = some o) : ZMi G l0 yX6_stop wsX6_stop ({ frames := 0, cells := 0, slots := 0, locals := 0 }) [.ref (ad 30), .int (iI p1), .int (iI p2)] sh_8 ad h0 [30] o.1 o.2 := by
  refine ZMi.of (cc := cX6_stop) (maxL := 3) (ret := (some .int)) (own := RX6) (lv0 := [(0, .ref (ad 30)), (1, .int (iI p1)), (2, .int (iI p2))]) (by decide) rfl rfl rfl (Nat.le_of_ble_eq_true rfl) rfl ?_
  intro X hX hQ
  have hf : zfr [30] h0 h0 := zfr_rf
  have fl_42 : zFld wsX6_stop RX6 42 6 RX6 TX6 26 14 := ⟨by decide +kernel, by decide +kernel, by decide, rfl⟩
  have pu_X6_14 : zPut TX6 26 14 tyX6 .int := ⟨tyX6_ok, nmX6, rfl, by decide +kernel⟩
  unfold fX6_stop at hr
  refine z_aload_n hX dX6_stop_0 0 rfl ?_
  refine z_iload_n hX dX6_stop_1 2 rfl ?_
  refine z_putI hX dX6_stop_2 fl_42 pu_X6_14 0 rfl rfl ?_
  have hf : zfr [30] h0 (hs h0 30 14 p2) := zfr_hs hf (by decide)
  refine z_iload_n hX dX6_stop_5 1 rfl ?_
  obtain rfl := Option.some.inj hr
  exact hQ _ _ dX6_stop_6 hf

def fX6_isWord (p1 : Int) (h : HS) : Option (Int) := if wr (h 30 13) ≤ wr p1 then some 0 else if (0 : Int) ≤ p1 ∧ p1 < 2000 then if wr (h 39 p1) = (32 : Int) then some 0 else if (0 : Int) ≤ p1 ∧ p1 < 2000 then if wr (h 39 p1) = (40 : Int) then some 0 else if (0 : Int) ≤ p1 ∧ p1 < 2000 then if wr (h 39 p1) = (41 : Int) then some 0 else some 1 else none else none else none
set_option maxRecDepth 100000 in
set_option maxHeartbeats 4000000 in
theorem mX6_isWord {G : ZG} {l0 : Launch} {ad : Nat → Nat} {h0 : HS} {p1 : Int} {o : Int} (hr : fX6_isWord p1 h0 = some o) : ZMi G l0 yX6_isWord wsX6_isWord ({ frames := 0, cells := 0, slots := 0, locals := 0 }) [.ref (ad 30), .int (iI p1)] sh_8 ad h0 [] o h0 := by
  refine ZMi.ofZ (cc := cX6_isWord) (maxL := 2) (ret := (some .boolean)) (own := RX6) (lv0 := [(0, .ref (ad 30)), (1, .int (iI p1))]) (by decide) rfl rfl rfl (Nat.le_of_ble_eq_true rfl) rfl ?_
  intro X hX hQ
  have hf : zfr [] h0 h0 := zfr_rf
  have fl_127 : zFld wsX6_isWord RX6 127 6 RX6 TX6 26 13 := ⟨by decide +kernel, by decide +kernel, by decide, rfl⟩
  have fl_39 : zFld wsX6_isWord RX6 39 6 RX6 TX6 26 12 := ⟨by decide +kernel, by decide +kernel, by decide, rfl⟩
  unfold fX6_isWord at hr
  refine z_iload_n hX dX6_isWord_0 1 rfl ?_
  refine z_aload_n hX dX6_isWord_1 0 rfl ?_
  refine z_getI hX dX6_isWord_2 fl_127 0 rfl rfl ?_
  refine z_icmp_ge (tgt := 45) hX dX6_isWord_5 (by decide) rfl rfl hr (fun hr => ?_) (fun hr => ?_)
  · refine z_iconst hX dX6_isWord_45 ?_
    obtain rfl := Option.some.inj hr
    exact hQ _ _ dX6_isWord_46 hf (Or.inl rfl)
  · refine z_aload_n hX dX6_isWord_8 0 rfl ?_
    refine z_getR (j := 39) hX dX6_isWord_9 fl_39 0 rfl rfl ?_
    refine z_iload_n hX dX6_isWord_12 1 rfl ?_
    refine z_iaload (b := 2000) hX dX6_isWord_13 9 rfl (by decide) rfl hr (fun hr => ?_)
    refine z_bipush hX dX6_isWord_14 (by decide +kernel) ?_
    refine z_icmp_eq (tgt := 45) hX dX6_isWord_16 (by decide) rfl (wr_of (by decide) (by decide)) hr (fun hr => ?_) (fun hr => ?_)
    · refine z_iconst hX dX6_isWord_45 ?_
      obtain rfl := Option.some.inj hr
      exact hQ _ _ dX6_isWord_46 hf (Or.inl rfl)
    · refine z_aload_n hX dX6_isWord_19 0 rfl ?_
      refine z_getR (j := 39) hX dX6_isWord_20 fl_39 0 rfl rfl ?_
      refine z_iload_n hX dX6_isWord_23 1 rfl ?_
      refine z_iaload (b := 2000) hX dX6_isWord_24 9 rfl (by decide) rfl hr (fun hr => ?_)
      refine z_bipush hX dX6_isWord_25 (by decide +kernel) ?_
      refine z_icmp_eq (tgt := 45) hX dX6_isWord_27 (by decide) rfl (wr_of (by decide) (by decide)) hr (fun hr => ?_) (fun hr => ?_)
      · refine z_iconst hX dX6_isWord_45 ?_
        obtain rfl := Option.some.inj hr
        exact hQ _ _ dX6_isWord_46 hf (Or.inl rfl)
      · refine z_aload_n hX dX6_isWord_30 0 rfl ?_
        refine z_getR (j := 39) hX dX6_isWord_31 fl_39 0 rfl rfl ?_
        refine z_iload_n hX dX6_isWord_34 1 rfl ?_
        refine z_iaload (b := 2000) hX dX6_isWord_35 9 rfl (by decide) rfl hr (fun hr => ?_)
        refine z_bipush hX dX6_isWord_36 (by decide +kernel) ?_
        refine z_icmp_eq (tgt := 45) hX dX6_isWord_38 (by decide) rfl (wr_of (by decide) (by decide)) hr (fun hr => ?_) (fun hr => ?_)
        · refine z_iconst hX dX6_isWord_45 ?_
          obtain rfl := Option.some.inj hr
          exact hQ _ _ dX6_isWord_46 hf (Or.inl rfl)
        · refine z_iconst hX dX6_isWord_41 ?_
          refine z_goto (tgt := 46) hX dX6_isWord_42 (by decide) ?_
          obtain rfl := Option.some.inj hr
          exact hQ _ _ dX6_isWord_46 hf (Or.inr rfl)

def fX6_playOn_k (p1 : Int) (p2 : Int) (h : HS) : Option (HS) := (fX6_known p1 p2 h).bind fun r1 => if wr r1 = ((-1) : Int) then none else (fX6_play p1 p2 (hs h 30 9 r1)).bind fun r2 => some r2
set_option maxRecDepth 100000 in
set_option maxHeartbeats 4000000 in
theorem mX6_playOn_k {G : ZG} {l0 : Launch} {ad : Nat → Nat} {h0 : HS} {p1 : Int} {p2 : Int} {o : HS} (hr : fX6_playOn_k p1 p2 h0 = some o) : ZMv G l0 yX6_playOn wsX6_playOn ({ frames := 2, cells := 0, slots := 0, locals := 46 }) [.ref (ad 30), .int (iI p1), .int (iI p2)] sh_8 ad h0 [30, 35] o := by
  refine ZMv.of (cc := cX6_playOn) (maxL := 5) (ret := none) (own := RX6) (lv0 := [(0, .ref (ad 30)), (1, .int (iI p1)), (2, .int (iI p2))]) (by decide) rfl rfl rfl (Nat.le_of_ble_eq_true rfl) rfl ?_
  intro X hX hQ
  have hf : zfr [30, 35] h0 h0 := zfr_rf
  have fl_22 : zFld wsX6_playOn RX6 22 6 RX6 TX6 26 6 := ⟨by decide +kernel, by decide +kernel, by decide, rfl⟩
  have fl_95 : zFld wsX6_playOn RX6 95 6 RX6 TX6 26 9 := ⟨by decide +kernel, by decide +kernel, by decide, rfl⟩
  have pu_X6_9 : zPut TX6 26 9 tyX6 .int := ⟨tyX6_ok, nmX6, rfl, by decide +kernel⟩
  unfold fX6_playOn_k at hr
  refine z_aload_n hX dX6_playOn_0 0 rfl ?_
  refine z_iload_n hX dX6_playOn_1 1 rfl ?_
  refine z_iload_n hX dX6_playOn_2 2 rfl ?_
  obtain ⟨r1, hc1, hr⟩ := z_bind hr
  refine z_callV_i (As := [.int (iI p1), .int (iI p2)]) (k1 := 0) (n1 := 0) (nA := 2) hX (mX6_known hc1) dX6_playOn_3 gX6_playOn_X6_known rfl ⟨rfl, by decide, by decide, by decide +kernel⟩ ⟨by decide, by decide⟩ ⟨by decide, by decide⟩ 0 rfl rfl rfl rfl (Nat.le_of_ble_eq_true rfl) (by decide +kernel) rfl rfl (fun hg1 => ?_)
  refine z_istore_n (lv1 := [(3, .int (iI r1)), (0, .ref (ad 30)), (1, .int (iI p1)), (2, .int (iI p2))]) hX dX6_playOn_6 (by decide) rfl ?_
  refine z_iload_n hX dX6_playOn_7 0 rfl ?_
  refine z_iconst hX dX6_playOn_8 ?_
  refine z_icmp_ne (tgt := 120) hX dX6_playOn_9 (by decide) rfl (wr_of (by decide) (by decide)) hr (fun hr => ?_) (fun hr => ?_)
  · refine z_aload_n hX dX6_playOn_120 1 rfl ?_
    refine z_iload_n hX dX6_playOn_121 0 rfl ?_
    refine z_putI hX dX6_playOn_122 fl_95 pu_X6_9 0 rfl rfl ?_
    have hf : zfr [30, 35] h0 (hs h0 30 9 r1) := zfr_hs hf (by decide)
    refine z_aload_n hX dX6_playOn_125 1 rfl ?_
    refine z_getR (j := 35) hX dX6_playOn_126 fl_22 0 rfl rfl ?_
    refine z_iload_n hX dX6_playOn_129 2 rfl ?_
    refine z_iload_n hX dX6_playOn_130 3 rfl ?_
    obtain ⟨r2, hc2, hr⟩ := z_bind hr
    refine z_callS_v (As := [.ref (ad 35), .int (iI p1), .int (iI p2)]) (k1 := 0) (n1 := 0) (nA := 3) hX (mX6_play hc2) dX6_playOn_131 gX6_playOn_X6_play rfl ⟨by decide, by decide, by decide +kernel⟩ ⟨by decide, by decide⟩ ⟨by decide, by decide⟩ rfl rfl (Nat.le_of_ble_eq_true rfl) (by decide +kernel) rfl rfl (fun hg2 => ?_)
    have hf : zfr [30, 35] h0 r2 := zfr_tr hf (by decide) hg2
    obtain rfl := Option.some.inj hr
    exact hQ _ _ dX6_playOn_134 hf
  · exact z_none hr

def zk (h : HS) : Nat := (h 30 8 - 1).toNat
def fX6_readGame_b267 (h : HS) : Option (Int × HS) := if 1 ≤ h 30 8 ∧ h 30 8 ≤ 200 then (fX6_stop 8 (h 30 13) h).bind fun r1 => some (r1.1, r1.2) else none
def fX6_readGame_b242 (k20 : Int → Int → Int → HS → Option (Int × HS)) (x1 : Int) (x3 : Int) (h : HS) : Option (Int × HS) := if 1 ≤ h 30 8 ∧ h 30 8 ≤ 200 then (fX6_known (h 30 19) (h 30 20) h).bind fun rk => if wr rk = -1 then (if (zk h) + 1 ≤ 199 then (fX6_playOn (h 30 19) (h 30 20) h).bind fun r2 => if ((zk h) + 1) ≤ zk r2 then k20 x1 0 x3 r2 else none else none) else (fX6_playOn_k (h 30 19) (h 30 20) h).bind fun r2 => if (zk h) ≤ zk r2 then k20 x1 0 x3 r2 else none else none
def fX6_readGame_L170 (k20 : Int → Int → Int → HS → Option (Int × HS)) : Nat → Int → Int → Int → HS → Option (Int × HS)
  | 0, _, _, _, _ => none
  | nf + 1, x1, x3, x4, h => if 1 ≤ h 30 8 ∧ h 30 8 ≤ 200 then (fX6_isWord x3 h).bind fun r3 => if wr r3 = 0 then (fX6_readMove x4 x3 h).bind fun r4 => if wr r4.1 = 0 then if wr (r4.2 30 8) = (200 : Int) then (fX6_known (r4.2 30 19) (r4.2 30 20) r4.2).bind fun r5 => if wr r5 = ((-1) : Int) then (fX6_stop 9 x4 r4.2).bind fun r6 => some (r6.1, r6.2) else if (zk h) ≤ zk r4.2 then fX6_readGame_b242 k20 x1 x3 r4.2 else none else if (zk h) ≤ zk r4.2 then fX6_readGame_b242 k20 x1 x3 r4.2 else none else (fX6_stop r4.1 x4 r4.2).bind fun r7 => some (r7.1, r7.2) else if (zk h) ≤ zk h then fX6_readGame_L170 k20 nf x1 (x3 + 1) x4 h else none else none
def fX6_readGame_b125 (x4 : Int) (h : HS) : Option (Int × HS) := if 1 ≤ h 30 8 ∧ h 30 8 ≤ 200 then (fX6_stop 8 x4 h).bind fun r8 => some (r8.1, r8.2) else none
def fX6_readGame_b57 (x4 : Int) (h : HS) : Option (Int × HS) := if 1 ≤ h 30 8 ∧ h 30 8 ≤ 200 then (fX6_stop 8 x4 h).bind fun r9 => some (r9.1, r9.2) else none
def fX6_readGame_L20 : Nat → Int → Int → Int → HS → Option (Int × HS)
  | 0, _, _, _, _ => none
  | nf + 1, x1, x2, x3, h => if 1 ≤ h 30 8 ∧ h 30 8 ≤ 200 then if wr (h 30 13) ≤ wr x3 then if wr x2 = 0 then if wr x1 ≤ 0 then some (0, h) else if (zk h) ≤ zk h then fX6_readGame_b267 h else none else if (zk h) ≤ zk h then fX6_readGame_b267 h else none else if (0 : Int) ≤ x3 ∧ x3 < 2000 then if wr (h 39 x3) = (40 : Int) then if wr x2 = 0 then if wr (h 30 9) = 0 then if (zk h) ≤ zk h then fX6_readGame_b57 x3 h else none else if (0 : Int) ≤ x1 ∧ x1 < 2000 then (fX6_get (((hs h 42 x1 (h 30 9))) 30 9) 0 (hs h 42 x1 (h 30 9))).bind fun r11 => (fX6_set (((hs (hs h 42 x1 (h 30 9)) 30 9 r11)) 30 9) (hs (hs h 42 x1 (h 30 9)) 30 9 r11)).bind fun r12 => if (zk h) ≤ zk r12 then fX6_readGame_L20 nf (x1 + 1) 1 (x3 + 1) r12 else none else none else if (zk h) ≤ zk h then fX6_readGame_b57 x3 h else none else if (0 : Int) ≤ x3 ∧ x3 < 2000 then if wr (h 39 x3) = (41 : Int) then if wr x2 = 0 then if wr x1 = 0 then if (zk h) ≤ zk h then fX6_readGame_b125 x3 h else none else if (0 : Int) ≤ (x1 + (-1)) ∧ (x1 + (-1)) < 2000 then (fX6_set (((hs h 30 9 (h 42 (x1 + (-1))))) 30 9) (hs h 30 9 (h 42 (x1 + (-1))))).bind fun r10 => if (zk h) ≤ zk r10 then fX6_readGame_L20 nf (x1 + (-1)) x2 (x3 + 1) r10 else none else none else if (zk h) ≤ zk h then fX6_readGame_b125 x3 h else none else if (0 : Int) ≤ x3 ∧ x3 < 2000 then if wr (h 39 x3) = (32 : Int) then if (zk h) ≤ zk h then fX6_readGame_L20 nf x1 x2 (x3 + 1) h else none else if (zk h) ≤ zk h then fX6_readGame_L170 (fun a0 a1 a2 hh => fX6_readGame_L20 nf a0 a1 a2 hh) zF x1 (x3 + 1) x3 h else none else none else none else none else none
def fX6_readGame (h : HS) : Option (Int × HS) := (fX6_clearNodes (hs h 30 0 0)).bind fun r13 => if 0 ≤ zk (hs r13 30 14 (-1)) then fX6_readGame_L20 zF 0 0 0 (hs r13 30 14 (-1)) else none
set_option maxRecDepth 100000 in
set_option maxHeartbeats 4000000 in
theorem mX6_readGame {G : ZG} {l0 : Launch} {ad : Nat → Nat} {h0 : HS} {o : Int × HS} (hr : fX6_readGame h0 = some o) : ZMi G l0 yX6_readGame wsX6_readGame ({ frames := 8, cells := 199, slots := 995, locals := 202 }) [.ref (ad 30)] sh_8 ad h0 [30, 35, 36, 37, 38, 40, 42, 90] o.1 o.2 := by
  refine ZMi.of (cc := cX6_readGame) (maxL := 6) (ret := (some .int)) (own := RX6) (lv0 := [(0, .ref (ad 30))]) (by decide) rfl rfl rfl (Nat.le_of_ble_eq_true rfl) rfl ?_
  intro X hX hQ
  have hf : zfr [30, 35, 36, 37, 38, 40, 42, 90] h0 h0 := zfr_rf
  have fl_127 : zFld wsX6_readGame RX6 127 6 RX6 TX6 26 13 := ⟨by decide +kernel, by decide +kernel, by decide, rfl⟩
  have fl_187 : zFld wsX6_readGame RX6 187 6 RX6 TX6 26 20 := ⟨by decide +kernel, by decide +kernel, by decide, rfl⟩
  have fl_193 : zFld wsX6_readGame RX6 193 6 RX6 TX6 26 19 := ⟨by decide +kernel, by decide +kernel, by decide, rfl⟩
  have fl_28 : zFld wsX6_readGame RX6 28 6 RX6 TX6 26 8 := ⟨by decide +kernel, by decide +kernel, by decide, rfl⟩
  have fl_39 : zFld wsX6_readGame RX6 39 6 RX6 TX6 26 12 := ⟨by decide +kernel, by decide +kernel, by decide, rfl⟩
  have fl_42 : zFld wsX6_readGame RX6 42 6 RX6 TX6 26 14 := ⟨by decide +kernel, by decide +kernel, by decide, rfl⟩
  have fl_57 : zFld wsX6_readGame RX6 57 6 RX6 TX6 26 25 := ⟨by decide +kernel, by decide +kernel, by decide, rfl⟩
  have fl_66 : zFld wsX6_readGame RX6 66 6 RX6 TX6 26 0 := ⟨by decide +kernel, by decide +kernel, by decide, rfl⟩
  have fl_95 : zFld wsX6_readGame RX6 95 6 RX6 TX6 26 9 := ⟨by decide +kernel, by decide +kernel, by decide, rfl⟩
  have pu_X6_0 : zPut TX6 26 0 tyX6 .int := ⟨tyX6_ok, nmX6, rfl, by decide +kernel⟩
  have pu_X6_9 : zPut TX6 26 9 tyX6 .int := ⟨tyX6_ok, nmX6, rfl, by decide +kernel⟩
  have pu_X6_14 : zPut TX6 26 14 tyX6 .int := ⟨tyX6_ok, nmX6, rfl, by decide +kernel⟩
  have B267 : ∀ (h : HS), zfr [30, 35, 36, 37, 38, 40, 42, 90] h0 h → fX6_readGame_b267 h = some o → ZW G X sh_8 ad h (zk h) (5 * zk h) [(0, .ref (ad 30))] 267 [] := by
    intro h hf hr
    unfold fX6_readGame_b267 at hr
    obtain ⟨hk8, hr⟩ := z_ifg hr
    have hk199 : zk h ≤ 199 := by unfold zk; omega
    refine z_aload_n hX dX6_readGame_267 0 rfl ?_
    refine z_bipush hX dX6_readGame_268 (by decide +kernel) ?_
    refine z_aload_n hX dX6_readGame_270 0 rfl ?_
    refine z_getI hX dX6_readGame_271 fl_127 0 rfl rfl ?_
    obtain ⟨r1, hc1, hr⟩ := z_bind hr
    refine z_callV_i (As := [.int (iI 8), .int (iI (h 30 13))]) (k1 := (zk h)) (n1 := (5 * zk h)) (nA := 2) hX (mX6_stop hc1) dX6_readGame_274 gX6_readGame_X6_stop rfl ⟨rfl, by decide, by decide, by decide +kernel⟩ ⟨by decide, by decide⟩ ⟨by dsimp only; omega, by dsimp only; omega⟩ 0 rfl rfl rfl rfl (Nat.le_of_ble_eq_true rfl) (by decide +kernel) rfl rfl (fun hg1 => ?_)
    have hf : zfr [30, 35, 36, 37, 38, 40, 42, 90] h0 r1.2 := zfr_tr hf (by decide) hg1
    refine z_goto (tgt := 281) hX dX6_readGame_277 (by decide) ?_
    refine z_widen (k1 := 199) (n1 := 995) (by omega) (by omega) ?_
    obtain rfl := Option.some.inj hr
    exact hQ _ _ dX6_readGame_281 hf
  have B125 : ∀ (x4 : Int) (h : HS), zfr [30, 35, 36, 37, 38, 40, 42, 90] h0 h → fX6_readGame_b125 x4 h = some o → ZW G X sh_8 ad h (zk h) (5 * zk h) [(0, .ref (ad 30)), (4, .int (iI x4))] 125 [] := by
    intro x4 h hf hr
    unfold fX6_readGame_b125 at hr
    obtain ⟨hk8, hr⟩ := z_ifg hr
    have hk199 : zk h ≤ 199 := by unfold zk; omega
    refine z_aload_n hX dX6_readGame_125 0 rfl ?_
    refine z_bipush hX dX6_readGame_126 (by decide +kernel) ?_
    refine z_iload hX dX6_readGame_128 1 rfl ?_
    obtain ⟨r8, hc8, hr⟩ := z_bind hr
    refine z_callV_i (As := [.int (iI 8), .int (iI x4)]) (k1 := (zk h)) (n1 := (5 * zk h)) (nA := 2) hX (mX6_stop hc8) dX6_readGame_130 gX6_readGame_X6_stop rfl ⟨rfl, by decide, by decide, by decide +kernel⟩ ⟨by decide, by decide⟩ ⟨by dsimp only; omega, by dsimp only; omega⟩ 0 rfl rfl rfl rfl (Nat.le_of_ble_eq_true rfl) (by decide +kernel) rfl rfl (fun hg8 => ?_)
    have hf : zfr [30, 35, 36, 37, 38, 40, 42, 90] h0 r8.2 := zfr_tr hf (by decide) hg8
    refine z_widen (k1 := 199) (n1 := 995) (by omega) (by omega) ?_
    obtain rfl := Option.some.inj hr
    exact hQ _ _ dX6_readGame_133 hf
  have B57 : ∀ (x4 : Int) (h : HS), zfr [30, 35, 36, 37, 38, 40, 42, 90] h0 h → fX6_readGame_b57 x4 h = some o → ZW G X sh_8 ad h (zk h) (5 * zk h) [(0, .ref (ad 30)), (4, .int (iI x4))] 57 [] := by
    intro x4 h hf hr
    unfold fX6_readGame_b57 at hr
    obtain ⟨hk8, hr⟩ := z_ifg hr
    have hk199 : zk h ≤ 199 := by unfold zk; omega
    refine z_aload_n hX dX6_readGame_57 0 rfl ?_
    refine z_bipush hX dX6_readGame_58 (by decide +kernel) ?_
    refine z_iload hX dX6_readGame_60 1 rfl ?_
    obtain ⟨r9, hc9, hr⟩ := z_bind hr
    refine z_callV_i (As := [.int (iI 8), .int (iI x4)]) (k1 := (zk h)) (n1 := (5 * zk h)) (nA := 2) hX (mX6_stop hc9) dX6_readGame_62 gX6_readGame_X6_stop rfl ⟨rfl, by decide, by decide, by decide +kernel⟩ ⟨by decide, by decide⟩ ⟨by dsimp only; omega, by dsimp only; omega⟩ 0 rfl rfl rfl rfl (Nat.le_of_ble_eq_true rfl) (by decide +kernel) rfl rfl (fun hg9 => ?_)
    have hf : zfr [30, 35, 36, 37, 38, 40, 42, 90] h0 r9.2 := zfr_tr hf (by decide) hg9
    refine z_widen (k1 := 199) (n1 := 995) (by omega) (by omega) ?_
    obtain rfl := Option.some.inj hr
    exact hQ _ _ dX6_readGame_65 hf
  have B20 : ∀ (nf : Nat) (x1 : Int) (x2 : Int) (x3 : Int) (h : HS), zfr [30, 35, 36, 37, 38, 40, 42, 90] h0 h → fX6_readGame_L20 nf x1 x2 x3 h = some o → ZW G X sh_8 ad h (zk h) (5 * zk h) [(0, .ref (ad 30)), (1, .int (iI x1)), (2, .int (iI x2)), (3, .int (iI x3))] 20 [] := by
    intro nf
    induction nf with
    | zero => intro x1 x2 x3 h hf hr; exact z_none hr
    | succ n20 ih20 =>
      intro x1 x2 x3 h hf hr
      have B242 : ∀ (x1 : Int) (x3 : Int) (h : HS), zfr [30, 35, 36, 37, 38, 40, 42, 90] h0 h → fX6_readGame_b242 (fun a0 a1 a2 hh => fX6_readGame_L20 n20 a0 a1 a2 hh) x1 x3 h = some o → ZW G X sh_8 ad h (zk h) (5 * zk h) [(0, .ref (ad 30)), (1, .int (iI x1)), (3, .int (iI x3))] 242 [] := by
        intro x1 x3 h hf hr
        unfold fX6_readGame_b242 at hr
        obtain ⟨hk8, hr⟩ := z_ifg hr
        have hk199 : zk h ≤ 199 := by unfold zk; omega
        refine z_aload_n hX dX6_readGame_242 0 rfl ?_
        refine z_aload_n hX dX6_readGame_243 0 rfl ?_
        refine z_getI hX dX6_readGame_244 fl_193 0 rfl rfl ?_
        refine z_aload_n hX dX6_readGame_247 0 rfl ?_
        refine z_getI hX dX6_readGame_248 fl_187 0 rfl rfl ?_
        obtain ⟨rk, hck, hr⟩ := z_bind hr
        by_cases ek : wr rk = -1
        · have hr := z_ifp hr ek
          obtain ⟨hkp, hr⟩ := z_ifg hr
          obtain ⟨r2, hc2, hr⟩ := z_bind hr
          refine z_callV_v (As := [.int (iI (h 30 19)), .int (iI (h 30 20))]) (k1 := ((zk h) + 1)) (n1 := ((5 * zk h) + 5)) (nA := 2) hX (mX6_playOn hc2) dX6_readGame_251 gX6_readGame_X6_playOn rfl ⟨rfl, by decide, by decide, by decide +kernel⟩ ⟨by decide, by decide⟩ ⟨by dsimp only; omega, by dsimp only; omega⟩ 0 rfl rfl rfl rfl (Nat.le_of_ble_eq_true rfl) (by decide +kernel) rfl rfl (fun hg2 => ?_)
          have hf : zfr [30, 35, 36, 37, 38, 40, 42, 90] h0 r2 := zfr_tr hf (by decide) hg2
          refine z_iconst hX dX6_readGame_254 ?_
          refine z_istore_n (lv1 := [(2, .int (iI 0)), (0, .ref (ad 30)), (1, .int (iI x1)), (3, .int (iI x3))]) hX dX6_readGame_255 (by decide) rfl ?_
          refine z_goto (tgt := 20) hX dX6_readGame_256 (by decide) ?_
          obtain ⟨hkj, hr⟩ := z_ifg hr
          refine z_widen (k1 := zk r2) (n1 := 5 * zk r2) hkj (by omega) ?_
          refine z_lv [1, 2, 0, 3] rfl ?_
          exact ih20 x1 0 x3 r2 hf hr
        · have hr := z_ifn hr ek
          obtain ⟨r2, hc2, hr⟩ := z_bind hr
          refine z_callV_v (As := [.int (iI (h 30 19)), .int (iI (h 30 20))]) (k1 := (zk h)) (n1 := (5 * zk h)) (nA := 2) hX (mX6_playOn_k hc2) dX6_readGame_251 gX6_readGame_X6_playOn rfl ⟨rfl, by decide, by decide, by decide +kernel⟩ ⟨by decide, by decide⟩ ⟨by dsimp only; omega, by dsimp only; omega⟩ 0 rfl rfl rfl rfl (Nat.le_of_ble_eq_true rfl) (by decide +kernel) rfl rfl (fun hg2 => ?_)
          have hf : zfr [30, 35, 36, 37, 38, 40, 42, 90] h0 r2 := zfr_tr hf (by decide) hg2
          refine z_iconst hX dX6_readGame_254 ?_
          refine z_istore_n (lv1 := [(2, .int (iI 0)), (0, .ref (ad 30)), (1, .int (iI x1)), (3, .int (iI x3))]) hX dX6_readGame_255 (by decide) rfl ?_
          refine z_goto (tgt := 20) hX dX6_readGame_256 (by decide) ?_
          obtain ⟨hkj, hr⟩ := z_ifg hr
          refine z_widen (k1 := zk r2) (n1 := 5 * zk r2) hkj (by omega) ?_
          refine z_lv [1, 2, 0, 3] rfl ?_
          exact ih20 x1 0 x3 r2 hf hr
      have B170 : ∀ (nf : Nat) (x1 : Int) (x3 : Int) (x4 : Int) (h : HS), zfr [30, 35, 36, 37, 38, 40, 42, 90] h0 h → fX6_readGame_L170 (fun a0 a1 a2 hh => fX6_readGame_L20 n20 a0 a1 a2 hh) nf x1 x3 x4 h = some o → ZW G X sh_8 ad h (zk h) (5 * zk h) [(0, .ref (ad 30)), (1, .int (iI x1)), (3, .int (iI x3)), (4, .int (iI x4))] 170 [] := by
        intro nf
        induction nf with
        | zero => intro x1 x3 x4 h hf hr; exact z_none hr
        | succ n170 ih170 =>
          intro x1 x3 x4 h hf hr
          unfold fX6_readGame_L170 at hr
          obtain ⟨hk8, hr⟩ := z_ifg hr
          have hk199 : zk h ≤ 199 := by unfold zk; omega
          refine z_aload_n hX dX6_readGame_170 0 rfl ?_
          refine z_iload_n hX dX6_readGame_171 2 rfl ?_
          obtain ⟨r3, hc3, hr⟩ := z_bind hr
          refine z_callV_i (As := [.int (iI x3)]) (k1 := (zk h)) (n1 := (5 * zk h)) (nA := 1) hX (mX6_isWord hc3) dX6_readGame_172 gX6_readGame_X6_isWord rfl ⟨rfl, by decide, by decide, by decide +kernel⟩ ⟨by decide, by decide⟩ ⟨by dsimp only; omega, by dsimp only; omega⟩ 0 rfl rfl rfl rfl (Nat.le_of_ble_eq_true rfl) (by decide +kernel) rfl rfl (fun hg3 => ?_)
          refine z_if_eq (tgt := 184) hX dX6_readGame_175 (by decide) rfl hr (fun hr => ?_) (fun hr => ?_)
          · refine z_aload_n hX dX6_readGame_184 0 rfl ?_
            refine z_iload hX dX6_readGame_185 3 rfl ?_
            refine z_iload_n hX dX6_readGame_187 2 rfl ?_
            obtain ⟨r4, hc4, hr⟩ := z_bind hr
            refine z_callV_i (As := [.int (iI x4), .int (iI x3)]) (k1 := (zk h)) (n1 := (5 * zk h)) (nA := 2) hX (mX6_readMove hc4) dX6_readGame_188 gX6_readGame_X6_readMove rfl ⟨rfl, by decide, by decide, by decide +kernel⟩ ⟨by decide, by decide⟩ ⟨by dsimp only; omega, by dsimp only; omega⟩ 0 rfl rfl rfl rfl (Nat.le_of_ble_eq_true rfl) (by decide +kernel) rfl rfl (fun hg4 => ?_)
            have hf : zfr [30, 35, 36, 37, 38, 40, 42, 90] h0 r4.2 := zfr_tr hf (by decide) hg4
            refine z_istore (lv1 := [(5, .int (iI r4.1)), (0, .ref (ad 30)), (1, .int (iI x1)), (3, .int (iI x3)), (4, .int (iI x4))]) hX dX6_readGame_191 (by decide) rfl ?_
            refine z_iload hX dX6_readGame_193 0 rfl ?_
            refine z_if_eq (tgt := 207) hX dX6_readGame_195 (by decide) rfl hr (fun hr => ?_) (fun hr => ?_)
            · refine z_aload_n hX dX6_readGame_207 1 rfl ?_
              refine z_getI hX dX6_readGame_208 fl_28 0 rfl rfl ?_
              refine z_sipush hX dX6_readGame_211 (by decide +kernel) ?_
              refine z_icmp_ne (tgt := 242) hX dX6_readGame_214 (by decide) rfl (wr_of (by decide) (by decide)) hr (fun hr => ?_) (fun hr => ?_)
              · obtain ⟨hkj, hr⟩ := z_ifg hr
                refine z_widen (k1 := zk r4.2) (n1 := 5 * zk r4.2) hkj (by omega) ?_
                refine z_lv [1, 2, 3] rfl ?_
                exact B242 x1 x3 r4.2 hf hr
              · refine z_aload_n hX dX6_readGame_217 1 rfl ?_
                refine z_aload_n hX dX6_readGame_218 1 rfl ?_
                refine z_getI hX dX6_readGame_219 fl_193 0 rfl rfl ?_
                refine z_aload_n hX dX6_readGame_222 1 rfl ?_
                refine z_getI hX dX6_readGame_223 fl_187 0 rfl rfl ?_
                obtain ⟨r5, hc5, hr⟩ := z_bind hr
                refine z_callV_i (As := [.int (iI (r4.2 30 19)), .int (iI (r4.2 30 20))]) (k1 := (zk h)) (n1 := (5 * zk h)) (nA := 2) hX (mX6_known hc5) dX6_readGame_226 gX6_readGame_X6_known rfl ⟨rfl, by decide, by decide, by decide +kernel⟩ ⟨by decide, by decide⟩ ⟨by dsimp only; omega, by dsimp only; omega⟩ 0 rfl rfl rfl rfl (Nat.le_of_ble_eq_true rfl) (by decide +kernel) rfl rfl (fun hg5 => ?_)
                refine z_iconst hX dX6_readGame_229 ?_
                refine z_icmp_ne (tgt := 242) hX dX6_readGame_230 (by decide) rfl (wr_of (by decide) (by decide)) hr (fun hr => ?_) (fun hr => ?_)
                · obtain ⟨hkj, hr⟩ := z_ifg hr
                  refine z_widen (k1 := zk r4.2) (n1 := 5 * zk r4.2) hkj (by omega) ?_
                  refine z_lv [1, 2, 3] rfl ?_
                  exact B242 x1 x3 r4.2 hf hr
                · refine z_aload_n hX dX6_readGame_233 1 rfl ?_
                  refine z_bipush hX dX6_readGame_234 (by decide +kernel) ?_
                  refine z_iload hX dX6_readGame_236 4 rfl ?_
                  obtain ⟨r6, hc6, hr⟩ := z_bind hr
                  refine z_callV_i (As := [.int (iI 9), .int (iI x4)]) (k1 := (zk h)) (n1 := (5 * zk h)) (nA := 2) hX (mX6_stop hc6) dX6_readGame_238 gX6_readGame_X6_stop rfl ⟨rfl, by decide, by decide, by decide +kernel⟩ ⟨by decide, by decide⟩ ⟨by dsimp only; omega, by dsimp only; omega⟩ 0 rfl rfl rfl rfl (Nat.le_of_ble_eq_true rfl) (by decide +kernel) rfl rfl (fun hg6 => ?_)
                  have hf : zfr [30, 35, 36, 37, 38, 40, 42, 90] h0 r6.2 := zfr_tr hf (by decide) hg6
                  refine z_widen (k1 := 199) (n1 := 995) (by omega) (by omega) ?_
                  obtain rfl := Option.some.inj hr
                  exact hQ _ _ dX6_readGame_241 hf
            · refine z_aload_n hX dX6_readGame_198 1 rfl ?_
              refine z_iload hX dX6_readGame_199 0 rfl ?_
              refine z_iload hX dX6_readGame_201 4 rfl ?_
              obtain ⟨r7, hc7, hr⟩ := z_bind hr
              refine z_callV_i (As := [.int (iI r4.1), .int (iI x4)]) (k1 := (zk h)) (n1 := (5 * zk h)) (nA := 2) hX (mX6_stop hc7) dX6_readGame_203 gX6_readGame_X6_stop rfl ⟨rfl, by decide, by decide, by decide +kernel⟩ ⟨by decide, by decide⟩ ⟨by dsimp only; omega, by dsimp only; omega⟩ 0 rfl rfl rfl rfl (Nat.le_of_ble_eq_true rfl) (by decide +kernel) rfl rfl (fun hg7 => ?_)
              have hf : zfr [30, 35, 36, 37, 38, 40, 42, 90] h0 r7.2 := zfr_tr hf (by decide) hg7
              refine z_widen (k1 := 199) (n1 := 995) (by omega) (by omega) ?_
              obtain rfl := Option.some.inj hr
              exact hQ _ _ dX6_readGame_206 hf
          · refine z_iinc (lv1 := [(3, .int (iI (x3 + 1))), (0, .ref (ad 30)), (1, .int (iI x1)), (4, .int (iI x4))]) hX dX6_readGame_178 2 rfl (by decide) rfl ?_
            refine z_goto (tgt := 170) hX dX6_readGame_181 (by decide) ?_
            obtain ⟨hkj, hr⟩ := z_ifg hr
            refine z_widen (k1 := zk h) (n1 := 5 * zk h) hkj (by omega) ?_
            refine z_lv [1, 2, 0, 3] rfl ?_
            exact ih170 x1 (x3 + 1) x4 h hf hr
      unfold fX6_readGame_L20 at hr
      obtain ⟨hk8, hr⟩ := z_ifg hr
      have hk199 : zk h ≤ 199 := by unfold zk; omega
      refine z_iload_n hX dX6_readGame_20 3 rfl ?_
      refine z_aload_n hX dX6_readGame_21 0 rfl ?_
      refine z_getI hX dX6_readGame_22 fl_127 0 rfl rfl ?_
      refine z_icmp_ge (tgt := 259) hX dX6_readGame_25 (by decide) rfl rfl hr (fun hr => ?_) (fun hr => ?_)
      · refine z_iload_n hX dX6_readGame_259 2 rfl ?_
        refine z_if_ne (tgt := 267) hX dX6_readGame_260 (by decide) rfl hr (fun hr => ?_) (fun hr => ?_)
        · obtain ⟨hkj, hr⟩ := z_ifg hr
          refine z_widen (k1 := zk h) (n1 := 5 * zk h) hkj (by omega) ?_
          refine z_lv [0] rfl ?_
          exact B267 h hf hr
        · refine z_iload_n hX dX6_readGame_263 1 rfl ?_
          refine z_if_le (tgt := 280) hX dX6_readGame_264 (by decide) rfl hr (fun hr => ?_) (fun hr => ?_)
          · refine z_iconst hX dX6_readGame_280 ?_
            refine z_widen (k1 := 199) (n1 := 995) (by omega) (by omega) ?_
            obtain rfl := Option.some.inj hr
            exact hQ _ _ dX6_readGame_281 hf
          · obtain ⟨hkj, hr⟩ := z_ifg hr
            refine z_widen (k1 := zk h) (n1 := 5 * zk h) hkj (by omega) ?_
            refine z_lv [0] rfl ?_
            exact B267 h hf hr
      · refine z_iload_n hX dX6_readGame_28 3 rfl ?_
        refine z_istore (lv1 := [(4, .int (iI x3)), (0, .ref (ad 30)), (1, .int (iI x1)), (2, .int (iI x2)), (3, .int (iI x3))]) hX dX6_readGame_29 (by decide) rfl ?_
        refine z_iinc (lv1 := [(3, .int (iI (x3 + 1))), (4, .int (iI x3)), (0, .ref (ad 30)), (1, .int (iI x1)), (2, .int (iI x2))]) hX dX6_readGame_31 4 rfl (by decide) rfl ?_
        refine z_aload_n hX dX6_readGame_34 2 rfl ?_
        refine z_getR (j := 39) hX dX6_readGame_35 fl_39 0 rfl rfl ?_
        refine z_iload hX dX6_readGame_38 1 rfl ?_
        refine z_iaload (b := 2000) hX dX6_readGame_40 9 rfl (by decide) rfl hr (fun hr => ?_)
        refine z_bipush hX dX6_readGame_41 (by decide +kernel) ?_
        refine z_icmp_ne (tgt := 105) hX dX6_readGame_43 (by decide) rfl (wr_of (by decide) (by decide)) hr (fun hr => ?_) (fun hr => ?_)
        · refine z_aload_n hX dX6_readGame_105 2 rfl ?_
          refine z_getR (j := 39) hX dX6_readGame_106 fl_39 0 rfl rfl ?_
          refine z_iload hX dX6_readGame_109 1 rfl ?_
          refine z_iaload (b := 2000) hX dX6_readGame_111 9 rfl (by decide) rfl hr (fun hr => ?_)
          refine z_bipush hX dX6_readGame_112 (by decide +kernel) ?_
          refine z_icmp_ne (tgt := 158) hX dX6_readGame_114 (by decide) rfl (wr_of (by decide) (by decide)) hr (fun hr => ?_) (fun hr => ?_)
          · refine z_aload_n hX dX6_readGame_158 2 rfl ?_
            refine z_getR (j := 39) hX dX6_readGame_159 fl_39 0 rfl rfl ?_
            refine z_iload hX dX6_readGame_162 1 rfl ?_
            refine z_iaload (b := 2000) hX dX6_readGame_164 9 rfl (by decide) rfl hr (fun hr => ?_)
            refine z_bipush hX dX6_readGame_165 (by decide +kernel) ?_
            refine z_icmp_eq (tgt := 256) hX dX6_readGame_167 (by decide) rfl (wr_of (by decide) (by decide)) hr (fun hr => ?_) (fun hr => ?_)
            · refine z_goto (tgt := 20) hX dX6_readGame_256 (by decide) ?_
              obtain ⟨hkj, hr⟩ := z_ifg hr
              refine z_widen (k1 := zk h) (n1 := 5 * zk h) hkj (by omega) ?_
              refine z_lv [2, 3, 4, 0] rfl ?_
              exact ih20 x1 x2 (x3 + 1) h hf hr
            · obtain ⟨hkj, hr⟩ := z_ifg hr
              refine z_widen (k1 := zk h) (n1 := 5 * zk h) hkj (by omega) ?_
              refine z_lv [2, 3, 0, 1] rfl ?_
              exact B170 zF x1 (x3 + 1) x3 h hf hr
          · refine z_iload_n hX dX6_readGame_117 4 rfl ?_
            refine z_if_ne (tgt := 125) hX dX6_readGame_118 (by decide) rfl hr (fun hr => ?_) (fun hr => ?_)
            · obtain ⟨hkj, hr⟩ := z_ifg hr
              refine z_widen (k1 := zk h) (n1 := 5 * zk h) hkj (by omega) ?_
              refine z_lv [2, 1] rfl ?_
              exact B125 x3 h hf hr
            · refine z_iload_n hX dX6_readGame_121 3 rfl ?_
              refine z_if_ne (tgt := 134) hX dX6_readGame_122 (by decide) rfl hr (fun hr => ?_) (fun hr => ?_)
              · refine z_iinc (lv1 := [(1, .int (iI (x1 + (-1)))), (3, .int (iI (x3 + 1))), (4, .int (iI x3)), (0, .ref (ad 30)), (2, .int (iI x2))]) hX dX6_readGame_134 3 rfl (by decide) rfl ?_
                refine z_aload_n hX dX6_readGame_137 3 rfl ?_
                refine z_aload_n hX dX6_readGame_138 3 rfl ?_
                refine z_getR (j := 42) hX dX6_readGame_139 fl_57 0 rfl rfl ?_
                refine z_iload_n hX dX6_readGame_142 0 rfl ?_
                refine z_iaload (b := 2000) hX dX6_readGame_143 12 rfl (by decide) rfl hr (fun hr => ?_)
                refine z_putI hX dX6_readGame_144 fl_95 pu_X6_9 0 rfl rfl ?_
                have hf : zfr [30, 35, 36, 37, 38, 40, 42, 90] h0 (hs h 30 9 (h 42 (x1 + (-1)))) := zfr_hs hf (by decide)
                refine z_aload_n hX dX6_readGame_147 3 rfl ?_
                refine z_aload_n hX dX6_readGame_148 3 rfl ?_
                refine z_getI hX dX6_readGame_149 fl_95 0 rfl rfl ?_
                obtain ⟨r10, hc10, hr⟩ := z_bind hr
                refine z_callV_v (As := [.int (iI (((hs h 30 9 (h 42 (x1 + (-1))))) 30 9))]) (k1 := (zk h)) (n1 := (5 * zk h)) (nA := 1) hX (mX6_set hc10) dX6_readGame_152 gX6_readGame_X6_set rfl ⟨rfl, by decide, by decide, by decide +kernel⟩ ⟨by decide, by decide⟩ ⟨by dsimp only; omega, by dsimp only; omega⟩ 0 rfl rfl rfl rfl (Nat.le_of_ble_eq_true rfl) (by decide +kernel) rfl rfl (fun hg10 => ?_)
                have hf : zfr [30, 35, 36, 37, 38, 40, 42, 90] h0 r10 := zfr_tr hf (by decide) hg10
                refine z_goto (tgt := 256) hX dX6_readGame_155 (by decide) ?_
                refine z_goto (tgt := 20) hX dX6_readGame_256 (by decide) ?_
                obtain ⟨hkj, hr⟩ := z_ifg hr
                refine z_widen (k1 := zk r10) (n1 := 5 * zk r10) hkj (by omega) ?_
                refine z_lv [3, 0, 4, 1] rfl ?_
                exact ih20 (x1 + (-1)) x2 (x3 + 1) r10 hf hr
              · obtain ⟨hkj, hr⟩ := z_ifg hr
                refine z_widen (k1 := zk h) (n1 := 5 * zk h) hkj (by omega) ?_
                refine z_lv [2, 1] rfl ?_
                exact B125 x3 h hf hr
        · refine z_iload_n hX dX6_readGame_46 4 rfl ?_
          refine z_if_ne (tgt := 57) hX dX6_readGame_47 (by decide) rfl hr (fun hr => ?_) (fun hr => ?_)
          · obtain ⟨hkj, hr⟩ := z_ifg hr
            refine z_widen (k1 := zk h) (n1 := 5 * zk h) hkj (by omega) ?_
            refine z_lv [2, 1] rfl ?_
            exact B57 x3 h hf hr
          · refine z_aload_n hX dX6_readGame_50 2 rfl ?_
            refine z_getI hX dX6_readGame_51 fl_95 0 rfl rfl ?_
            refine z_if_ne (tgt := 66) hX dX6_readGame_54 (by decide) rfl hr (fun hr => ?_) (fun hr => ?_)
            · refine z_aload_n hX dX6_readGame_66 2 rfl ?_
              refine z_getR (j := 42) hX dX6_readGame_67 fl_57 0 rfl rfl ?_
              refine z_iload_n hX dX6_readGame_70 3 rfl ?_
              refine z_aload_n hX dX6_readGame_71 2 rfl ?_
              refine z_getI hX dX6_readGame_72 fl_95 0 rfl rfl ?_
              refine z_iastore (b := 2000) hX dX6_readGame_75 12 rfl (by decide) rfl hr (fun hr => ?_)
              have hf : zfr [30, 35, 36, 37, 38, 40, 42, 90] h0 (hs h 42 x1 (h 30 9)) := zfr_hs hf (by decide)
              refine z_iinc (lv1 := [(1, .int (iI (x1 + 1))), (3, .int (iI (x3 + 1))), (4, .int (iI x3)), (0, .ref (ad 30)), (2, .int (iI x2))]) hX dX6_readGame_76 3 rfl (by decide) rfl ?_
              refine z_aload_n hX dX6_readGame_79 3 rfl ?_
              refine z_aload_n hX dX6_readGame_80 3 rfl ?_
              refine z_aload_n hX dX6_readGame_81 3 rfl ?_
              refine z_getI hX dX6_readGame_82 fl_95 0 rfl rfl ?_
              refine z_iconst hX dX6_readGame_85 ?_
              obtain ⟨r11, hc11, hr⟩ := z_bind hr
              refine z_callV_i (As := [.int (iI (((hs h 42 x1 (h 30 9))) 30 9)), .int (iI 0)]) (k1 := (zk h)) (n1 := (5 * zk h)) (nA := 2) hX (mX6_get hc11) dX6_readGame_86 gX6_readGame_X6_get rfl ⟨rfl, by decide, by decide, by decide +kernel⟩ ⟨by decide, by decide⟩ ⟨by dsimp only; omega, by dsimp only; omega⟩ 0 rfl rfl rfl rfl (Nat.le_of_ble_eq_true rfl) (by decide +kernel) rfl rfl (fun hg11 => ?_)
              refine z_putI hX dX6_readGame_89 fl_95 pu_X6_9 0 rfl rfl ?_
              have hf : zfr [30, 35, 36, 37, 38, 40, 42, 90] h0 (hs (hs h 42 x1 (h 30 9)) 30 9 r11) := zfr_hs hf (by decide)
              refine z_aload_n hX dX6_readGame_92 3 rfl ?_
              refine z_aload_n hX dX6_readGame_93 3 rfl ?_
              refine z_getI hX dX6_readGame_94 fl_95 0 rfl rfl ?_
              obtain ⟨r12, hc12, hr⟩ := z_bind hr
              refine z_callV_v (As := [.int (iI (((hs (hs h 42 x1 (h 30 9)) 30 9 r11)) 30 9))]) (k1 := (zk h)) (n1 := (5 * zk h)) (nA := 1) hX (mX6_set hc12) dX6_readGame_97 gX6_readGame_X6_set rfl ⟨rfl, by decide, by decide, by decide +kernel⟩ ⟨by decide, by decide⟩ ⟨by dsimp only; omega, by dsimp only; omega⟩ 0 rfl rfl rfl rfl (Nat.le_of_ble_eq_true rfl) (by decide +kernel) rfl rfl (fun hg12 => ?_)
              have hf : zfr [30, 35, 36, 37, 38, 40, 42, 90] h0 r12 := zfr_tr hf (by decide) hg12
              refine z_iconst hX dX6_readGame_100 ?_
              refine z_istore_n (lv1 := [(2, .int (iI 1)), (1, .int (iI (x1 + 1))), (3, .int (iI (x3 + 1))), (4, .int (iI x3)), (0, .ref (ad 30))]) hX dX6_readGame_101 (by decide) rfl ?_
              refine z_goto (tgt := 256) hX dX6_readGame_102 (by decide) ?_
              refine z_goto (tgt := 20) hX dX6_readGame_256 (by decide) ?_
              obtain ⟨hkj, hr⟩ := z_ifg hr
              refine z_widen (k1 := zk r12) (n1 := 5 * zk r12) hkj (by omega) ?_
              refine z_lv [4, 1, 0, 2] rfl ?_
              exact ih20 (x1 + 1) 1 (x3 + 1) r12 hf hr
            · obtain ⟨hkj, hr⟩ := z_ifg hr
              refine z_widen (k1 := zk h) (n1 := 5 * zk h) hkj (by omega) ?_
              refine z_lv [2, 1] rfl ?_
              exact B57 x3 h hf hr
  unfold fX6_readGame at hr
  refine z_aload_n hX dX6_readGame_0 0 rfl ?_
  refine z_iconst hX dX6_readGame_1 ?_
  refine z_putI hX dX6_readGame_2 fl_66 pu_X6_0 0 rfl rfl ?_
  have hf : zfr [30, 35, 36, 37, 38, 40, 42, 90] h0 (hs h0 30 0 0) := zfr_hs hf (by decide)
  refine z_aload_n hX dX6_readGame_5 0 rfl ?_
  obtain ⟨r13, hc13, hr⟩ := z_bind hr
  refine z_callV_v (As := []) (k1 := 0) (n1 := 0) (nA := 0) hX (mX6_clearNodes hc13) dX6_readGame_6 gX6_readGame_X6_clearNodes rfl ⟨rfl, by decide, by decide, by decide +kernel⟩ ⟨by decide, by decide⟩ ⟨by decide, by decide⟩ 0 rfl rfl rfl rfl (Nat.le_of_ble_eq_true rfl) (by decide +kernel) rfl rfl (fun hg13 => ?_)
  have hf : zfr [30, 35, 36, 37, 38, 40, 42, 90] h0 r13 := zfr_tr hf (by decide) hg13
  refine z_aload_n hX dX6_readGame_9 0 rfl ?_
  refine z_iconst hX dX6_readGame_10 ?_
  refine z_putI hX dX6_readGame_11 fl_42 pu_X6_14 0 rfl rfl ?_
  have hf : zfr [30, 35, 36, 37, 38, 40, 42, 90] h0 (hs r13 30 14 (-1)) := zfr_hs hf (by decide)
  refine z_iconst hX dX6_readGame_14 ?_
  refine z_istore_n (lv1 := [(1, .int (iI 0)), (0, .ref (ad 30))]) hX dX6_readGame_15 (by decide) rfl ?_
  refine z_iconst hX dX6_readGame_16 ?_
  refine z_istore_n (lv1 := [(2, .int (iI 0)), (1, .int (iI 0)), (0, .ref (ad 30))]) hX dX6_readGame_17 (by decide) rfl ?_
  refine z_iconst hX dX6_readGame_18 ?_
  refine z_istore_n (lv1 := [(3, .int (iI 0)), (2, .int (iI 0)), (1, .int (iI 0)), (0, .ref (ad 30))]) hX dX6_readGame_19 (by decide) rfl ?_
  obtain ⟨hkj, hr⟩ := z_ifg hr
  refine z_widen (k1 := zk (hs r13 30 14 (-1))) (n1 := 5 * zk (hs r13 30 14 (-1))) hkj (by omega) ?_
  refine z_lv [3, 2, 1, 0] rfl ?_
  exact B20 zF 0 0 0 (hs r13 30 14 (-1)) hf hr

def fX6_clear (h : HS) : Option (Int × HS) := (fX6_clearNodes (hs h 30 0 0)).bind fun r1 => some ((((hs h 30 0 0)) 30 8), r1)
set_option maxRecDepth 100000 in
set_option maxHeartbeats 4000000 in
theorem mX6_clear {G : ZG} {l0 : Launch} {ad : Nat → Nat} {h0 : HS} {o : Int × HS} (hr : fX6_clear h0 = some o) : ZMi G l0 yX6_clear wsX6_clear ({ frames := 3, cells := 0, slots := 0, locals := 83 }) [.ref (ad 30)] sh_8 ad h0 [30, 35, 37, 40] o.1 o.2 := by
  refine ZMi.of (cc := cX6_clear) (maxL := 2) (ret := (some .int)) (own := RX6) (lv0 := [(0, .ref (ad 30))]) (by decide) rfl rfl rfl (Nat.le_of_ble_eq_true rfl) rfl ?_
  intro X hX hQ
  have hf : zfr [30, 35, 37, 40] h0 h0 := zfr_rf
  have fl_28 : zFld wsX6_clear RX6 28 6 RX6 TX6 26 8 := ⟨by decide +kernel, by decide +kernel, by decide, rfl⟩
  have fl_66 : zFld wsX6_clear RX6 66 6 RX6 TX6 26 0 := ⟨by decide +kernel, by decide +kernel, by decide, rfl⟩
  have pu_X6_0 : zPut TX6 26 0 tyX6 .int := ⟨tyX6_ok, nmX6, rfl, by decide +kernel⟩
  unfold fX6_clear at hr
  refine z_aload_n hX dX6_clear_0 0 rfl ?_
  refine z_iconst hX dX6_clear_1 ?_
  refine z_putI hX dX6_clear_2 fl_66 pu_X6_0 0 rfl rfl ?_
  have hf : zfr [30, 35, 37, 40] h0 (hs h0 30 0 0) := zfr_hs hf (by decide)
  refine z_aload_n hX dX6_clear_5 0 rfl ?_
  refine z_getI hX dX6_clear_6 fl_28 0 rfl rfl ?_
  refine z_istore_n (lv1 := [(1, .int (iI (((hs h0 30 0 0)) 30 8))), (0, .ref (ad 30))]) hX dX6_clear_9 (by decide) rfl ?_
  refine z_aload_n hX dX6_clear_10 1 rfl ?_
  obtain ⟨r1, hc1, hr⟩ := z_bind hr
  refine z_callV_v (As := []) (k1 := 0) (n1 := 0) (nA := 0) hX (mX6_clearNodes hc1) dX6_clear_11 gX6_clear_X6_clearNodes rfl ⟨rfl, by decide, by decide, by decide +kernel⟩ ⟨by decide, by decide⟩ ⟨by decide, by decide⟩ 0 rfl rfl rfl rfl (Nat.le_of_ble_eq_true rfl) (by decide +kernel) rfl rfl (fun hg1 => ?_)
  have hf : zfr [30, 35, 37, 40] h0 r1 := zfr_tr hf (by decide) hg1
  refine z_iload_n hX dX6_clear_14 0 rfl ?_
  obtain rfl := Option.some.inj hr
  exact hQ _ _ dX6_clear_15 hf

def fX6_digest_L147 : Nat → Int64 → Int → HS → Option (Int64 × HS)
  | 0, _, _, _ => none
  | nf + 1, x1, x3, h => if wr (h 30 13) ≤ wr x3 then some (x1, h) else if (0 : Int) ≤ x3 ∧ x3 < 2000 then fX6_digest_L147 nf ((x1 * (31 : Int64)) + (iI (h 39 x3)).toInt64) (x3 + 1) h else none
def fX6_digest_L107 (k66 : Int64 → Int → HS → Option (Int64 × HS)) : Nat → Int64 → Int → Int → HS → Option (Int64 × HS)
  | 0, _, _, _, _ => none
  | nf + 1, x1, x3, x4, h => (fX6_get x3 4 h).bind fun r1 => if wr r1 ≤ wr x4 then k66 x1 (x3 + 1) h else (fX6_continuation0 x3 x4 h).bind fun r2 => fX6_digest_L107 k66 nf ((x1 * (31 : Int64)) + (iI r2).toInt64) x3 (x4 + 1) h
def fX6_digest_L77 (k66 : Int64 → Int → HS → Option (Int64 × HS)) : Nat → Int64 → Int → Int → HS → Option (Int64 × HS)
  | 0, _, _, _, _ => none
  | nf + 1, x1, x3, x4, h => if (5 : Int) ≤ wr x4 then fX6_digest_L107 k66 zF x1 x3 0 h else (fX6_get x3 x4 h).bind fun r3 => fX6_digest_L77 k66 nf ((x1 * (31 : Int64)) + (iI r3).toInt64) x3 (x4 + 1) h
def fX6_digest_L66 : Nat → Int64 → Int → HS → Option (Int64 × HS)
  | 0, _, _, _ => none
  | nf + 1, x1, x3, h => if wr (h 30 8) ≤ wr x3 then fX6_digest_L147 zF x1 0 h else fX6_digest_L77 (fun a0 a1 hh => fX6_digest_L66 nf a0 a1 hh) zF x1 x3 0 h
def fX6_digest_L38 : Nat → Int64 → Int → HS → Option (Int64 × HS)
  | 0, _, _, _ => none
  | nf + 1, x1, x3, h => if (64 : Int) ≤ wr x3 then fX6_digest_L66 zF x1 0 h else if (0 : Int) ≤ x3 ∧ x3 < 64 then fX6_digest_L38 nf ((x1 * (31 : Int64)) + (iI (h 35 x3)).toInt64) (x3 + 1) h else none
def fX6_digest_L11 : Nat → Int64 → Int → HS → Option (Int64 × HS)
  | 0, _, _, _ => none
  | nf + 1, x1, x3, h => if (7 : Int) ≤ wr x3 then fX6_digest_L38 zF x1 0 h else (fX6_stateTold x3 h).bind fun r4 => fX6_digest_L11 nf ((x1 * (31 : Int64)) + (iI r4.1).toInt64) (x3 + 1) r4.2
def fX6_digest (h : HS) : Option (Int64 × HS) := fX6_digest_L11 zF (353 : Int64) 0 (hs h 30 0 0)
set_option maxRecDepth 100000 in
set_option maxHeartbeats 4000000 in
theorem mX6_digest {G : ZG} {l0 : Launch} {ad : Nat → Nat} {h0 : HS} {o : Int64 × HS} (hr : fX6_digest h0 = some o) : ZMl G l0 yX6_digest wsX6_digest ({ frames := 7, cells := 0, slots := 0, locals := 169 }) [.ref (ad 30)] sh_8 ad h0 [30, 36] o.1 o.2 := by
  refine ZMl.of (cc := cX6_digest) (maxL := 5) (ret := (some .long)) (own := RX6) (lv0 := [(0, .ref (ad 30))]) (by decide) rfl rfl rfl (Nat.le_of_ble_eq_true rfl) rfl ?_
  intro X hX hQ
  have hf : zfr [30, 36] h0 h0 := zfr_rf
  have fl_127 : zFld wsX6_digest RX6 127 6 RX6 TX6 26 13 := ⟨by decide +kernel, by decide +kernel, by decide, rfl⟩
  have fl_22 : zFld wsX6_digest RX6 22 6 RX6 TX6 26 6 := ⟨by decide +kernel, by decide +kernel, by decide, rfl⟩
  have fl_28 : zFld wsX6_digest RX6 28 6 RX6 TX6 26 8 := ⟨by decide +kernel, by decide +kernel, by decide, rfl⟩
  have fl_39 : zFld wsX6_digest RX6 39 6 RX6 TX6 26 12 := ⟨by decide +kernel, by decide +kernel, by decide, rfl⟩
  have fl_66 : zFld wsX6_digest RX6 66 6 RX6 TX6 26 0 := ⟨by decide +kernel, by decide +kernel, by decide, rfl⟩
  have pu_X6_0 : zPut TX6 26 0 tyX6 .int := ⟨tyX6_ok, nmX6, rfl, by decide +kernel⟩
  have B147 : ∀ (nf : Nat) (x1 : Int64) (x3 : Int) (h : HS), zfr [30, 36] h0 h → fX6_digest_L147 nf x1 x3 h = some o → ZW G X sh_8 ad h 0 0 [(0, .ref (ad 30)), (1, .long x1), (3, .int (iI x3))] 147 [] := by
    intro nf
    induction nf with
    | zero => intro x1 x3 h hf hr; exact z_none hr
    | succ n147 ih147 =>
      intro x1 x3 h hf hr
      unfold fX6_digest_L147 at hr
      refine z_iload_n hX dX6_digest_147 2 rfl ?_
      refine z_aload_n hX dX6_digest_148 0 rfl ?_
      refine z_getI hX dX6_digest_149 fl_127 0 rfl rfl ?_
      refine z_icmp_ge (tgt := 175) hX dX6_digest_152 (by decide) rfl rfl hr (fun hr => ?_) (fun hr => ?_)
      · refine z_lload_n hX dX6_digest_175 1 rfl ?_
        obtain rfl := Option.some.inj hr
        exact hQ _ _ dX6_digest_176 hf
      · refine z_lload_n hX dX6_digest_155 1 rfl ?_
        refine z_ldc2 (v := 31) hX dX6_digest_156 (by decide +kernel) ?_
        refine z_lmul hX dX6_digest_159 ?_
        refine z_aload_n hX dX6_digest_160 0 rfl ?_
        refine z_getR (j := 39) hX dX6_digest_161 fl_39 0 rfl rfl ?_
        refine z_iload_n hX dX6_digest_164 2 rfl ?_
        refine z_iaload (b := 2000) hX dX6_digest_165 9 rfl (by decide) rfl hr (fun hr => ?_)
        refine z_i2l hX dX6_digest_166 ?_
        refine z_ladd hX dX6_digest_167 ?_
        refine z_lstore_n (lv1 := [(1, .long ((x1 * (31 : Int64)) + (iI (h 39 x3)).toInt64)), (0, .ref (ad 30)), (3, .int (iI x3))]) hX dX6_digest_168 (by decide) rfl ?_
        refine z_iinc (lv1 := [(3, .int (iI (x3 + 1))), (1, .long ((x1 * (31 : Int64)) + (iI (h 39 x3)).toInt64)), (0, .ref (ad 30))]) hX dX6_digest_169 2 rfl (by decide) rfl ?_
        refine z_goto (tgt := 147) hX dX6_digest_172 (by decide) ?_
        refine z_lv [2, 1, 0] rfl ?_
        exact ih147 ((x1 * (31 : Int64)) + (iI (h 39 x3)).toInt64) (x3 + 1) h hf hr
  have B66 : ∀ (nf : Nat) (x1 : Int64) (x3 : Int) (h : HS), zfr [30, 36] h0 h → fX6_digest_L66 nf x1 x3 h = some o → ZW G X sh_8 ad h 0 0 [(0, .ref (ad 30)), (1, .long x1), (3, .int (iI x3))] 66 [] := by
    intro nf
    induction nf with
    | zero => intro x1 x3 h hf hr; exact z_none hr
    | succ n66 ih66 =>
      intro x1 x3 h hf hr
      have B107 : ∀ (nf : Nat) (x1 : Int64) (x3 : Int) (x4 : Int) (h : HS), zfr [30, 36] h0 h → fX6_digest_L107 (fun a0 a1 hh => fX6_digest_L66 n66 a0 a1 hh) nf x1 x3 x4 h = some o → ZW G X sh_8 ad h 0 0 [(0, .ref (ad 30)), (1, .long x1), (3, .int (iI x3)), (4, .int (iI x4))] 107 [] := by
        intro nf
        induction nf with
        | zero => intro x1 x3 x4 h hf hr; exact z_none hr
        | succ n107 ih107 =>
          intro x1 x3 x4 h hf hr
          unfold fX6_digest_L107 at hr
          refine z_iload hX dX6_digest_107 3 rfl ?_
          refine z_aload_n hX dX6_digest_109 0 rfl ?_
          refine z_iload_n hX dX6_digest_110 2 rfl ?_
          refine z_iconst hX dX6_digest_111 ?_
          obtain ⟨r1, hc1, hr⟩ := z_bind hr
          refine z_callV_i (As := [.int (iI x3), .int (iI 4)]) (k1 := 0) (n1 := 0) (nA := 2) hX (mX6_get hc1) dX6_digest_112 gX6_digest_X6_get rfl ⟨rfl, by decide, by decide, by decide +kernel⟩ ⟨by decide, by decide⟩ ⟨by decide, by decide⟩ 0 rfl rfl rfl rfl (Nat.le_of_ble_eq_true rfl) (by decide +kernel) rfl rfl (fun hg1 => ?_)
          refine z_icmp_ge (tgt := 139) hX dX6_digest_115 (by decide) rfl rfl hr (fun hr => ?_) (fun hr => ?_)
          · refine z_iinc (lv1 := [(3, .int (iI (x3 + 1))), (0, .ref (ad 30)), (1, .long x1), (4, .int (iI x4))]) hX dX6_digest_139 2 rfl (by decide) rfl ?_
            refine z_goto (tgt := 66) hX dX6_digest_142 (by decide) ?_
            refine z_lv [1, 2, 0] rfl ?_
            exact ih66 x1 (x3 + 1) h hf hr
          · refine z_lload_n hX dX6_digest_118 1 rfl ?_
            refine z_ldc2 (v := 31) hX dX6_digest_119 (by decide +kernel) ?_
            refine z_lmul hX dX6_digest_122 ?_
            refine z_aload_n hX dX6_digest_123 0 rfl ?_
            refine z_iload_n hX dX6_digest_124 2 rfl ?_
            refine z_iload hX dX6_digest_125 3 rfl ?_
            obtain ⟨r2, hc2, hr⟩ := z_bind hr
            refine z_callV_i (As := [.int (iI x3), .int (iI x4)]) (k1 := 0) (n1 := 0) (nA := 2) hX (mX6_continuation0 hc2) dX6_digest_127 gX6_digest_X6_continuation0 rfl ⟨rfl, by decide, by decide, by decide +kernel⟩ ⟨by decide, by decide⟩ ⟨by decide, by decide⟩ 0 rfl rfl rfl rfl (Nat.le_of_ble_eq_true rfl) (by decide +kernel) rfl rfl (fun hg2 => ?_)
            refine z_i2l hX dX6_digest_130 ?_
            refine z_ladd hX dX6_digest_131 ?_
            refine z_lstore_n (lv1 := [(1, .long ((x1 * (31 : Int64)) + (iI r2).toInt64)), (0, .ref (ad 30)), (3, .int (iI x3)), (4, .int (iI x4))]) hX dX6_digest_132 (by decide) rfl ?_
            refine z_iinc (lv1 := [(4, .int (iI (x4 + 1))), (1, .long ((x1 * (31 : Int64)) + (iI r2).toInt64)), (0, .ref (ad 30)), (3, .int (iI x3))]) hX dX6_digest_133 3 rfl (by decide) rfl ?_
            refine z_goto (tgt := 107) hX dX6_digest_136 (by decide) ?_
            refine z_lv [2, 1, 3, 0] rfl ?_
            exact ih107 ((x1 * (31 : Int64)) + (iI r2).toInt64) x3 (x4 + 1) h hf hr
      have B77 : ∀ (nf : Nat) (x1 : Int64) (x3 : Int) (x4 : Int) (h : HS), zfr [30, 36] h0 h → fX6_digest_L77 (fun a0 a1 hh => fX6_digest_L66 n66 a0 a1 hh) nf x1 x3 x4 h = some o → ZW G X sh_8 ad h 0 0 [(0, .ref (ad 30)), (1, .long x1), (3, .int (iI x3)), (4, .int (iI x4))] 77 [] := by
        intro nf
        induction nf with
        | zero => intro x1 x3 x4 h hf hr; exact z_none hr
        | succ n77 ih77 =>
          intro x1 x3 x4 h hf hr
          unfold fX6_digest_L77 at hr
          refine z_iload hX dX6_digest_77 3 rfl ?_
          refine z_iconst hX dX6_digest_79 ?_
          refine z_icmp_ge (tgt := 104) hX dX6_digest_80 (by decide) rfl (wr_of (by decide) (by decide)) hr (fun hr => ?_) (fun hr => ?_)
          · refine z_iconst hX dX6_digest_104 ?_
            refine z_istore (lv1 := [(4, .int (iI 0)), (0, .ref (ad 30)), (1, .long x1), (3, .int (iI x3))]) hX dX6_digest_105 (by decide) rfl ?_
            refine z_lv [1, 2, 3, 0] rfl ?_
            exact B107 zF x1 x3 0 h hf hr
          · refine z_lload_n hX dX6_digest_83 1 rfl ?_
            refine z_ldc2 (v := 31) hX dX6_digest_84 (by decide +kernel) ?_
            refine z_lmul hX dX6_digest_87 ?_
            refine z_aload_n hX dX6_digest_88 0 rfl ?_
            refine z_iload_n hX dX6_digest_89 2 rfl ?_
            refine z_iload hX dX6_digest_90 3 rfl ?_
            obtain ⟨r3, hc3, hr⟩ := z_bind hr
            refine z_callV_i (As := [.int (iI x3), .int (iI x4)]) (k1 := 0) (n1 := 0) (nA := 2) hX (mX6_get hc3) dX6_digest_92 gX6_digest_X6_get rfl ⟨rfl, by decide, by decide, by decide +kernel⟩ ⟨by decide, by decide⟩ ⟨by decide, by decide⟩ 0 rfl rfl rfl rfl (Nat.le_of_ble_eq_true rfl) (by decide +kernel) rfl rfl (fun hg3 => ?_)
            refine z_i2l hX dX6_digest_95 ?_
            refine z_ladd hX dX6_digest_96 ?_
            refine z_lstore_n (lv1 := [(1, .long ((x1 * (31 : Int64)) + (iI r3).toInt64)), (0, .ref (ad 30)), (3, .int (iI x3)), (4, .int (iI x4))]) hX dX6_digest_97 (by decide) rfl ?_
            refine z_iinc (lv1 := [(4, .int (iI (x4 + 1))), (1, .long ((x1 * (31 : Int64)) + (iI r3).toInt64)), (0, .ref (ad 30)), (3, .int (iI x3))]) hX dX6_digest_98 3 rfl (by decide) rfl ?_
            refine z_goto (tgt := 77) hX dX6_digest_101 (by decide) ?_
            refine z_lv [2, 1, 3, 0] rfl ?_
            exact ih77 ((x1 * (31 : Int64)) + (iI r3).toInt64) x3 (x4 + 1) h hf hr
      unfold fX6_digest_L66 at hr
      refine z_iload_n hX dX6_digest_66 2 rfl ?_
      refine z_aload_n hX dX6_digest_67 0 rfl ?_
      refine z_getI hX dX6_digest_68 fl_28 0 rfl rfl ?_
      refine z_icmp_ge (tgt := 145) hX dX6_digest_71 (by decide) rfl rfl hr (fun hr => ?_) (fun hr => ?_)
      · refine z_iconst hX dX6_digest_145 ?_
        refine z_istore_n (lv1 := [(3, .int (iI 0)), (0, .ref (ad 30)), (1, .long x1)]) hX dX6_digest_146 (by decide) rfl ?_
        refine z_lv [1, 2, 0] rfl ?_
        exact B147 zF x1 0 h hf hr
      · refine z_iconst hX dX6_digest_74 ?_
        refine z_istore (lv1 := [(4, .int (iI 0)), (0, .ref (ad 30)), (1, .long x1), (3, .int (iI x3))]) hX dX6_digest_75 (by decide) rfl ?_
        refine z_lv [1, 2, 3, 0] rfl ?_
        exact B77 zF x1 x3 0 h hf hr
  have B38 : ∀ (nf : Nat) (x1 : Int64) (x3 : Int) (h : HS), zfr [30, 36] h0 h → fX6_digest_L38 nf x1 x3 h = some o → ZW G X sh_8 ad h 0 0 [(0, .ref (ad 30)), (1, .long x1), (3, .int (iI x3))] 38 [] := by
    intro nf
    induction nf with
    | zero => intro x1 x3 h hf hr; exact z_none hr
    | succ n38 ih38 =>
      intro x1 x3 h hf hr
      unfold fX6_digest_L38 at hr
      refine z_iload_n hX dX6_digest_38 2 rfl ?_
      refine z_bipush hX dX6_digest_39 (by decide +kernel) ?_
      refine z_icmp_ge (tgt := 64) hX dX6_digest_41 (by decide) rfl (wr_of (by decide) (by decide)) hr (fun hr => ?_) (fun hr => ?_)
      · refine z_iconst hX dX6_digest_64 ?_
        refine z_istore_n (lv1 := [(3, .int (iI 0)), (0, .ref (ad 30)), (1, .long x1)]) hX dX6_digest_65 (by decide) rfl ?_
        refine z_lv [1, 2, 0] rfl ?_
        exact B66 zF x1 0 h hf hr
      · refine z_lload_n hX dX6_digest_44 1 rfl ?_
        refine z_ldc2 (v := 31) hX dX6_digest_45 (by decide +kernel) ?_
        refine z_lmul hX dX6_digest_48 ?_
        refine z_aload_n hX dX6_digest_49 0 rfl ?_
        refine z_getR (j := 35) hX dX6_digest_50 fl_22 0 rfl rfl ?_
        refine z_iload_n hX dX6_digest_53 2 rfl ?_
        refine z_iaload (b := 64) hX dX6_digest_54 5 rfl (by decide) rfl hr (fun hr => ?_)
        refine z_i2l hX dX6_digest_55 ?_
        refine z_ladd hX dX6_digest_56 ?_
        refine z_lstore_n (lv1 := [(1, .long ((x1 * (31 : Int64)) + (iI (h 35 x3)).toInt64)), (0, .ref (ad 30)), (3, .int (iI x3))]) hX dX6_digest_57 (by decide) rfl ?_
        refine z_iinc (lv1 := [(3, .int (iI (x3 + 1))), (1, .long ((x1 * (31 : Int64)) + (iI (h 35 x3)).toInt64)), (0, .ref (ad 30))]) hX dX6_digest_58 2 rfl (by decide) rfl ?_
        refine z_goto (tgt := 38) hX dX6_digest_61 (by decide) ?_
        refine z_lv [2, 1, 0] rfl ?_
        exact ih38 ((x1 * (31 : Int64)) + (iI (h 35 x3)).toInt64) (x3 + 1) h hf hr
  have B11 : ∀ (nf : Nat) (x1 : Int64) (x3 : Int) (h : HS), zfr [30, 36] h0 h → fX6_digest_L11 nf x1 x3 h = some o → ZW G X sh_8 ad h 0 0 [(0, .ref (ad 30)), (1, .long x1), (3, .int (iI x3))] 11 [] := by
    intro nf
    induction nf with
    | zero => intro x1 x3 h hf hr; exact z_none hr
    | succ n11 ih11 =>
      intro x1 x3 h hf hr
      unfold fX6_digest_L11 at hr
      refine z_iload_n hX dX6_digest_11 2 rfl ?_
      refine z_bipush hX dX6_digest_12 (by decide +kernel) ?_
      refine z_icmp_ge (tgt := 36) hX dX6_digest_14 (by decide) rfl (wr_of (by decide) (by decide)) hr (fun hr => ?_) (fun hr => ?_)
      · refine z_iconst hX dX6_digest_36 ?_
        refine z_istore_n (lv1 := [(3, .int (iI 0)), (0, .ref (ad 30)), (1, .long x1)]) hX dX6_digest_37 (by decide) rfl ?_
        refine z_lv [1, 2, 0] rfl ?_
        exact B38 zF x1 0 h hf hr
      · refine z_lload_n hX dX6_digest_17 1 rfl ?_
        refine z_ldc2 (v := 31) hX dX6_digest_18 (by decide +kernel) ?_
        refine z_lmul hX dX6_digest_21 ?_
        refine z_aload_n hX dX6_digest_22 0 rfl ?_
        refine z_iload_n hX dX6_digest_23 2 rfl ?_
        obtain ⟨r4, hc4, hr⟩ := z_bind hr
        refine z_callV_i (As := [.int (iI x3)]) (k1 := 0) (n1 := 0) (nA := 1) hX (mX6_stateTold hc4) dX6_digest_24 gX6_digest_X6_stateTold rfl ⟨rfl, by decide, by decide, by decide +kernel⟩ ⟨by decide, by decide⟩ ⟨by decide, by decide⟩ 0 rfl rfl rfl rfl (Nat.le_of_ble_eq_true rfl) (by decide +kernel) rfl rfl (fun hg4 => ?_)
        have hf : zfr [30, 36] h0 r4.2 := zfr_tr hf (by decide) hg4
        refine z_i2l hX dX6_digest_27 ?_
        refine z_ladd hX dX6_digest_28 ?_
        refine z_lstore_n (lv1 := [(1, .long ((x1 * (31 : Int64)) + (iI r4.1).toInt64)), (0, .ref (ad 30)), (3, .int (iI x3))]) hX dX6_digest_29 (by decide) rfl ?_
        refine z_iinc (lv1 := [(3, .int (iI (x3 + 1))), (1, .long ((x1 * (31 : Int64)) + (iI r4.1).toInt64)), (0, .ref (ad 30))]) hX dX6_digest_30 2 rfl (by decide) rfl ?_
        refine z_goto (tgt := 11) hX dX6_digest_33 (by decide) ?_
        refine z_lv [2, 1, 0] rfl ?_
        exact ih11 ((x1 * (31 : Int64)) + (iI r4.1).toInt64) (x3 + 1) r4.2 hf hr
  unfold fX6_digest at hr
  refine z_aload_n hX dX6_digest_0 0 rfl ?_
  refine z_iconst hX dX6_digest_1 ?_
  refine z_putI hX dX6_digest_2 fl_66 pu_X6_0 0 rfl rfl ?_
  have hf : zfr [30, 36] h0 (hs h0 30 0 0) := zfr_hs hf (by decide)
  refine z_ldc2 (v := 353) hX dX6_digest_5 (by decide +kernel) ?_
  refine z_lstore_n (lv1 := [(1, .long (353 : Int64)), (0, .ref (ad 30))]) hX dX6_digest_8 (by decide) rfl ?_
  refine z_iconst hX dX6_digest_9 ?_
  refine z_istore_n (lv1 := [(3, .int (iI 0)), (1, .long (353 : Int64)), (0, .ref (ad 30))]) hX dX6_digest_10 (by decide) rfl ?_
  refine z_lv [2, 1, 0] rfl ?_
  exact B11 zF (353 : Int64) 0 (hs h0 30 0 0) hf hr

