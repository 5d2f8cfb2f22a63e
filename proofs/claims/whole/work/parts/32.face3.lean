def fX5_writeGame_b105 (x1 : Int) (h : HS) : Option (Int × Int × HS) := (fX5_visit x1 h).bind fun r1 => (fX3_hasSpilled_d r1).bind fun r2 => if wr r2 = 0 then (fX3_size_d r1).bind fun r3 => some (0, r3, (hsw r1)) else some (3, 0, r1)
def fX5_writeGame_b91 (k21 : Int → Int → Int → HS → Option (Int × Int × HS)) (x1 : Int) (x2 : Int) (x3 : Int) (x4 : Int) (h : HS) : Option (Int × Int × HS) := (fX5_goOn x2 x4 h).bind fun r4 => k21 x1 r4.1 (x3 + 1) r4.2
def fX5_writeGame_L21 : Nat → Int → Int → Int → HS → Option (Int × Int × HS)
  | 0, _, _, _, _ => none
  | nf + 1, x1, x2, x3, h => if (800 : Int) ≤ wr x3 then fX5_writeGame_b105 x1 h else if wr x2 = ((-1) : Int) then fX5_writeGame_b105 x1 h else (fX4_child (h 0 8) x2 h).bind fun r5 => if wr r5 = ((-1) : Int) then fX5_writeGame_b91 (fun a0 a1 a2 hh => fX5_writeGame_L21 nf a0 a1 a2 hh) x1 x2 x3 r5 h else (fX5_writeOpening x2 h).bind fun r6 => (fX3_separate_d r6).bind fun r7 => (fX4_from r5 r7).bind fun r8 => (fX4_to r5 r7).bind fun r9 => (fX5_writeMove_d r8 r9 r7).bind fun r10 => fX5_writeGame_b91 (fun a0 a1 a2 hh => fX5_writeGame_L21 nf a0 a1 a2 hh) x1 x2 x3 r5 r10
def fX5_writeGame (h : HS) : Option (Int × Int × HS) := (fX5_visit 0 h).bind fun r11 => (fX3_wipe_d r11).bind fun r12 => fX5_writeGame_L21 zF (h 0 8) 0 0 r12
set_option maxRecDepth 100000 in
set_option maxHeartbeats 4000000 in
theorem mX5_writeGame {G : ZG} {l0 : Launch} {ad : Nat → Nat} {h0 : HS} {o : Int × Int × HS} (hst : l0.stackTraces = false) (hr : fX5_writeGame h0 = some o) : ZTi G l0 yX5_writeGame wsX5_writeGame ({ frames := 6, cells := 1, slots := 6, locals := 162 }) [.ref (ad 0)] sh_7 ad (asw ad) h0 [0, 8, 13, 19, 20, 21, 22, 23] o.1 o.2.1 o.2.2 := by
  refine ZTi.of (cc := cX5_writeGame) (maxL := 5) (ret := (some .int)) (lv0 := [(0, .ref (ad 0))]) hst (by decide) rfl rfl rfl (Nat.le_of_ble_eq_true rfl) rfl ?_
  intro X hX hQ hT
  have hf : zfr [0, 8, 13, 19, 20, 21, 22, 23] h0 h0 := zfr_rf
  have fl_28 : zFld wsX5_writeGame RX5 28 5 RX5 TX5 16 2 := ⟨by decide +kernel, by decide +kernel, by decide, rfl⟩
  have fl_49 : zFld wsX5_writeGame RX5 49 5 RX5 TX5 16 6 := ⟨by decide +kernel, by decide +kernel, by decide, rfl⟩
  have fl_53 : zFld wsX5_writeGame RX5 53 5 RX5 TX5 16 7 := ⟨by decide +kernel, by decide +kernel, by decide, rfl⟩
  have fl_56 : zFld wsX5_writeGame RX5 56 5 RX5 TX5 16 8 := ⟨by decide +kernel, by decide +kernel, by decide, rfl⟩
  have pu_X5_6 : zPut TX5 16 6 tyX5 (.object "BoardNotation$Text") := ⟨tyX5_ok, nmX5, rfl, by decide +kernel⟩
  have pu_X5_7 : zPut TX5 16 7 tyX5 (.object "BoardNotation$Text") := ⟨tyX5_ok, nmX5, rfl, by decide +kernel⟩
  have B105 : ∀ (x1 : Int) (h : HS), zfr [0, 8, 13, 19, 20, 21, 22, 23] h0 h → fX5_writeGame_b105 x1 h = some o → ZW G X sh_7 ad h 0 0 [(0, .ref (ad 0)), (1, .int (iI x1))] 105 [] := by
    intro x1 h hf hr
    unfold fX5_writeGame_b105 at hr
    refine z_aload_n hX dX5_writeGame_105 0 rfl ?_
    refine z_iload_n hX dX5_writeGame_106 1 rfl ?_
    obtain ⟨r1, hc1, hr⟩ := z_bind hr
    refine z_callV_v (As := [.int (iI x1)]) (k1 := 0) (n1 := 0) (nA := 1) hX (mX5_visit hc1) dX5_writeGame_107 gX5_writeGame_X5_visit rfl ⟨rfl, by decide, by decide, by decide +kernel⟩ ⟨by decide, by decide⟩ ⟨by decide, by decide⟩ 0 rfl rfl rfl rfl (Nat.le_of_ble_eq_true rfl) (by decide +kernel) rfl rfl (fun hg1 => ?_)
    have hf : zfr [0, 8, 13, 19, 20, 21, 22, 23] h0 r1 := zfr_tr hf (by decide) hg1
    refine z_aload_n hX dX5_writeGame_110 0 rfl ?_
    refine z_getR (j := 21) hX dX5_writeGame_111 fl_53 0 rfl rfl ?_
    obtain ⟨r2, hc2, hr⟩ := z_bind hr
    refine z_callV_i (As := []) (k1 := 0) (n1 := 0) (nA := 0) hX (mX3_hasSpilled_d hc2) dX5_writeGame_114 gX5_writeGame_X3_hasSpilled rfl ⟨rfl, by decide, by decide, by decide +kernel⟩ ⟨by decide, by decide⟩ ⟨by decide, by decide⟩ 21 rfl rfl rfl rfl (Nat.le_of_ble_eq_true rfl) (by decide +kernel) rfl rfl (fun hg2 => ?_)
    refine z_if_eq (tgt := 130) hX dX5_writeGame_117 (by decide) rfl hr (fun hr => ?_) (fun hr => ?_)
    · refine z_aload_n hX dX5_writeGame_130 0 rfl ?_
      refine z_getR (j := 19) hX dX5_writeGame_131 fl_49 0 rfl rfl ?_
      refine z_astore_n (lv1 := [(3, .ref (ad 19)), (0, .ref (ad 0)), (1, .int (iI x1))]) hX dX5_writeGame_134 (by decide) rfl ?_
      refine z_aload_n hX dX5_writeGame_135 1 rfl ?_
      refine z_aload_n hX dX5_writeGame_136 1 rfl ?_
      refine z_getR (j := 21) hX dX5_writeGame_137 fl_53 0 rfl rfl ?_
      refine z_putR (j := 21) (j0 := 19) (D := "BoardNotation$Text") (sh1 := sh_7a) hX dX5_writeGame_140 fl_49 pu_X5_6 0 rfl rfl rfl ?_
      refine z_aload_n hX dX5_writeGame_143 1 rfl ?_
      refine z_aload_n hX dX5_writeGame_144 0 rfl ?_
      refine z_putR (j := 19) (j0 := 21) (D := "BoardNotation$Text") (sh1 := sh_7s) hX dX5_writeGame_145 fl_53 pu_X5_7 0 rfl rfl rfl ?_
      refine z_aload_n hX dX5_writeGame_148 1 rfl ?_
      refine z_getR (j := 21) hX dX5_writeGame_149 fl_49 0 rfl rfl ?_
      obtain ⟨r3, hc3, hr⟩ := z_bind hr
      refine z_callV_i (As := []) (k1 := 0) (n1 := 0) (nA := 0) hX (mX3_size_d hc3) dX5_writeGame_152 gX5_writeGame_X3_size rfl ⟨rfl, by decide, by decide, by decide +kernel⟩ ⟨by decide, by decide⟩ ⟨by decide, by decide⟩ 21 rfl rfl rfl rfl (Nat.le_of_ble_eq_true rfl) (by decide +kernel) rfl rfl (fun hg3 => ?_)
      refine z_widen (k1 := 1) (n1 := 6) (by decide) (by decide) ?_
      have hf : zfr [0, 8, 13, 19, 20, 21, 22, 23] h0 (hsw r1) := zfr_hsw hf (by decide)
      refine z_perm (sh2 := sh_7) (ad2 := asw ad) (h2 := (hsw r1)) [0, 1, 2, 3, 4, 5, 6, 7, 8, 9, 10, 11, 12, 13, 14, 15, 16, 17, 18, 21, 22, 19, 20, 23, 24] rfl rfl (by decide) ?_
      obtain rfl := Option.some.inj hr
      exact hQ _ _ dX5_writeGame_155 rfl hf
    · obtain rfl := Option.some.inj hr
      have th : zThr wsX5_writeGame 98 178 102 3 zMsg_178 := ⟨by decide +kernel, by decide +kernel, ⟨by decide +kernel, by decide +kernel, by decide⟩, by decide +kernel, by decide +kernel, by decide +kernel⟩
      exact hT _ 120 98 178 102 _ _ zMsg_178 _ th dX5_writeGame_120 dX5_writeGame_123 dX5_writeGame_124 dX5_writeGame_126 dX5_writeGame_129 (by decide) (Nat.le_of_ble_eq_true rfl) (by decide) (by decide) (by decide : (3 : Int) ≠ 0) hf
  have B21 : ∀ (nf : Nat) (x1 : Int) (x2 : Int) (x3 : Int) (h : HS), zfr [0, 8, 13, 19, 20, 21, 22, 23] h0 h → fX5_writeGame_L21 nf x1 x2 x3 h = some o → ZW G X sh_7 ad h 0 0 [(0, .ref (ad 0)), (1, .int (iI x1)), (2, .int (iI x2)), (3, .int (iI x3))] 21 [] := by
    intro nf
    induction nf with
    | zero => intro x1 x2 x3 h hf hr; exact z_none hr
    | succ n21 ih21 =>
      intro x1 x2 x3 h hf hr
      have B91 : ∀ (x1 : Int) (x2 : Int) (x3 : Int) (x4 : Int) (h : HS), zfr [0, 8, 13, 19, 20, 21, 22, 23] h0 h → fX5_writeGame_b91 (fun a0 a1 a2 hh => fX5_writeGame_L21 n21 a0 a1 a2 hh) x1 x2 x3 x4 h = some o → ZW G X sh_7 ad h 0 0 [(0, .ref (ad 0)), (1, .int (iI x1)), (2, .int (iI x2)), (3, .int (iI x3)), (4, .int (iI x4))] 91 [] := by
        intro x1 x2 x3 x4 h hf hr
        unfold fX5_writeGame_b91 at hr
        refine z_aload_n hX dX5_writeGame_91 0 rfl ?_
        refine z_iload_n hX dX5_writeGame_92 2 rfl ?_
        refine z_iload hX dX5_writeGame_93 4 rfl ?_
        obtain ⟨r4, hc4, hr⟩ := z_bind hr
        refine z_callV_i (As := [.int (iI x2), .int (iI x4)]) (k1 := 0) (n1 := 0) (nA := 2) hX (mX5_goOn hc4) dX5_writeGame_95 gX5_writeGame_X5_goOn rfl ⟨rfl, by decide, by decide, by decide +kernel⟩ ⟨by decide, by decide⟩ ⟨by decide, by decide⟩ 0 rfl rfl rfl rfl (Nat.le_of_ble_eq_true rfl) (by decide +kernel) rfl rfl (fun hg4 => ?_)
        have hf : zfr [0, 8, 13, 19, 20, 21, 22, 23] h0 r4.2 := zfr_tr hf (by decide) hg4
        refine z_istore_n (lv1 := [(2, .int (iI r4.1)), (0, .ref (ad 0)), (1, .int (iI x1)), (3, .int (iI x3)), (4, .int (iI x4))]) hX dX5_writeGame_98 (by decide) rfl ?_
        refine z_iinc (lv1 := [(3, .int (iI (x3 + 1))), (2, .int (iI r4.1)), (0, .ref (ad 0)), (1, .int (iI x1)), (4, .int (iI x4))]) hX dX5_writeGame_99 3 rfl (by decide) rfl ?_
        refine z_goto (tgt := 21) hX dX5_writeGame_102 (by decide) ?_
        refine z_lv [2, 3, 1, 0] rfl ?_
        exact ih21 x1 r4.1 (x3 + 1) r4.2 hf hr
      unfold fX5_writeGame_L21 at hr
      refine z_iload_n hX dX5_writeGame_21 3 rfl ?_
      refine z_sipush hX dX5_writeGame_22 (by decide +kernel) ?_
      refine z_icmp_ge (tgt := 105) hX dX5_writeGame_25 (by decide) rfl (wr_of (by decide) (by decide)) hr (fun hr => ?_) (fun hr => ?_)
      · refine z_lv [0, 1] rfl ?_
        exact B105 x1 h hf hr
      · refine z_iload_n hX dX5_writeGame_28 2 rfl ?_
        refine z_iconst hX dX5_writeGame_29 ?_
        refine z_icmp_eq (tgt := 105) hX dX5_writeGame_30 (by decide) rfl (wr_of (by decide) (by decide)) hr (fun hr => ?_) (fun hr => ?_)
        · refine z_lv [0, 1] rfl ?_
          exact B105 x1 h hf hr
        · refine z_aload_n hX dX5_writeGame_33 0 rfl ?_
          refine z_getR (j := 9) hX dX5_writeGame_34 fl_28 0 rfl rfl ?_
          refine z_aload_n hX dX5_writeGame_37 0 rfl ?_
          refine z_getI hX dX5_writeGame_38 fl_56 0 rfl rfl ?_
          refine z_iload_n hX dX5_writeGame_41 2 rfl ?_
          obtain ⟨r5, hc5, hr⟩ := z_bind hr
          refine z_callV_i (As := [.int (iI (h 0 8)), .int (iI x2)]) (k1 := 0) (n1 := 0) (nA := 2) hX (mX4_child hc5) dX5_writeGame_42 gX5_writeGame_X4_child rfl ⟨rfl, by decide, by decide, by decide +kernel⟩ ⟨by decide, by decide⟩ ⟨by decide, by decide⟩ 9 rfl rfl rfl rfl (Nat.le_of_ble_eq_true rfl) (by decide +kernel) rfl rfl (fun hg5 => ?_)
          refine z_istore (lv1 := [(4, .int (iI r5)), (0, .ref (ad 0)), (1, .int (iI x1)), (2, .int (iI x2)), (3, .int (iI x3))]) hX dX5_writeGame_45 (by decide) rfl ?_
          refine z_iload hX dX5_writeGame_47 0 rfl ?_
          refine z_iconst hX dX5_writeGame_49 ?_
          refine z_icmp_eq (tgt := 91) hX dX5_writeGame_50 (by decide) rfl (wr_of (by decide) (by decide)) hr (fun hr => ?_) (fun hr => ?_)
          · refine z_lv [1, 2, 3, 4, 0] rfl ?_
            exact B91 x1 x2 x3 r5 h hf hr
          · refine z_aload_n hX dX5_writeGame_53 1 rfl ?_
            refine z_iload_n hX dX5_writeGame_54 3 rfl ?_
            obtain ⟨r6, hc6, hr⟩ := z_bind hr
            refine z_callV_v (As := [.int (iI x2)]) (k1 := 0) (n1 := 0) (nA := 1) hX (mX5_writeOpening hc6) dX5_writeGame_55 gX5_writeGame_X5_writeOpening rfl ⟨rfl, by decide, by decide, by decide +kernel⟩ ⟨by decide, by decide⟩ ⟨by decide, by decide⟩ 0 rfl rfl rfl rfl (Nat.le_of_ble_eq_true rfl) (by decide +kernel) rfl rfl (fun hg6 => ?_)
            have hf : zfr [0, 8, 13, 19, 20, 21, 22, 23] h0 r6 := zfr_tr hf (by decide) hg6
            refine z_aload_n hX dX5_writeGame_58 1 rfl ?_
            refine z_getR (j := 21) hX dX5_writeGame_59 fl_53 0 rfl rfl ?_
            obtain ⟨r7, hc7, hr⟩ := z_bind hr
            refine z_callV_v (As := []) (k1 := 0) (n1 := 0) (nA := 0) hX (mX3_separate_d hc7) dX5_writeGame_62 gX5_writeGame_X3_separate rfl ⟨rfl, by decide, by decide, by decide +kernel⟩ ⟨by decide, by decide⟩ ⟨by decide, by decide⟩ 21 rfl rfl rfl rfl (Nat.le_of_ble_eq_true rfl) (by decide +kernel) rfl rfl (fun hg7 => ?_)
            have hf : zfr [0, 8, 13, 19, 20, 21, 22, 23] h0 r7 := zfr_tr hf (by decide) hg7
            refine z_aload_n hX dX5_writeGame_65 1 rfl ?_
            refine z_aload_n hX dX5_writeGame_66 1 rfl ?_
            refine z_getR (j := 21) hX dX5_writeGame_67 fl_53 0 rfl rfl ?_
            refine z_aload_n hX dX5_writeGame_70 1 rfl ?_
            refine z_getR (j := 9) hX dX5_writeGame_71 fl_28 0 rfl rfl ?_
            refine z_iload hX dX5_writeGame_74 0 rfl ?_
            obtain ⟨r8, hc8, hr⟩ := z_bind hr
            refine z_callV_i (As := [.int (iI r5)]) (k1 := 0) (n1 := 0) (nA := 1) hX (mX4_from hc8) dX5_writeGame_76 gX5_writeGame_X4_from rfl ⟨rfl, by decide, by decide, by decide +kernel⟩ ⟨by decide, by decide⟩ ⟨by decide, by decide⟩ 9 rfl rfl rfl rfl (Nat.le_of_ble_eq_true rfl) (by decide +kernel) rfl rfl (fun hg8 => ?_)
            refine z_aload_n hX dX5_writeGame_79 1 rfl ?_
            refine z_getR (j := 9) hX dX5_writeGame_80 fl_28 0 rfl rfl ?_
            refine z_iload hX dX5_writeGame_83 0 rfl ?_
            obtain ⟨r9, hc9, hr⟩ := z_bind hr
            refine z_callV_i (As := [.int (iI r5)]) (k1 := 0) (n1 := 0) (nA := 1) hX (mX4_to hc9) dX5_writeGame_85 gX5_writeGame_X4_to rfl ⟨rfl, by decide, by decide, by decide +kernel⟩ ⟨by decide, by decide⟩ ⟨by decide, by decide⟩ 9 rfl rfl rfl rfl (Nat.le_of_ble_eq_true rfl) (by decide +kernel) rfl rfl (fun hg9 => ?_)
            obtain ⟨r10, hc10, hr⟩ := z_bind hr
            refine z_callV_v (As := [.ref (ad 21), .int (iI r8), .int (iI r9)]) (k1 := 0) (n1 := 0) (nA := 3) hX (mX5_writeMove_d hc10) dX5_writeGame_88 gX5_writeGame_X5_writeMove rfl ⟨rfl, by decide, by decide, by decide +kernel⟩ ⟨by decide, by decide⟩ ⟨by decide, by decide⟩ 0 rfl rfl rfl rfl (Nat.le_of_ble_eq_true rfl) (by decide +kernel) rfl rfl (fun hg10 => ?_)
            have hf : zfr [0, 8, 13, 19, 20, 21, 22, 23] h0 r10 := zfr_tr hf (by decide) hg10
            refine z_lv [1, 2, 3, 4, 0] rfl ?_
            exact B91 x1 x2 x3 r5 r10 hf hr
  unfold fX5_writeGame at hr
  refine z_aload_n hX dX5_writeGame_0 0 rfl ?_
  refine z_getI hX dX5_writeGame_1 fl_56 0 rfl rfl ?_
  refine z_istore_n (lv1 := [(1, .int (iI (h0 0 8))), (0, .ref (ad 0))]) hX dX5_writeGame_4 (by decide) rfl ?_
  refine z_aload_n hX dX5_writeGame_5 1 rfl ?_
  refine z_iconst hX dX5_writeGame_6 ?_
  obtain ⟨r11, hc11, hr⟩ := z_bind hr
  refine z_callV_v (As := [.int (iI 0)]) (k1 := 0) (n1 := 0) (nA := 1) hX (mX5_visit hc11) dX5_writeGame_7 gX5_writeGame_X5_visit rfl ⟨rfl, by decide, by decide, by decide +kernel⟩ ⟨by decide, by decide⟩ ⟨by decide, by decide⟩ 0 rfl rfl rfl rfl (Nat.le_of_ble_eq_true rfl) (by decide +kernel) rfl rfl (fun hg11 => ?_)
  have hf : zfr [0, 8, 13, 19, 20, 21, 22, 23] h0 r11 := zfr_tr hf (by decide) hg11
  refine z_aload_n hX dX5_writeGame_10 1 rfl ?_
  refine z_getR (j := 21) hX dX5_writeGame_11 fl_53 0 rfl rfl ?_
  obtain ⟨r12, hc12, hr⟩ := z_bind hr
  refine z_callV_v (As := []) (k1 := 0) (n1 := 0) (nA := 0) hX (mX3_wipe_d hc12) dX5_writeGame_14 gX5_writeGame_X3_wipe rfl ⟨rfl, by decide, by decide, by decide +kernel⟩ ⟨by decide, by decide⟩ ⟨by decide, by decide⟩ 21 rfl rfl rfl rfl (Nat.le_of_ble_eq_true rfl) (by decide +kernel) rfl rfl (fun hg12 => ?_)
  have hf : zfr [0, 8, 13, 19, 20, 21, 22, 23] h0 r12 := zfr_tr hf (by decide) hg12
  refine z_iconst hX dX5_writeGame_17 ?_
  refine z_istore_n (lv1 := [(2, .int (iI 0)), (1, .int (iI (h0 0 8))), (0, .ref (ad 0))]) hX dX5_writeGame_18 (by decide) rfl ?_
  refine z_iconst hX dX5_writeGame_19 ?_
  refine z_istore_n (lv1 := [(3, .int (iI 0)), (2, .int (iI 0)), (1, .int (iI (h0 0 8))), (0, .ref (ad 0))]) hX dX5_writeGame_20 (by decide) rfl ?_
  refine z_lv [3, 2, 1, 0] rfl ?_
  exact B21 zF (h0 0 8) 0 0 r12 hf hr

def fX5_branching_b29 (k4 : Int → Int → HS → Option (Int × Int × Int)) (x1 : Int) (x2 : Int) (h : HS) : Option (Int × Int × Int) := k4 x1 (x2 + 1) h
def fX5_branching_L4 : Nat → Int → Int → HS → Option (Int × Int × Int)
  | 0, _, _, _ => none
  | nf + 1, x1, x2, h => (fX4_size h).bind fun r1 => if wr r1 ≤ wr x2 then if wr x1 = 0 then some (0, 0, 0) else (fX4_size h).bind fun r2 => some (1, (r2 - 1), x1) else (fX4_childCount x2 h).bind fun r3 => if wr r3 ≤ 0 then fX5_branching_b29 (fun a0 a1 hh => fX5_branching_L4 nf a0 a1 hh) x1 x2 h else fX5_branching_b29 (fun a0 a1 hh => fX5_branching_L4 nf a0 a1 hh) (x1 + 1) x2 h
def fX5_branching (h : HS) : Option (Int × Int × Int) := fX5_branching_L4 zF 0 0 h
set_option maxRecDepth 100000 in
set_option maxHeartbeats 4000000 in
theorem mX5_branching {G : ZG} {l0 : Launch} {ad : Nat → Nat} {h0 : HS} {o : Int × Int × Int} (hr : fX5_branching h0 = some o) : ZMd G l0 yX5_branching wsX5_branching ({ frames := 2, cells := 0, slots := 0, locals := 42 }) [.ref (ad 0)] sh_7 ad h0 [] o h0 := by
  refine ZMd.of (cc := cX5_branching) (maxL := 3) (ret := (some .double)) (own := RX5) (lv0 := [(0, .ref (ad 0))]) (by decide) rfl rfl rfl (Nat.le_of_ble_eq_true rfl) rfl ?_
  intro X hX hQ hQ1
  have hf : zfr [] h0 h0 := zfr_rf
  have fl_28 : zFld wsX5_branching RX5 28 5 RX5 TX5 16 2 := ⟨by decide +kernel, by decide +kernel, by decide, rfl⟩
  have B4 : ∀ (nf : Nat) (x1 : Int) (x2 : Int), fX5_branching_L4 nf x1 x2 h0 = some o → ZW G X sh_7 ad h0 0 0 [(0, .ref (ad 0)), (1, .int (iI x1)), (2, .int (iI x2))] 4 [] := by
    intro nf
    induction nf with
    | zero => intro x1 x2 hr; exact z_none hr
    | succ n4 ih4 =>
      intro x1 x2 hr
      have B29 : ∀ (x1 : Int) (x2 : Int), fX5_branching_b29 (fun a0 a1 hh => fX5_branching_L4 n4 a0 a1 hh) x1 x2 h0 = some o → ZW G X sh_7 ad h0 0 0 [(0, .ref (ad 0)), (1, .int (iI x1)), (2, .int (iI x2))] 29 [] := by
        intro x1 x2 hr
        unfold fX5_branching_b29 at hr
        refine z_iinc (lv1 := [(2, .int (iI (x2 + 1))), (0, .ref (ad 0)), (1, .int (iI x1))]) hX dX5_branching_29 2 rfl (by decide) rfl ?_
        refine z_goto (tgt := 4) hX dX5_branching_32 (by decide) ?_
        refine z_lv [1, 2, 0] rfl ?_
        exact ih4 x1 (x2 + 1) hr
      unfold fX5_branching_L4 at hr
      refine z_iload_n hX dX5_branching_4 2 rfl ?_
      refine z_aload_n hX dX5_branching_5 0 rfl ?_
      refine z_getR (j := 9) hX dX5_branching_6 fl_28 0 rfl rfl ?_
      obtain ⟨r1, hc1, hr⟩ := z_bind hr
      refine z_callV_i (As := []) (k1 := 0) (n1 := 0) (nA := 0) hX (mX4_size hc1) dX5_branching_9 gX5_branching_X4_size rfl ⟨rfl, by decide, by decide, by decide +kernel⟩ ⟨by decide, by decide⟩ ⟨by decide, by decide⟩ 9 rfl rfl rfl rfl (Nat.le_of_ble_eq_true rfl) (by decide +kernel) rfl rfl (fun hg1 => ?_)
      refine z_icmp_ge (tgt := 35) hX dX5_branching_12 (by decide) rfl rfl hr (fun hr => ?_) (fun hr => ?_)
      · refine z_iload_n hX dX5_branching_35 1 rfl ?_
        refine z_if_ne (tgt := 43) hX dX5_branching_36 (by decide) rfl hr (fun hr => ?_) (fun hr => ?_)
        · refine z_aload_n hX dX5_branching_43 0 rfl ?_
          refine z_getR (j := 9) hX dX5_branching_44 fl_28 0 rfl rfl ?_
          obtain ⟨r2, hc2, hr⟩ := z_bind hr
          refine z_callV_i (As := []) (k1 := 0) (n1 := 0) (nA := 0) hX (mX4_size hc2) dX5_branching_47 gX5_branching_X4_size rfl ⟨rfl, by decide, by decide, by decide +kernel⟩ ⟨by decide, by decide⟩ ⟨by decide, by decide⟩ 9 rfl rfl rfl rfl (Nat.le_of_ble_eq_true rfl) (by decide +kernel) rfl rfl (fun hg2 => ?_)
          refine z_iconst hX dX5_branching_50 ?_
          refine z_isub hX dX5_branching_51 ?_
          refine z_i2d hX dX5_branching_52 ?_
          refine z_iload_n hX dX5_branching_53 1 rfl ?_
          refine z_i2d hX dX5_branching_54 ?_
          obtain rfl := Option.some.inj hr
          exact hQ1 _ _ dX5_branching_55 dX5_branching_56 rfl hf
        · refine z_dconst0 hX dX5_branching_39 ?_
          refine z_goto (tgt := 56) hX dX5_branching_40 (by decide) ?_
          obtain rfl := Option.some.inj hr
          exact hQ _ _ dX5_branching_56 rfl hf
      · refine z_aload_n hX dX5_branching_15 0 rfl ?_
        refine z_getR (j := 9) hX dX5_branching_16 fl_28 0 rfl rfl ?_
        refine z_iload_n hX dX5_branching_19 2 rfl ?_
        obtain ⟨r3, hc3, hr⟩ := z_bind hr
        refine z_callV_i (As := [.int (iI x2)]) (k1 := 0) (n1 := 0) (nA := 1) hX (mX4_childCount hc3) dX5_branching_20 gX5_branching_X4_childCount rfl ⟨rfl, by decide, by decide, by decide +kernel⟩ ⟨by decide, by decide⟩ ⟨by decide, by decide⟩ 9 rfl rfl rfl rfl (Nat.le_of_ble_eq_true rfl) (by decide +kernel) rfl rfl (fun hg3 => ?_)
        refine z_if_le (tgt := 29) hX dX5_branching_23 (by decide) rfl hr (fun hr => ?_) (fun hr => ?_)
        · exact B29 x1 x2 hr
        · refine z_iinc (lv1 := [(1, .int (iI (x1 + 1))), (0, .ref (ad 0)), (2, .int (iI x2))]) hX dX5_branching_26 1 rfl (by decide) rfl ?_
          refine z_lv [1, 0, 2] rfl ?_
          exact B29 (x1 + 1) x2 hr
  unfold fX5_branching at hr
  refine z_iconst hX dX5_branching_0 ?_
  refine z_istore_n (lv1 := [(1, .int (iI 0)), (0, .ref (ad 0))]) hX dX5_branching_1 (by decide) rfl ?_
  refine z_iconst hX dX5_branching_2 ?_
  refine z_istore_n (lv1 := [(2, .int (iI 0)), (1, .int (iI 0)), (0, .ref (ad 0))]) hX dX5_branching_3 (by decide) rfl ?_
  refine z_lv [2, 1, 0] rfl ?_
  exact B4 zF 0 0 hr

def fX6_branching_b43 (k11 : Int → Int → Int → HS → Option ((Int × Int × Int) × HS)) (x1 : Int) (x3 : Int) (s0 : Int) (s1 : Int) (h : HS) : Option ((Int × Int × Int) × HS) := k11 x1 (s0 + s1) (x3 + 1) h
def fX6_branching_L11 : Nat → Int → Int → Int → HS → Option ((Int × Int × Int) × HS)
  | 0, _, _, _, _ => none
  | nf + 1, x1, x2, x3, h => if wr (h 30 8) ≤ wr x3 then if wr x2 = 0 then some ((0, 0, 0), h) else some ((1, x1, x2), h) else (fX6_get x3 4 h).bind fun r1 => (fX6_get x3 4 h).bind fun r2 => if wr r2 ≤ 0 then fX6_branching_b43 (fun a0 a1 a2 hh => fX6_branching_L11 nf a0 a1 a2 hh) (x1 + r1) x3 x2 0 h else fX6_branching_b43 (fun a0 a1 a2 hh => fX6_branching_L11 nf a0 a1 a2 hh) (x1 + r1) x3 x2 1 h
def fX6_branching (h : HS) : Option ((Int × Int × Int) × HS) := fX6_branching_L11 zF 0 0 0 (hs h 30 0 0)
set_option maxRecDepth 100000 in
set_option maxHeartbeats 4000000 in
theorem mX6_branching {G : ZG} {l0 : Launch} {ad : Nat → Nat} {h0 : HS} {o : (Int × Int × Int) × HS} (hr : fX6_branching h0 = some o) : ZMd G l0 yX6_branching wsX6_branching ({ frames := 1, cells := 0, slots := 0, locals := 22 }) [.ref (ad 30)] sh_8 ad h0 [30] o.1 o.2 := by
  refine ZMd.of (cc := cX6_branching) (maxL := 4) (ret := (some .double)) (own := RX6) (lv0 := [(0, .ref (ad 30))]) (by decide) rfl rfl rfl (Nat.le_of_ble_eq_true rfl) rfl ?_
  intro X hX hQ hQ1
  have hf : zfr [30] h0 h0 := zfr_rf
  have fl_28 : zFld wsX6_branching RX6 28 6 RX6 TX6 26 8 := ⟨by decide +kernel, by decide +kernel, by decide, rfl⟩
  have fl_66 : zFld wsX6_branching RX6 66 6 RX6 TX6 26 0 := ⟨by decide +kernel, by decide +kernel, by decide, rfl⟩
  have pu_X6_0 : zPut TX6 26 0 tyX6 .int := ⟨tyX6_ok, nmX6, rfl, by decide +kernel⟩
  have B11 : ∀ (nf : Nat) (x1 : Int) (x2 : Int) (x3 : Int) (h : HS), zfr [30] h0 h → fX6_branching_L11 nf x1 x2 x3 h = some o → ZW G X sh_8 ad h 0 0 [(0, .ref (ad 30)), (1, .int (iI x1)), (2, .int (iI x2)), (3, .int (iI x3))] 11 [] := by
    intro nf
    induction nf with
    | zero => intro x1 x2 x3 h hf hr; exact z_none hr
    | succ n11 ih11 =>
      intro x1 x2 x3 h hf hr
      have B43 : ∀ (x1 : Int) (x3 : Int) (s0 : Int) (s1 : Int) (h : HS), zfr [30] h0 h → fX6_branching_b43 (fun a0 a1 a2 hh => fX6_branching_L11 n11 a0 a1 a2 hh) x1 x3 s0 s1 h = some o → ZW G X sh_8 ad h 0 0 [(0, .ref (ad 30)), (1, .int (iI x1)), (3, .int (iI x3))] 43 [.int (iI s1), .int (iI s0)] := by
        intro x1 x3 s0 s1 h hf hr
        unfold fX6_branching_b43 at hr
        refine z_iadd hX dX6_branching_43 ?_
        refine z_istore_n (lv1 := [(2, .int (iI (s0 + s1))), (0, .ref (ad 30)), (1, .int (iI x1)), (3, .int (iI x3))]) hX dX6_branching_44 (by decide) rfl ?_
        refine z_iinc (lv1 := [(3, .int (iI (x3 + 1))), (2, .int (iI (s0 + s1))), (0, .ref (ad 30)), (1, .int (iI x1))]) hX dX6_branching_45 3 rfl (by decide) rfl ?_
        refine z_goto (tgt := 11) hX dX6_branching_48 (by decide) ?_
        refine z_lv [2, 3, 1, 0] rfl ?_
        exact ih11 x1 (s0 + s1) (x3 + 1) h hf hr
      unfold fX6_branching_L11 at hr
      refine z_iload_n hX dX6_branching_11 3 rfl ?_
      refine z_aload_n hX dX6_branching_12 0 rfl ?_
      refine z_getI hX dX6_branching_13 fl_28 0 rfl rfl ?_
      refine z_icmp_ge (tgt := 51) hX dX6_branching_16 (by decide) rfl rfl hr (fun hr => ?_) (fun hr => ?_)
      · refine z_iload_n hX dX6_branching_51 2 rfl ?_
        refine z_if_ne (tgt := 59) hX dX6_branching_52 (by decide) rfl hr (fun hr => ?_) (fun hr => ?_)
        · refine z_iload_n hX dX6_branching_59 1 rfl ?_
          refine z_i2d hX dX6_branching_60 ?_
          refine z_iload_n hX dX6_branching_61 2 rfl ?_
          refine z_i2d hX dX6_branching_62 ?_
          obtain rfl := Option.some.inj hr
          exact hQ1 _ _ dX6_branching_63 dX6_branching_64 rfl hf
        · refine z_dconst0 hX dX6_branching_55 ?_
          refine z_goto (tgt := 64) hX dX6_branching_56 (by decide) ?_
          obtain rfl := Option.some.inj hr
          exact hQ _ _ dX6_branching_64 rfl hf
      · refine z_iload_n hX dX6_branching_19 1 rfl ?_
        refine z_aload_n hX dX6_branching_20 0 rfl ?_
        refine z_iload_n hX dX6_branching_21 3 rfl ?_
        refine z_iconst hX dX6_branching_22 ?_
        obtain ⟨r1, hc1, hr⟩ := z_bind hr
        refine z_callV_i (As := [.int (iI x3), .int (iI 4)]) (k1 := 0) (n1 := 0) (nA := 2) hX (mX6_get hc1) dX6_branching_23 gX6_branching_X6_get rfl ⟨rfl, by decide, by decide, by decide +kernel⟩ ⟨by decide, by decide⟩ ⟨by decide, by decide⟩ 0 rfl rfl rfl rfl (Nat.le_of_ble_eq_true rfl) (by decide +kernel) rfl rfl (fun hg1 => ?_)
        refine z_iadd hX dX6_branching_26 ?_
        refine z_istore_n (lv1 := [(1, .int (iI (x1 + r1))), (0, .ref (ad 30)), (2, .int (iI x2)), (3, .int (iI x3))]) hX dX6_branching_27 (by decide) rfl ?_
        refine z_iload_n hX dX6_branching_28 2 rfl ?_
        refine z_aload_n hX dX6_branching_29 1 rfl ?_
        refine z_iload_n hX dX6_branching_30 3 rfl ?_
        refine z_iconst hX dX6_branching_31 ?_
        obtain ⟨r2, hc2, hr⟩ := z_bind hr
        refine z_callV_i (As := [.int (iI x3), .int (iI 4)]) (k1 := 0) (n1 := 0) (nA := 2) hX (mX6_get hc2) dX6_branching_32 gX6_branching_X6_get rfl ⟨rfl, by decide, by decide, by decide +kernel⟩ ⟨by decide, by decide⟩ ⟨by decide, by decide⟩ 0 rfl rfl rfl rfl (Nat.le_of_ble_eq_true rfl) (by decide +kernel) rfl rfl (fun hg2 => ?_)
        refine z_if_le (tgt := 42) hX dX6_branching_35 (by decide) rfl hr (fun hr => ?_) (fun hr => ?_)
        · refine z_iconst hX dX6_branching_42 ?_
          refine z_lv [1, 0, 3] rfl ?_
          exact B43 (x1 + r1) x3 x2 0 h hf hr
        · refine z_iconst hX dX6_branching_38 ?_
          refine z_goto (tgt := 43) hX dX6_branching_39 (by decide) ?_
          refine z_lv [1, 0, 3] rfl ?_
          exact B43 (x1 + r1) x3 x2 1 h hf hr
  unfold fX6_branching at hr
  refine z_aload_n hX dX6_branching_0 0 rfl ?_
  refine z_iconst hX dX6_branching_1 ?_
  refine z_putI hX dX6_branching_2 fl_66 pu_X6_0 0 rfl rfl ?_
  have hf : zfr [30] h0 (hs h0 30 0 0) := zfr_hs hf (by decide)
  refine z_iconst hX dX6_branching_5 ?_
  refine z_istore_n (lv1 := [(1, .int (iI 0)), (0, .ref (ad 30))]) hX dX6_branching_6 (by decide) rfl ?_
  refine z_iconst hX dX6_branching_7 ?_
  refine z_istore_n (lv1 := [(2, .int (iI 0)), (1, .int (iI 0)), (0, .ref (ad 30))]) hX dX6_branching_8 (by decide) rfl ?_
  refine z_iconst hX dX6_branching_9 ?_
  refine z_istore_n (lv1 := [(3, .int (iI 0)), (2, .int (iI 0)), (1, .int (iI 0)), (0, .ref (ad 30))]) hX dX6_branching_10 (by decide) rfl ?_
  refine z_lv [3, 2, 1, 0] rfl ?_
  exact B11 zF 0 0 0 (hs h0 30 0 0) hf hr

