def fX6_reaches_b110 (k24 : Int → Int → Int → Int → HS → Option (Int)) (x2 : Int) (x3 : Int) (x4 : Int) (x5 : Int) (h : HS) : Option (Int) := k24 x2 x3 x4 (x5 + 1) h
def fX6_reaches_b102 (k24 : Int → Int → Int → Int → HS → Option (Int)) (k44 : Int → Int → Int → Int → Int → Int → HS → Option (Int)) (x2 : Int) (x3 : Int) (x4 : Int) (x5 : Int) (x7 : Int) (s0 : Int) (h : HS) : Option (Int) := k44 x2 x3 x4 x5 s0 (x7 + 1) h
def fX6_reaches_b101 (k24 : Int → Int → Int → Int → HS → Option (Int)) (k44 : Int → Int → Int → Int → Int → Int → HS → Option (Int)) (x2 : Int) (x3 : Int) (x4 : Int) (x5 : Int) (x7 : Int) (h : HS) : Option (Int) := fX6_reaches_b102 k24 k44 x2 x3 x4 x5 x7 0 h
def fX6_reaches_L44 (k24 : Int → Int → Int → Int → HS → Option (Int)) : Nat → Int → Int → Int → Int → Int → Int → HS → Option (Int)
  | 0, _, _, _, _, _, _, _ => none
  | nf + 1, x2, x3, x4, x5, x6, x7, h => (fX6_reach x4 x5 h).bind fun r1 => if wr r1 < wr x7 then fX6_reaches_b110 k24 x2 x3 x4 x5 h else if wr x6 = 0 then fX6_reaches_b110 k24 x2 x3 x4 x5 h else (fX6_target x2 x4 x5 x7 h).bind fun r2 => if wr r2 = wr x3 then some 1 else if wr r2 = ((-1) : Int) then fX6_reaches_b101 k24 (fun a0 a1 a2 a3 a4 a5 hh => fX6_reaches_L44 k24 nf a0 a1 a2 a3 a4 a5 hh) x2 x3 x4 x5 x7 h else if (0 : Int) ≤ r2 ∧ r2 < 64 then if wr (h 35 r2) = ((-1) : Int) then fX6_reaches_b102 k24 (fun a0 a1 a2 a3 a4 a5 hh => fX6_reaches_L44 k24 nf a0 a1 a2 a3 a4 a5 hh) x2 x3 x4 x5 x7 1 h else fX6_reaches_b101 k24 (fun a0 a1 a2 a3 a4 a5 hh => fX6_reaches_L44 k24 nf a0 a1 a2 a3 a4 a5 hh) x2 x3 x4 x5 x7 h else none
def fX6_reaches_L24 : Nat → Int → Int → Int → Int → HS → Option (Int)
  | 0, _, _, _, _, _ => none
  | nf + 1, x2, x3, x4, x5, h => if (0 : Int) ≤ x4 ∧ x4 < 2147483648 then if (0 : Int) ≤ (x4 / 2) ∧ (x4 / 2) < 6 then if wr (h 32 (x4 / 2)) ≤ wr x5 then some 0 else fX6_reaches_L44 (fun a0 a1 a2 a3 hh => fX6_reaches_L24 nf a0 a1 a2 a3 hh) zF x2 x3 x4 x5 1 1 h else none else none
def fX6_reaches (p2 : Int) (p3 : Int) (h : HS) : Option (Int) := if (0 : Int) ≤ p2 ∧ p2 < 64 then if (0 : Int) ≤ p3 ∧ p3 < 64 then (fX6_sideOf (h 35 p3) h).bind fun r3 => (fX6_sideOf (h 35 p2) h).bind fun r4 => if wr r3 = wr r4 then some 0 else fX6_reaches_L24 zF p2 p3 (h 35 p2) 0 h else none else none
set_option maxRecDepth 100000 in
set_option maxHeartbeats 4000000 in
theorem mX6_reaches {G : ZG} {l0 : Launch} {ad : Nat → Nat} {h0 : HS} {p2 : Int} {p3 : Int} {o : Int} (hr : fX6_reaches p2 p3 h0 = some o) : ZMi G l0 yX6_reaches wsX6_reaches ({ frames := 2, cells := 0, slots := 0, locals := 49 }) [.ref (ad 30), .ref (ad 35), .int (iI p2), .int (iI p3)] sh_8 ad h0 [] o h0 := by
  refine ZMi.ofZ (cc := cX6_reaches) (maxL := 9) (ret := (some .boolean)) (own := RX6) (lv0 := [(0, .ref (ad 30)), (1, .ref (ad 35)), (2, .int (iI p2)), (3, .int (iI p3))]) (by decide) rfl rfl rfl (Nat.le_of_ble_eq_true rfl) rfl ?_
  intro X hX hQ
  have hf : zfr [] h0 h0 := zfr_rf
  have fl_13 : zFld wsX6_reaches RX6 13 6 RX6 TX6 26 3 := ⟨by decide +kernel, by decide +kernel, by decide, rfl⟩
  have B24 : ∀ (nf : Nat) (x2 : Int) (x3 : Int) (x4 : Int) (x5 : Int), fX6_reaches_L24 nf x2 x3 x4 x5 h0 = some o → ZW G X sh_8 ad h0 0 0 [(0, .ref (ad 30)), (1, .ref (ad 35)), (2, .int (iI x2)), (3, .int (iI x3)), (4, .int (iI x4)), (5, .int (iI x5))] 24 [] := by
    intro nf
    induction nf with
    | zero => intro x2 x3 x4 x5 hr; exact z_none hr
    | succ n24 ih24 =>
      intro x2 x3 x4 x5 hr
      have B110 : ∀ (x2 : Int) (x3 : Int) (x4 : Int) (x5 : Int), fX6_reaches_b110 (fun a0 a1 a2 a3 hh => fX6_reaches_L24 n24 a0 a1 a2 a3 hh) x2 x3 x4 x5 h0 = some o → ZW G X sh_8 ad h0 0 0 [(0, .ref (ad 30)), (1, .ref (ad 35)), (2, .int (iI x2)), (3, .int (iI x3)), (4, .int (iI x4)), (5, .int (iI x5))] 110 [] := by
        intro x2 x3 x4 x5 hr
        unfold fX6_reaches_b110 at hr
        refine z_iinc (lv1 := [(5, .int (iI (x5 + 1))), (0, .ref (ad 30)), (1, .ref (ad 35)), (2, .int (iI x2)), (3, .int (iI x3)), (4, .int (iI x4))]) hX dX6_reaches_110 5 rfl (by decide) rfl ?_
        refine z_goto (tgt := 24) hX dX6_reaches_113 (by decide) ?_
        refine z_lv [1, 2, 3, 4, 5, 0] rfl ?_
        exact ih24 x2 x3 x4 (x5 + 1) hr
      have B44 : ∀ (nf : Nat) (x2 : Int) (x3 : Int) (x4 : Int) (x5 : Int) (x6 : Int) (x7 : Int), fX6_reaches_L44 (fun a0 a1 a2 a3 hh => fX6_reaches_L24 n24 a0 a1 a2 a3 hh) nf x2 x3 x4 x5 x6 x7 h0 = some o → ZW G X sh_8 ad h0 0 0 [(0, .ref (ad 30)), (1, .ref (ad 35)), (2, .int (iI x2)), (3, .int (iI x3)), (4, .int (iI x4)), (5, .int (iI x5)), (6, .int (iI x6)), (7, .int (iI x7))] 44 [] := by
        intro nf
        induction nf with
        | zero => intro x2 x3 x4 x5 x6 x7 hr; exact z_none hr
        | succ n44 ih44 =>
          intro x2 x3 x4 x5 x6 x7 hr
          have B102 : ∀ (x2 : Int) (x3 : Int) (x4 : Int) (x5 : Int) (x7 : Int) (s0 : Int), fX6_reaches_b102 (fun a0 a1 a2 a3 hh => fX6_reaches_L24 n24 a0 a1 a2 a3 hh) (fun a0 a1 a2 a3 a4 a5 hh => fX6_reaches_L44 (fun a0 a1 a2 a3 hh => fX6_reaches_L24 n24 a0 a1 a2 a3 hh) n44 a0 a1 a2 a3 a4 a5 hh) x2 x3 x4 x5 x7 s0 h0 = some o → ZW G X sh_8 ad h0 0 0 [(0, .ref (ad 30)), (1, .ref (ad 35)), (2, .int (iI x2)), (3, .int (iI x3)), (4, .int (iI x4)), (5, .int (iI x5)), (7, .int (iI x7))] 102 [.int (iI s0)] := by
            intro x2 x3 x4 x5 x7 s0 hr
            unfold fX6_reaches_b102 at hr
            refine z_istore (lv1 := [(6, .int (iI s0)), (0, .ref (ad 30)), (1, .ref (ad 35)), (2, .int (iI x2)), (3, .int (iI x3)), (4, .int (iI x4)), (5, .int (iI x5)), (7, .int (iI x7))]) hX dX6_reaches_102 (by decide) rfl ?_
            refine z_iinc (lv1 := [(7, .int (iI (x7 + 1))), (6, .int (iI s0)), (0, .ref (ad 30)), (1, .ref (ad 35)), (2, .int (iI x2)), (3, .int (iI x3)), (4, .int (iI x4)), (5, .int (iI x5))]) hX dX6_reaches_104 7 rfl (by decide) rfl ?_
            refine z_goto (tgt := 44) hX dX6_reaches_107 (by decide) ?_
            refine z_lv [2, 3, 4, 5, 6, 7, 1, 0] rfl ?_
            exact ih44 x2 x3 x4 x5 s0 (x7 + 1) hr
          have B101 : ∀ (x2 : Int) (x3 : Int) (x4 : Int) (x5 : Int) (x7 : Int), fX6_reaches_b101 (fun a0 a1 a2 a3 hh => fX6_reaches_L24 n24 a0 a1 a2 a3 hh) (fun a0 a1 a2 a3 a4 a5 hh => fX6_reaches_L44 (fun a0 a1 a2 a3 hh => fX6_reaches_L24 n24 a0 a1 a2 a3 hh) n44 a0 a1 a2 a3 a4 a5 hh) x2 x3 x4 x5 x7 h0 = some o → ZW G X sh_8 ad h0 0 0 [(0, .ref (ad 30)), (1, .ref (ad 35)), (2, .int (iI x2)), (3, .int (iI x3)), (4, .int (iI x4)), (5, .int (iI x5)), (7, .int (iI x7))] 101 [] := by
            intro x2 x3 x4 x5 x7 hr
            unfold fX6_reaches_b101 at hr
            refine z_iconst hX dX6_reaches_101 ?_
            exact B102 x2 x3 x4 x5 x7 0 hr
          unfold fX6_reaches_L44 at hr
          refine z_iload hX dX6_reaches_44 7 rfl ?_
          refine z_aload_n hX dX6_reaches_46 0 rfl ?_
          refine z_iload hX dX6_reaches_47 4 rfl ?_
          refine z_iload hX dX6_reaches_49 5 rfl ?_
          obtain ⟨r1, hc1, hr⟩ := z_bind hr
          refine z_callV_i (As := [.int (iI x4), .int (iI x5)]) (k1 := 0) (n1 := 0) (nA := 2) hX (mX6_reach hc1) dX6_reaches_51 gX6_reaches_X6_reach rfl ⟨rfl, by decide, by decide, by decide +kernel⟩ ⟨by decide, by decide⟩ ⟨by decide, by decide⟩ 0 rfl rfl rfl rfl (Nat.le_of_ble_eq_true rfl) (by decide +kernel) rfl rfl (fun hg1 => ?_)
          refine z_icmp_gt (tgt := 110) hX dX6_reaches_54 (by decide) rfl rfl hr (fun hr => ?_) (fun hr => ?_)
          · refine z_lv [0, 1, 2, 3, 4, 5] rfl ?_
            exact B110 x2 x3 x4 x5 hr
          · refine z_iload hX dX6_reaches_57 6 rfl ?_
            refine z_if_eq (tgt := 110) hX dX6_reaches_59 (by decide) rfl hr (fun hr => ?_) (fun hr => ?_)
            · refine z_lv [0, 1, 2, 3, 4, 5] rfl ?_
              exact B110 x2 x3 x4 x5 hr
            · refine z_aload_n hX dX6_reaches_62 0 rfl ?_
              refine z_iload_n hX dX6_reaches_63 2 rfl ?_
              refine z_iload hX dX6_reaches_64 4 rfl ?_
              refine z_iload hX dX6_reaches_66 5 rfl ?_
              refine z_iload hX dX6_reaches_68 7 rfl ?_
              obtain ⟨r2, hc2, hr⟩ := z_bind hr
              refine z_callV_i (As := [.int (iI x2), .int (iI x4), .int (iI x5), .int (iI x7)]) (k1 := 0) (n1 := 0) (nA := 4) hX (mX6_target hc2) dX6_reaches_70 gX6_reaches_X6_target rfl ⟨rfl, by decide, by decide, by decide +kernel⟩ ⟨by decide, by decide⟩ ⟨by decide, by decide⟩ 0 rfl rfl rfl rfl (Nat.le_of_ble_eq_true rfl) (by decide +kernel) rfl rfl (fun hg2 => ?_)
              refine z_istore (lv1 := [(8, .int (iI r2)), (0, .ref (ad 30)), (1, .ref (ad 35)), (2, .int (iI x2)), (3, .int (iI x3)), (4, .int (iI x4)), (5, .int (iI x5)), (6, .int (iI x6)), (7, .int (iI x7))]) hX dX6_reaches_73 (by decide) rfl ?_
              refine z_iload hX dX6_reaches_75 0 rfl ?_
              refine z_iload_n hX dX6_reaches_77 4 rfl ?_
              refine z_icmp_ne (tgt := 83) hX dX6_reaches_78 (by decide) rfl rfl hr (fun hr => ?_) (fun hr => ?_)
              · refine z_iload hX dX6_reaches_83 0 rfl ?_
                refine z_iconst hX dX6_reaches_85 ?_
                refine z_icmp_eq (tgt := 101) hX dX6_reaches_86 (by decide) rfl (wr_of (by decide) (by decide)) hr (fun hr => ?_) (fun hr => ?_)
                · refine z_lv [1, 2, 3, 4, 5, 6, 8] rfl ?_
                  exact B101 x2 x3 x4 x5 x7 hr
                · refine z_aload_n hX dX6_reaches_89 2 rfl ?_
                  refine z_iload hX dX6_reaches_90 0 rfl ?_
                  refine z_iaload (b := 64) hX dX6_reaches_92 5 rfl (by decide) rfl hr (fun hr => ?_)
                  refine z_iconst hX dX6_reaches_93 ?_
                  refine z_icmp_ne (tgt := 101) hX dX6_reaches_94 (by decide) rfl (wr_of (by decide) (by decide)) hr (fun hr => ?_) (fun hr => ?_)
                  · refine z_lv [1, 2, 3, 4, 5, 6, 8] rfl ?_
                    exact B101 x2 x3 x4 x5 x7 hr
                  · refine z_iconst hX dX6_reaches_97 ?_
                    refine z_goto (tgt := 102) hX dX6_reaches_98 (by decide) ?_
                    refine z_lv [1, 2, 3, 4, 5, 6, 8] rfl ?_
                    exact B102 x2 x3 x4 x5 x7 1 hr
              · refine z_iconst hX dX6_reaches_81 ?_
                obtain rfl := Option.some.inj hr
                exact hQ _ _ dX6_reaches_82 hf (Or.inr rfl)
      unfold fX6_reaches_L24 at hr
      refine z_iload hX dX6_reaches_24 5 rfl ?_
      refine z_aload_n hX dX6_reaches_26 0 rfl ?_
      refine z_getR (j := 32) hX dX6_reaches_27 fl_13 0 rfl rfl ?_
      refine z_iload hX dX6_reaches_30 4 rfl ?_
      refine z_iconst hX dX6_reaches_32 ?_
      refine z_idiv hX dX6_reaches_33 (by decide) hr (fun hr => ?_)
      refine z_iaload (b := 6) hX dX6_reaches_34 2 rfl (by decide) rfl hr (fun hr => ?_)
      refine z_icmp_ge (tgt := 116) hX dX6_reaches_35 (by decide) rfl rfl hr (fun hr => ?_) (fun hr => ?_)
      · refine z_iconst hX dX6_reaches_116 ?_
        obtain rfl := Option.some.inj hr
        exact hQ _ _ dX6_reaches_117 hf (Or.inl rfl)
      · refine z_iconst hX dX6_reaches_38 ?_
        refine z_istore (lv1 := [(6, .int (iI 1)), (0, .ref (ad 30)), (1, .ref (ad 35)), (2, .int (iI x2)), (3, .int (iI x3)), (4, .int (iI x4)), (5, .int (iI x5))]) hX dX6_reaches_39 (by decide) rfl ?_
        refine z_iconst hX dX6_reaches_41 ?_
        refine z_istore (lv1 := [(7, .int (iI 1)), (6, .int (iI 1)), (0, .ref (ad 30)), (1, .ref (ad 35)), (2, .int (iI x2)), (3, .int (iI x3)), (4, .int (iI x4)), (5, .int (iI x5))]) hX dX6_reaches_42 (by decide) rfl ?_
        refine z_lv [2, 3, 4, 5, 6, 7, 1, 0] rfl ?_
        exact B44 zF x2 x3 x4 x5 1 1 hr
  unfold fX6_reaches at hr
  refine z_aload_n hX dX6_reaches_0 1 rfl ?_
  refine z_iload_n hX dX6_reaches_1 2 rfl ?_
  refine z_iaload (b := 64) hX dX6_reaches_2 5 rfl (by decide) rfl hr (fun hr => ?_)
  refine z_istore (lv1 := [(4, .int (iI (h0 35 p2))), (0, .ref (ad 30)), (1, .ref (ad 35)), (2, .int (iI p2)), (3, .int (iI p3))]) hX dX6_reaches_3 (by decide) rfl ?_
  refine z_aload_n hX dX6_reaches_5 2 rfl ?_
  refine z_iload_n hX dX6_reaches_6 4 rfl ?_
  refine z_iaload (b := 64) hX dX6_reaches_7 5 rfl (by decide) rfl hr (fun hr => ?_)
  obtain ⟨r3, hc3, hr⟩ := z_bind hr
  refine z_callS_i (As := [.int (iI (h0 35 p3))]) (k1 := 0) (n1 := 0) (nA := 1) hX (mX6_sideOf hc3) dX6_reaches_8 gX6_reaches_X6_sideOf rfl ⟨by decide, by decide, by decide +kernel⟩ ⟨by decide, by decide⟩ ⟨by decide, by decide⟩ rfl rfl (Nat.le_of_ble_eq_true rfl) (by decide +kernel) rfl rfl (fun hg3 => ?_)
  refine z_iload hX dX6_reaches_11 0 rfl ?_
  obtain ⟨r4, hc4, hr⟩ := z_bind hr
  refine z_callS_i (As := [.int (iI (h0 35 p2))]) (k1 := 0) (n1 := 0) (nA := 1) hX (mX6_sideOf hc4) dX6_reaches_13 gX6_reaches_X6_sideOf rfl ⟨by decide, by decide, by decide +kernel⟩ ⟨by decide, by decide⟩ ⟨by decide, by decide⟩ rfl rfl (Nat.le_of_ble_eq_true rfl) (by decide +kernel) rfl rfl (fun hg4 => ?_)
  refine z_icmp_ne (tgt := 21) hX dX6_reaches_16 (by decide) rfl rfl hr (fun hr => ?_) (fun hr => ?_)
  · refine z_iconst hX dX6_reaches_21 ?_
    refine z_istore (lv1 := [(5, .int (iI 0)), (4, .int (iI (h0 35 p2))), (0, .ref (ad 30)), (1, .ref (ad 35)), (2, .int (iI p2)), (3, .int (iI p3))]) hX dX6_reaches_22 (by decide) rfl ?_
    refine z_lv [2, 3, 4, 5, 1, 0] rfl ?_
    exact B24 zF p2 p3 (h0 35 p2) 0 hr
  · refine z_iconst hX dX6_reaches_19 ?_
    obtain rfl := Option.some.inj hr
    exact hQ _ _ dX6_reaches_20 hf (Or.inl rfl)

def fX6_reaches_t_b110 (k24 : Int → Int → Int → Int → HS → Option (Int)) (x2 : Int) (x3 : Int) (x4 : Int) (x5 : Int) (h : HS) : Option (Int) := k24 x2 x3 x4 (x5 + 1) h
def fX6_reaches_t_b102 (k24 : Int → Int → Int → Int → HS → Option (Int)) (k44 : Int → Int → Int → Int → Int → Int → HS → Option (Int)) (x2 : Int) (x3 : Int) (x4 : Int) (x5 : Int) (x7 : Int) (s0 : Int) (h : HS) : Option (Int) := k44 x2 x3 x4 x5 s0 (x7 + 1) h
def fX6_reaches_t_b101 (k24 : Int → Int → Int → Int → HS → Option (Int)) (k44 : Int → Int → Int → Int → Int → Int → HS → Option (Int)) (x2 : Int) (x3 : Int) (x4 : Int) (x5 : Int) (x7 : Int) (h : HS) : Option (Int) := fX6_reaches_t_b102 k24 k44 x2 x3 x4 x5 x7 0 h
def fX6_reaches_t_L44 (k24 : Int → Int → Int → Int → HS → Option (Int)) : Nat → Int → Int → Int → Int → Int → Int → HS → Option (Int)
  | 0, _, _, _, _, _, _, _ => none
  | nf + 1, x2, x3, x4, x5, x6, x7, h => (fX6_reach x4 x5 h).bind fun r1 => if wr r1 < wr x7 then fX6_reaches_t_b110 k24 x2 x3 x4 x5 h else if wr x6 = 0 then fX6_reaches_t_b110 k24 x2 x3 x4 x5 h else (fX6_target x2 x4 x5 x7 h).bind fun r2 => if wr r2 = wr x3 then some 1 else if wr r2 = ((-1) : Int) then fX6_reaches_t_b101 k24 (fun a0 a1 a2 a3 a4 a5 hh => fX6_reaches_t_L44 k24 nf a0 a1 a2 a3 a4 a5 hh) x2 x3 x4 x5 x7 h else if (0 : Int) ≤ r2 ∧ r2 < 64 then if wr (h 36 r2) = ((-1) : Int) then fX6_reaches_t_b102 k24 (fun a0 a1 a2 a3 a4 a5 hh => fX6_reaches_t_L44 k24 nf a0 a1 a2 a3 a4 a5 hh) x2 x3 x4 x5 x7 1 h else fX6_reaches_t_b101 k24 (fun a0 a1 a2 a3 a4 a5 hh => fX6_reaches_t_L44 k24 nf a0 a1 a2 a3 a4 a5 hh) x2 x3 x4 x5 x7 h else none
def fX6_reaches_t_L24 : Nat → Int → Int → Int → Int → HS → Option (Int)
  | 0, _, _, _, _, _ => none
  | nf + 1, x2, x3, x4, x5, h => if (0 : Int) ≤ x4 ∧ x4 < 2147483648 then if (0 : Int) ≤ (x4 / 2) ∧ (x4 / 2) < 6 then if wr (h 32 (x4 / 2)) ≤ wr x5 then some 0 else fX6_reaches_t_L44 (fun a0 a1 a2 a3 hh => fX6_reaches_t_L24 nf a0 a1 a2 a3 hh) zF x2 x3 x4 x5 1 1 h else none else none
def fX6_reaches_t (p2 : Int) (p3 : Int) (h : HS) : Option (Int) := if (0 : Int) ≤ p2 ∧ p2 < 64 then if (0 : Int) ≤ p3 ∧ p3 < 64 then (fX6_sideOf (h 36 p3) h).bind fun r3 => (fX6_sideOf (h 36 p2) h).bind fun r4 => if wr r3 = wr r4 then some 0 else fX6_reaches_t_L24 zF p2 p3 (h 36 p2) 0 h else none else none
set_option maxRecDepth 100000 in
set_option maxHeartbeats 4000000 in
theorem mX6_reaches_t {G : ZG} {l0 : Launch} {ad : Nat → Nat} {h0 : HS} {p2 : Int} {p3 : Int} {o : Int} (hr : fX6_reaches_t p2 p3 h0 = some o) : ZMi G l0 yX6_reaches wsX6_reaches ({ frames := 2, cells := 0, slots := 0, locals := 49 }) [.ref (ad 30), .ref (ad 36), .int (iI p2), .int (iI p3)] sh_8 ad h0 [] o h0 := by
  refine ZMi.ofZ (cc := cX6_reaches) (maxL := 9) (ret := (some .boolean)) (own := RX6) (lv0 := [(0, .ref (ad 30)), (1, .ref (ad 36)), (2, .int (iI p2)), (3, .int (iI p3))]) (by decide) rfl rfl rfl (Nat.le_of_ble_eq_true rfl) rfl ?_
  intro X hX hQ
  have hf : zfr [] h0 h0 := zfr_rf
  have fl_13 : zFld wsX6_reaches RX6 13 6 RX6 TX6 26 3 := ⟨by decide +kernel, by decide +kernel, by decide, rfl⟩
  have B24 : ∀ (nf : Nat) (x2 : Int) (x3 : Int) (x4 : Int) (x5 : Int), fX6_reaches_t_L24 nf x2 x3 x4 x5 h0 = some o → ZW G X sh_8 ad h0 0 0 [(0, .ref (ad 30)), (1, .ref (ad 36)), (2, .int (iI x2)), (3, .int (iI x3)), (4, .int (iI x4)), (5, .int (iI x5))] 24 [] := by
    intro nf
    induction nf with
    | zero => intro x2 x3 x4 x5 hr; exact z_none hr
    | succ n24 ih24 =>
      intro x2 x3 x4 x5 hr
      have B110 : ∀ (x2 : Int) (x3 : Int) (x4 : Int) (x5 : Int), fX6_reaches_t_b110 (fun a0 a1 a2 a3 hh => fX6_reaches_t_L24 n24 a0 a1 a2 a3 hh) x2 x3 x4 x5 h0 = some o → ZW G X sh_8 ad h0 0 0 [(0, .ref (ad 30)), (1, .ref (ad 36)), (2, .int (iI x2)), (3, .int (iI x3)), (4, .int (iI x4)), (5, .int (iI x5))] 110 [] := by
        intro x2 x3 x4 x5 hr
        unfold fX6_reaches_t_b110 at hr
        refine z_iinc (lv1 := [(5, .int (iI (x5 + 1))), (0, .ref (ad 30)), (1, .ref (ad 36)), (2, .int (iI x2)), (3, .int (iI x3)), (4, .int (iI x4))]) hX dX6_reaches_110 5 rfl (by decide) rfl ?_
        refine z_goto (tgt := 24) hX dX6_reaches_113 (by decide) ?_
        refine z_lv [1, 2, 3, 4, 5, 0] rfl ?_
        exact ih24 x2 x3 x4 (x5 + 1) hr
      have B44 : ∀ (nf : Nat) (x2 : Int) (x3 : Int) (x4 : Int) (x5 : Int) (x6 : Int) (x7 : Int), fX6_reaches_t_L44 (fun a0 a1 a2 a3 hh => fX6_reaches_t_L24 n24 a0 a1 a2 a3 hh) nf x2 x3 x4 x5 x6 x7 h0 = some o → ZW G X sh_8 ad h0 0 0 [(0, .ref (ad 30)), (1, .ref (ad 36)), (2, .int (iI x2)), (3, .int (iI x3)), (4, .int (iI x4)), (5, .int (iI x5)), (6, .int (iI x6)), (7, .int (iI x7))] 44 [] := by
        intro nf
        induction nf with
        | zero => intro x2 x3 x4 x5 x6 x7 hr; exact z_none hr
        | succ n44 ih44 =>
          intro x2 x3 x4 x5 x6 x7 hr
          have B102 : ∀ (x2 : Int) (x3 : Int) (x4 : Int) (x5 : Int) (x7 : Int) (s0 : Int), fX6_reaches_t_b102 (fun a0 a1 a2 a3 hh => fX6_reaches_t_L24 n24 a0 a1 a2 a3 hh) (fun a0 a1 a2 a3 a4 a5 hh => fX6_reaches_t_L44 (fun a0 a1 a2 a3 hh => fX6_reaches_t_L24 n24 a0 a1 a2 a3 hh) n44 a0 a1 a2 a3 a4 a5 hh) x2 x3 x4 x5 x7 s0 h0 = some o → ZW G X sh_8 ad h0 0 0 [(0, .ref (ad 30)), (1, .ref (ad 36)), (2, .int (iI x2)), (3, .int (iI x3)), (4, .int (iI x4)), (5, .int (iI x5)), (7, .int (iI x7))] 102 [.int (iI s0)] := by
            intro x2 x3 x4 x5 x7 s0 hr
            unfold fX6_reaches_t_b102 at hr
            refine z_istore (lv1 := [(6, .int (iI s0)), (0, .ref (ad 30)), (1, .ref (ad 36)), (2, .int (iI x2)), (3, .int (iI x3)), (4, .int (iI x4)), (5, .int (iI x5)), (7, .int (iI x7))]) hX dX6_reaches_102 (by decide) rfl ?_
            refine z_iinc (lv1 := [(7, .int (iI (x7 + 1))), (6, .int (iI s0)), (0, .ref (ad 30)), (1, .ref (ad 36)), (2, .int (iI x2)), (3, .int (iI x3)), (4, .int (iI x4)), (5, .int (iI x5))]) hX dX6_reaches_104 7 rfl (by decide) rfl ?_
            refine z_goto (tgt := 44) hX dX6_reaches_107 (by decide) ?_
            refine z_lv [2, 3, 4, 5, 6, 7, 1, 0] rfl ?_
            exact ih44 x2 x3 x4 x5 s0 (x7 + 1) hr
          have B101 : ∀ (x2 : Int) (x3 : Int) (x4 : Int) (x5 : Int) (x7 : Int), fX6_reaches_t_b101 (fun a0 a1 a2 a3 hh => fX6_reaches_t_L24 n24 a0 a1 a2 a3 hh) (fun a0 a1 a2 a3 a4 a5 hh => fX6_reaches_t_L44 (fun a0 a1 a2 a3 hh => fX6_reaches_t_L24 n24 a0 a1 a2 a3 hh) n44 a0 a1 a2 a3 a4 a5 hh) x2 x3 x4 x5 x7 h0 = some o → ZW G X sh_8 ad h0 0 0 [(0, .ref (ad 30)), (1, .ref (ad 36)), (2, .int (iI x2)), (3, .int (iI x3)), (4, .int (iI x4)), (5, .int (iI x5)), (7, .int (iI x7))] 101 [] := by
            intro x2 x3 x4 x5 x7 hr
            unfold fX6_reaches_t_b101 at hr
            refine z_iconst hX dX6_reaches_101 ?_
            exact B102 x2 x3 x4 x5 x7 0 hr
          unfold fX6_reaches_t_L44 at hr
          refine z_iload hX dX6_reaches_44 7 rfl ?_
          refine z_aload_n hX dX6_reaches_46 0 rfl ?_
          refine z_iload hX dX6_reaches_47 4 rfl ?_
          refine z_iload hX dX6_reaches_49 5 rfl ?_
          obtain ⟨r1, hc1, hr⟩ := z_bind hr
          refine z_callV_i (As := [.int (iI x4), .int (iI x5)]) (k1 := 0) (n1 := 0) (nA := 2) hX (mX6_reach hc1) dX6_reaches_51 gX6_reaches_X6_reach rfl ⟨rfl, by decide, by decide, by decide +kernel⟩ ⟨by decide, by decide⟩ ⟨by decide, by decide⟩ 0 rfl rfl rfl rfl (Nat.le_of_ble_eq_true rfl) (by decide +kernel) rfl rfl (fun hg1 => ?_)
          refine z_icmp_gt (tgt := 110) hX dX6_reaches_54 (by decide) rfl rfl hr (fun hr => ?_) (fun hr => ?_)
          · refine z_lv [0, 1, 2, 3, 4, 5] rfl ?_
            exact B110 x2 x3 x4 x5 hr
          · refine z_iload hX dX6_reaches_57 6 rfl ?_
            refine z_if_eq (tgt := 110) hX dX6_reaches_59 (by decide) rfl hr (fun hr => ?_) (fun hr => ?_)
            · refine z_lv [0, 1, 2, 3, 4, 5] rfl ?_
              exact B110 x2 x3 x4 x5 hr
            · refine z_aload_n hX dX6_reaches_62 0 rfl ?_
              refine z_iload_n hX dX6_reaches_63 2 rfl ?_
              refine z_iload hX dX6_reaches_64 4 rfl ?_
              refine z_iload hX dX6_reaches_66 5 rfl ?_
              refine z_iload hX dX6_reaches_68 7 rfl ?_
              obtain ⟨r2, hc2, hr⟩ := z_bind hr
              refine z_callV_i (As := [.int (iI x2), .int (iI x4), .int (iI x5), .int (iI x7)]) (k1 := 0) (n1 := 0) (nA := 4) hX (mX6_target hc2) dX6_reaches_70 gX6_reaches_X6_target rfl ⟨rfl, by decide, by decide, by decide +kernel⟩ ⟨by decide, by decide⟩ ⟨by decide, by decide⟩ 0 rfl rfl rfl rfl (Nat.le_of_ble_eq_true rfl) (by decide +kernel) rfl rfl (fun hg2 => ?_)
              refine z_istore (lv1 := [(8, .int (iI r2)), (0, .ref (ad 30)), (1, .ref (ad 36)), (2, .int (iI x2)), (3, .int (iI x3)), (4, .int (iI x4)), (5, .int (iI x5)), (6, .int (iI x6)), (7, .int (iI x7))]) hX dX6_reaches_73 (by decide) rfl ?_
              refine z_iload hX dX6_reaches_75 0 rfl ?_
              refine z_iload_n hX dX6_reaches_77 4 rfl ?_
              refine z_icmp_ne (tgt := 83) hX dX6_reaches_78 (by decide) rfl rfl hr (fun hr => ?_) (fun hr => ?_)
              · refine z_iload hX dX6_reaches_83 0 rfl ?_
                refine z_iconst hX dX6_reaches_85 ?_
                refine z_icmp_eq (tgt := 101) hX dX6_reaches_86 (by decide) rfl (wr_of (by decide) (by decide)) hr (fun hr => ?_) (fun hr => ?_)
                · refine z_lv [1, 2, 3, 4, 5, 6, 8] rfl ?_
                  exact B101 x2 x3 x4 x5 x7 hr
                · refine z_aload_n hX dX6_reaches_89 2 rfl ?_
                  refine z_iload hX dX6_reaches_90 0 rfl ?_
                  refine z_iaload (b := 64) hX dX6_reaches_92 6 rfl (by decide) rfl hr (fun hr => ?_)
                  refine z_iconst hX dX6_reaches_93 ?_
                  refine z_icmp_ne (tgt := 101) hX dX6_reaches_94 (by decide) rfl (wr_of (by decide) (by decide)) hr (fun hr => ?_) (fun hr => ?_)
                  · refine z_lv [1, 2, 3, 4, 5, 6, 8] rfl ?_
                    exact B101 x2 x3 x4 x5 x7 hr
                  · refine z_iconst hX dX6_reaches_97 ?_
                    refine z_goto (tgt := 102) hX dX6_reaches_98 (by decide) ?_
                    refine z_lv [1, 2, 3, 4, 5, 6, 8] rfl ?_
                    exact B102 x2 x3 x4 x5 x7 1 hr
              · refine z_iconst hX dX6_reaches_81 ?_
                obtain rfl := Option.some.inj hr
                exact hQ _ _ dX6_reaches_82 hf (Or.inr rfl)
      unfold fX6_reaches_t_L24 at hr
      refine z_iload hX dX6_reaches_24 5 rfl ?_
      refine z_aload_n hX dX6_reaches_26 0 rfl ?_
      refine z_getR (j := 32) hX dX6_reaches_27 fl_13 0 rfl rfl ?_
      refine z_iload hX dX6_reaches_30 4 rfl ?_
      refine z_iconst hX dX6_reaches_32 ?_
      refine z_idiv hX dX6_reaches_33 (by decide) hr (fun hr => ?_)
      refine z_iaload (b := 6) hX dX6_reaches_34 2 rfl (by decide) rfl hr (fun hr => ?_)
      refine z_icmp_ge (tgt := 116) hX dX6_reaches_35 (by decide) rfl rfl hr (fun hr => ?_) (fun hr => ?_)
      · refine z_iconst hX dX6_reaches_116 ?_
        obtain rfl := Option.some.inj hr
        exact hQ _ _ dX6_reaches_117 hf (Or.inl rfl)
      · refine z_iconst hX dX6_reaches_38 ?_
        refine z_istore (lv1 := [(6, .int (iI 1)), (0, .ref (ad 30)), (1, .ref (ad 36)), (2, .int (iI x2)), (3, .int (iI x3)), (4, .int (iI x4)), (5, .int (iI x5))]) hX dX6_reaches_39 (by decide) rfl ?_
        refine z_iconst hX dX6_reaches_41 ?_
        refine z_istore (lv1 := [(7, .int (iI 1)), (6, .int (iI 1)), (0, .ref (ad 30)), (1, .ref (ad 36)), (2, .int (iI x2)), (3, .int (iI x3)), (4, .int (iI x4)), (5, .int (iI x5))]) hX dX6_reaches_42 (by decide) rfl ?_
        refine z_lv [2, 3, 4, 5, 6, 7, 1, 0] rfl ?_
        exact B44 zF x2 x3 x4 x5 1 1 hr
  unfold fX6_reaches_t at hr
  refine z_aload_n hX dX6_reaches_0 1 rfl ?_
  refine z_iload_n hX dX6_reaches_1 2 rfl ?_
  refine z_iaload (b := 64) hX dX6_reaches_2 6 rfl (by decide) rfl hr (fun hr => ?_)
  refine z_istore (lv1 := [(4, .int (iI (h0 36 p2))), (0, .ref (ad 30)), (1, .ref (ad 36)), (2, .int (iI p2)), (3, .int (iI p3))]) hX dX6_reaches_3 (by decide) rfl ?_
  refine z_aload_n hX dX6_reaches_5 2 rfl ?_
  refine z_iload_n hX dX6_reaches_6 4 rfl ?_
  refine z_iaload (b := 64) hX dX6_reaches_7 6 rfl (by decide) rfl hr (fun hr => ?_)
  obtain ⟨r3, hc3, hr⟩ := z_bind hr
  refine z_callS_i (As := [.int (iI (h0 36 p3))]) (k1 := 0) (n1 := 0) (nA := 1) hX (mX6_sideOf hc3) dX6_reaches_8 gX6_reaches_X6_sideOf rfl ⟨by decide, by decide, by decide +kernel⟩ ⟨by decide, by decide⟩ ⟨by decide, by decide⟩ rfl rfl (Nat.le_of_ble_eq_true rfl) (by decide +kernel) rfl rfl (fun hg3 => ?_)
  refine z_iload hX dX6_reaches_11 0 rfl ?_
  obtain ⟨r4, hc4, hr⟩ := z_bind hr
  refine z_callS_i (As := [.int (iI (h0 36 p2))]) (k1 := 0) (n1 := 0) (nA := 1) hX (mX6_sideOf hc4) dX6_reaches_13 gX6_reaches_X6_sideOf rfl ⟨by decide, by decide, by decide +kernel⟩ ⟨by decide, by decide⟩ ⟨by decide, by decide⟩ rfl rfl (Nat.le_of_ble_eq_true rfl) (by decide +kernel) rfl rfl (fun hg4 => ?_)
  refine z_icmp_ne (tgt := 21) hX dX6_reaches_16 (by decide) rfl rfl hr (fun hr => ?_) (fun hr => ?_)
  · refine z_iconst hX dX6_reaches_21 ?_
    refine z_istore (lv1 := [(5, .int (iI 0)), (4, .int (iI (h0 36 p2))), (0, .ref (ad 30)), (1, .ref (ad 36)), (2, .int (iI p2)), (3, .int (iI p3))]) hX dX6_reaches_22 (by decide) rfl ?_
    refine z_lv [2, 3, 4, 5, 1, 0] rfl ?_
    exact B24 zF p2 p3 (h0 36 p2) 0 hr
  · refine z_iconst hX dX6_reaches_19 ?_
    obtain rfl := Option.some.inj hr
    exact hQ _ _ dX6_reaches_20 hf (Or.inl rfl)

def fX6_isChecked_b60 (k2 : Int → Int → HS → Option (Int)) (x2 : Int) (x3 : Int) (h : HS) : Option (Int) := k2 x2 (x3 + 1) h
def fX6_isChecked_b54 (k2 : Int → Int → HS → Option (Int)) (k21 : Int → Int → Int → HS → Option (Int)) (x2 : Int) (x3 : Int) (x4 : Int) (h : HS) : Option (Int) := k21 x2 x3 (x4 + 1) h
def fX6_isChecked_L21 (k2 : Int → Int → HS → Option (Int)) : Nat → Int → Int → Int → HS → Option (Int)
  | 0, _, _, _, _ => none
  | nf + 1, x2, x3, x4, h => if (64 : Int) ≤ wr x4 then fX6_isChecked_b60 k2 x2 x3 h else if (0 : Int) ≤ x4 ∧ x4 < 64 then (fX6_sideOf (h 35 x4) h).bind fun r1 => if wr r1 = wr (1 - x2) then (fX6_reaches x4 x3 h).bind fun r2 => if wr r2 = 0 then fX6_isChecked_b54 k2 (fun a0 a1 a2 hh => fX6_isChecked_L21 k2 nf a0 a1 a2 hh) x2 x3 x4 h else some 1 else fX6_isChecked_b54 k2 (fun a0 a1 a2 hh => fX6_isChecked_L21 k2 nf a0 a1 a2 hh) x2 x3 x4 h else none
def fX6_isChecked_L2 : Nat → Int → Int → HS → Option (Int)
  | 0, _, _, _ => none
  | nf + 1, x2, x3, h => if (64 : Int) ≤ wr x3 then some 0 else if (0 : Int) ≤ x3 ∧ x3 < 64 then if wr (h 35 x3) = wr x2 then fX6_isChecked_L21 (fun a0 a1 hh => fX6_isChecked_L2 nf a0 a1 hh) zF x2 x3 0 h else fX6_isChecked_b60 (fun a0 a1 hh => fX6_isChecked_L2 nf a0 a1 hh) x2 x3 h else none
def fX6_isChecked (p2 : Int) (h : HS) : Option (Int) := fX6_isChecked_L2 zF p2 0 h
set_option maxRecDepth 100000 in
set_option maxHeartbeats 4000000 in
theorem mX6_isChecked {G : ZG} {l0 : Launch} {ad : Nat → Nat} {h0 : HS} {p2 : Int} {o : Int} (hr : fX6_isChecked p2 h0 = some o) : ZMi G l0 yX6_isChecked wsX6_isChecked ({ frames := 3, cells := 0, slots := 0, locals := 77 }) [.ref (ad 30), .ref (ad 35), .int (iI p2)] sh_8 ad h0 [] o h0 := by
  refine ZMi.ofZ (cc := cX6_isChecked) (maxL := 5) (ret := (some .boolean)) (own := RX6) (lv0 := [(0, .ref (ad 30)), (1, .ref (ad 35)), (2, .int (iI p2))]) (by decide) rfl rfl rfl (Nat.le_of_ble_eq_true rfl) rfl ?_
  intro X hX hQ
  have hf : zfr [] h0 h0 := zfr_rf
  have B2 : ∀ (nf : Nat) (x2 : Int) (x3 : Int), fX6_isChecked_L2 nf x2 x3 h0 = some o → ZW G X sh_8 ad h0 0 0 [(0, .ref (ad 30)), (1, .ref (ad 35)), (2, .int (iI x2)), (3, .int (iI x3))] 2 [] := by
    intro nf
    induction nf with
    | zero => intro x2 x3 hr; exact z_none hr
    | succ n2 ih2 =>
      intro x2 x3 hr
      have B60 : ∀ (x2 : Int) (x3 : Int), fX6_isChecked_b60 (fun a0 a1 hh => fX6_isChecked_L2 n2 a0 a1 hh) x2 x3 h0 = some o → ZW G X sh_8 ad h0 0 0 [(0, .ref (ad 30)), (1, .ref (ad 35)), (2, .int (iI x2)), (3, .int (iI x3))] 60 [] := by
        intro x2 x3 hr
        unfold fX6_isChecked_b60 at hr
        refine z_iinc (lv1 := [(3, .int (iI (x3 + 1))), (0, .ref (ad 30)), (1, .ref (ad 35)), (2, .int (iI x2))]) hX dX6_isChecked_60 3 rfl (by decide) rfl ?_
        refine z_goto (tgt := 2) hX dX6_isChecked_63 (by decide) ?_
        refine z_lv [1, 2, 3, 0] rfl ?_
        exact ih2 x2 (x3 + 1) hr
      have B21 : ∀ (nf : Nat) (x2 : Int) (x3 : Int) (x4 : Int), fX6_isChecked_L21 (fun a0 a1 hh => fX6_isChecked_L2 n2 a0 a1 hh) nf x2 x3 x4 h0 = some o → ZW G X sh_8 ad h0 0 0 [(0, .ref (ad 30)), (1, .ref (ad 35)), (2, .int (iI x2)), (3, .int (iI x3)), (4, .int (iI x4))] 21 [] := by
        intro nf
        induction nf with
        | zero => intro x2 x3 x4 hr; exact z_none hr
        | succ n21 ih21 =>
          intro x2 x3 x4 hr
          have B54 : ∀ (x2 : Int) (x3 : Int) (x4 : Int), fX6_isChecked_b54 (fun a0 a1 hh => fX6_isChecked_L2 n2 a0 a1 hh) (fun a0 a1 a2 hh => fX6_isChecked_L21 (fun a0 a1 hh => fX6_isChecked_L2 n2 a0 a1 hh) n21 a0 a1 a2 hh) x2 x3 x4 h0 = some o → ZW G X sh_8 ad h0 0 0 [(0, .ref (ad 30)), (1, .ref (ad 35)), (2, .int (iI x2)), (3, .int (iI x3)), (4, .int (iI x4))] 54 [] := by
            intro x2 x3 x4 hr
            unfold fX6_isChecked_b54 at hr
            refine z_iinc (lv1 := [(4, .int (iI (x4 + 1))), (0, .ref (ad 30)), (1, .ref (ad 35)), (2, .int (iI x2)), (3, .int (iI x3))]) hX dX6_isChecked_54 4 rfl (by decide) rfl ?_
            refine z_goto (tgt := 21) hX dX6_isChecked_57 (by decide) ?_
            refine z_lv [1, 2, 3, 4, 0] rfl ?_
            exact ih21 x2 x3 (x4 + 1) hr
          unfold fX6_isChecked_L21 at hr
          refine z_iload hX dX6_isChecked_21 4 rfl ?_
          refine z_bipush hX dX6_isChecked_23 (by decide +kernel) ?_
          refine z_icmp_ge (tgt := 60) hX dX6_isChecked_25 (by decide) rfl (wr_of (by decide) (by decide)) hr (fun hr => ?_) (fun hr => ?_)
          · refine z_lv [0, 1, 2, 3] rfl ?_
            exact B60 x2 x3 hr
          · refine z_aload_n hX dX6_isChecked_28 1 rfl ?_
            refine z_iload hX dX6_isChecked_29 4 rfl ?_
            refine z_iaload (b := 64) hX dX6_isChecked_31 5 rfl (by decide) rfl hr (fun hr => ?_)
            obtain ⟨r1, hc1, hr⟩ := z_bind hr
            refine z_callS_i (As := [.int (iI (h0 35 x4))]) (k1 := 0) (n1 := 0) (nA := 1) hX (mX6_sideOf hc1) dX6_isChecked_32 gX6_isChecked_X6_sideOf rfl ⟨by decide, by decide, by decide +kernel⟩ ⟨by decide, by decide⟩ ⟨by decide, by decide⟩ rfl rfl (Nat.le_of_ble_eq_true rfl) (by decide +kernel) rfl rfl (fun hg1 => ?_)
            refine z_iconst hX dX6_isChecked_35 ?_
            refine z_iload_n hX dX6_isChecked_36 2 rfl ?_
            refine z_isub hX dX6_isChecked_37 ?_
            refine z_icmp_ne (tgt := 54) hX dX6_isChecked_38 (by decide) rfl rfl hr (fun hr => ?_) (fun hr => ?_)
            · exact B54 x2 x3 x4 hr
            · refine z_aload_n hX dX6_isChecked_41 0 rfl ?_
              refine z_aload_n hX dX6_isChecked_42 1 rfl ?_
              refine z_iload hX dX6_isChecked_43 4 rfl ?_
              refine z_iload_n hX dX6_isChecked_45 3 rfl ?_
              obtain ⟨r2, hc2, hr⟩ := z_bind hr
              refine z_callV_i (As := [.ref (ad 35), .int (iI x4), .int (iI x3)]) (k1 := 0) (n1 := 0) (nA := 3) hX (mX6_reaches hc2) dX6_isChecked_46 gX6_isChecked_X6_reaches rfl ⟨rfl, by decide, by decide, by decide +kernel⟩ ⟨by decide, by decide⟩ ⟨by decide, by decide⟩ 0 rfl rfl rfl rfl (Nat.le_of_ble_eq_true rfl) (by decide +kernel) rfl rfl (fun hg2 => ?_)
              refine z_if_eq (tgt := 54) hX dX6_isChecked_49 (by decide) rfl hr (fun hr => ?_) (fun hr => ?_)
              · exact B54 x2 x3 x4 hr
              · refine z_iconst hX dX6_isChecked_52 ?_
                obtain rfl := Option.some.inj hr
                exact hQ _ _ dX6_isChecked_53 hf (Or.inr rfl)
      unfold fX6_isChecked_L2 at hr
      refine z_iload_n hX dX6_isChecked_2 3 rfl ?_
      refine z_bipush hX dX6_isChecked_3 (by decide +kernel) ?_
      refine z_icmp_ge (tgt := 66) hX dX6_isChecked_5 (by decide) rfl (wr_of (by decide) (by decide)) hr (fun hr => ?_) (fun hr => ?_)
      · refine z_iconst hX dX6_isChecked_66 ?_
        obtain rfl := Option.some.inj hr
        exact hQ _ _ dX6_isChecked_67 hf (Or.inl rfl)
      · refine z_aload_n hX dX6_isChecked_8 1 rfl ?_
        refine z_iload_n hX dX6_isChecked_9 3 rfl ?_
        refine z_iaload (b := 64) hX dX6_isChecked_10 5 rfl (by decide) rfl hr (fun hr => ?_)
        refine z_iload_n hX dX6_isChecked_11 2 rfl ?_
        refine z_icmp_eq (tgt := 18) hX dX6_isChecked_12 (by decide) rfl rfl hr (fun hr => ?_) (fun hr => ?_)
        · refine z_iconst hX dX6_isChecked_18 ?_
          refine z_istore (lv1 := [(4, .int (iI 0)), (0, .ref (ad 30)), (1, .ref (ad 35)), (2, .int (iI x2)), (3, .int (iI x3))]) hX dX6_isChecked_19 (by decide) rfl ?_
          refine z_lv [1, 2, 3, 4, 0] rfl ?_
          exact B21 zF x2 x3 0 hr
        · refine z_goto (tgt := 60) hX dX6_isChecked_15 (by decide) ?_
          exact B60 x2 x3 hr
  unfold fX6_isChecked at hr
  refine z_iconst hX dX6_isChecked_0 ?_
  refine z_istore_n (lv1 := [(3, .int (iI 0)), (0, .ref (ad 30)), (1, .ref (ad 35)), (2, .int (iI p2))]) hX dX6_isChecked_1 (by decide) rfl ?_
  refine z_lv [1, 2, 3, 0] rfl ?_
  exact B2 zF p2 0 hr

def fX6_isChecked_t_b60 (k2 : Int → Int → HS → Option (Int)) (x2 : Int) (x3 : Int) (h : HS) : Option (Int) := k2 x2 (x3 + 1) h
def fX6_isChecked_t_b54 (k2 : Int → Int → HS → Option (Int)) (k21 : Int → Int → Int → HS → Option (Int)) (x2 : Int) (x3 : Int) (x4 : Int) (h : HS) : Option (Int) := k21 x2 x3 (x4 + 1) h
def fX6_isChecked_t_L21 (k2 : Int → Int → HS → Option (Int)) : Nat → Int → Int → Int → HS → Option (Int)
  | 0, _, _, _, _ => none
  | nf + 1, x2, x3, x4, h => if (64 : Int) ≤ wr x4 then fX6_isChecked_t_b60 k2 x2 x3 h else if (0 : Int) ≤ x4 ∧ x4 < 64 then (fX6_sideOf (h 36 x4) h).bind fun r1 => if wr r1 = wr (1 - x2) then (fX6_reaches_t x4 x3 h).bind fun r2 => if wr r2 = 0 then fX6_isChecked_t_b54 k2 (fun a0 a1 a2 hh => fX6_isChecked_t_L21 k2 nf a0 a1 a2 hh) x2 x3 x4 h else some 1 else fX6_isChecked_t_b54 k2 (fun a0 a1 a2 hh => fX6_isChecked_t_L21 k2 nf a0 a1 a2 hh) x2 x3 x4 h else none
def fX6_isChecked_t_L2 : Nat → Int → Int → HS → Option (Int)
  | 0, _, _, _ => none
  | nf + 1, x2, x3, h => if (64 : Int) ≤ wr x3 then some 0 else if (0 : Int) ≤ x3 ∧ x3 < 64 then if wr (h 36 x3) = wr x2 then fX6_isChecked_t_L21 (fun a0 a1 hh => fX6_isChecked_t_L2 nf a0 a1 hh) zF x2 x3 0 h else fX6_isChecked_t_b60 (fun a0 a1 hh => fX6_isChecked_t_L2 nf a0 a1 hh) x2 x3 h else none
def fX6_isChecked_t (p2 : Int) (h : HS) : Option (Int) := fX6_isChecked_t_L2 zF p2 0 h
set_option maxRecDepth 100000 in
set_option maxHeartbeats 4000000 in
theorem mX6_isChecked_t {G : ZG} {l0 : Launch} {ad : Nat → Nat} {h0 : HS} {p2 : Int} {o : Int} (hr : fX6_isChecked_t p2 h0 = some o) : ZMi G l0 yX6_isChecked wsX6_isChecked ({ frames := 3, cells := 0, slots := 0, locals := 77 }) [.ref (ad 30), .ref (ad 36), .int (iI p2)] sh_8 ad h0 [] o h0 := by
  refine ZMi.ofZ (cc := cX6_isChecked) (maxL := 5) (ret := (some .boolean)) (own := RX6) (lv0 := [(0, .ref (ad 30)), (1, .ref (ad 36)), (2, .int (iI p2))]) (by decide) rfl rfl rfl (Nat.le_of_ble_eq_true rfl) rfl ?_
  intro X hX hQ
  have hf : zfr [] h0 h0 := zfr_rf
  have B2 : ∀ (nf : Nat) (x2 : Int) (x3 : Int), fX6_isChecked_t_L2 nf x2 x3 h0 = some o → ZW G X sh_8 ad h0 0 0 [(0, .ref (ad 30)), (1, .ref (ad 36)), (2, .int (iI x2)), (3, .int (iI x3))] 2 [] := by
    intro nf
    induction nf with
    | zero => intro x2 x3 hr; exact z_none hr
    | succ n2 ih2 =>
      intro x2 x3 hr
      have B60 : ∀ (x2 : Int) (x3 : Int), fX6_isChecked_t_b60 (fun a0 a1 hh => fX6_isChecked_t_L2 n2 a0 a1 hh) x2 x3 h0 = some o → ZW G X sh_8 ad h0 0 0 [(0, .ref (ad 30)), (1, .ref (ad 36)), (2, .int (iI x2)), (3, .int (iI x3))] 60 [] := by
        intro x2 x3 hr
        unfold fX6_isChecked_t_b60 at hr
        refine z_iinc (lv1 := [(3, .int (iI (x3 + 1))), (0, .ref (ad 30)), (1, .ref (ad 36)), (2, .int (iI x2))]) hX dX6_isChecked_60 3 rfl (by decide) rfl ?_
        refine z_goto (tgt := 2) hX dX6_isChecked_63 (by decide) ?_
        refine z_lv [1, 2, 3, 0] rfl ?_
        exact ih2 x2 (x3 + 1) hr
      have B21 : ∀ (nf : Nat) (x2 : Int) (x3 : Int) (x4 : Int), fX6_isChecked_t_L21 (fun a0 a1 hh => fX6_isChecked_t_L2 n2 a0 a1 hh) nf x2 x3 x4 h0 = some o → ZW G X sh_8 ad h0 0 0 [(0, .ref (ad 30)), (1, .ref (ad 36)), (2, .int (iI x2)), (3, .int (iI x3)), (4, .int (iI x4))] 21 [] := by
        intro nf
        induction nf with
        | zero => intro x2 x3 x4 hr; exact z_none hr
        | succ n21 ih21 =>
          intro x2 x3 x4 hr
          have B54 : ∀ (x2 : Int) (x3 : Int) (x4 : Int), fX6_isChecked_t_b54 (fun a0 a1 hh => fX6_isChecked_t_L2 n2 a0 a1 hh) (fun a0 a1 a2 hh => fX6_isChecked_t_L21 (fun a0 a1 hh => fX6_isChecked_t_L2 n2 a0 a1 hh) n21 a0 a1 a2 hh) x2 x3 x4 h0 = some o → ZW G X sh_8 ad h0 0 0 [(0, .ref (ad 30)), (1, .ref (ad 36)), (2, .int (iI x2)), (3, .int (iI x3)), (4, .int (iI x4))] 54 [] := by
            intro x2 x3 x4 hr
            unfold fX6_isChecked_t_b54 at hr
            refine z_iinc (lv1 := [(4, .int (iI (x4 + 1))), (0, .ref (ad 30)), (1, .ref (ad 36)), (2, .int (iI x2)), (3, .int (iI x3))]) hX dX6_isChecked_54 4 rfl (by decide) rfl ?_
            refine z_goto (tgt := 21) hX dX6_isChecked_57 (by decide) ?_
            refine z_lv [1, 2, 3, 4, 0] rfl ?_
            exact ih21 x2 x3 (x4 + 1) hr
          unfold fX6_isChecked_t_L21 at hr
          refine z_iload hX dX6_isChecked_21 4 rfl ?_
          refine z_bipush hX dX6_isChecked_23 (by decide +kernel) ?_
          refine z_icmp_ge (tgt := 60) hX dX6_isChecked_25 (by decide) rfl (wr_of (by decide) (by decide)) hr (fun hr => ?_) (fun hr => ?_)
          · refine z_lv [0, 1, 2, 3] rfl ?_
            exact B60 x2 x3 hr
          · refine z_aload_n hX dX6_isChecked_28 1 rfl ?_
            refine z_iload hX dX6_isChecked_29 4 rfl ?_
            refine z_iaload (b := 64) hX dX6_isChecked_31 6 rfl (by decide) rfl hr (fun hr => ?_)
            obtain ⟨r1, hc1, hr⟩ := z_bind hr
            refine z_callS_i (As := [.int (iI (h0 36 x4))]) (k1 := 0) (n1 := 0) (nA := 1) hX (mX6_sideOf hc1) dX6_isChecked_32 gX6_isChecked_X6_sideOf rfl ⟨by decide, by decide, by decide +kernel⟩ ⟨by decide, by decide⟩ ⟨by decide, by decide⟩ rfl rfl (Nat.le_of_ble_eq_true rfl) (by decide +kernel) rfl rfl (fun hg1 => ?_)
            refine z_iconst hX dX6_isChecked_35 ?_
            refine z_iload_n hX dX6_isChecked_36 2 rfl ?_
            refine z_isub hX dX6_isChecked_37 ?_
            refine z_icmp_ne (tgt := 54) hX dX6_isChecked_38 (by decide) rfl rfl hr (fun hr => ?_) (fun hr => ?_)
            · exact B54 x2 x3 x4 hr
            · refine z_aload_n hX dX6_isChecked_41 0 rfl ?_
              refine z_aload_n hX dX6_isChecked_42 1 rfl ?_
              refine z_iload hX dX6_isChecked_43 4 rfl ?_
              refine z_iload_n hX dX6_isChecked_45 3 rfl ?_
              obtain ⟨r2, hc2, hr⟩ := z_bind hr
              refine z_callV_i (As := [.ref (ad 36), .int (iI x4), .int (iI x3)]) (k1 := 0) (n1 := 0) (nA := 3) hX (mX6_reaches_t hc2) dX6_isChecked_46 gX6_isChecked_X6_reaches rfl ⟨rfl, by decide, by decide, by decide +kernel⟩ ⟨by decide, by decide⟩ ⟨by decide, by decide⟩ 0 rfl rfl rfl rfl (Nat.le_of_ble_eq_true rfl) (by decide +kernel) rfl rfl (fun hg2 => ?_)
              refine z_if_eq (tgt := 54) hX dX6_isChecked_49 (by decide) rfl hr (fun hr => ?_) (fun hr => ?_)
              · exact B54 x2 x3 x4 hr
              · refine z_iconst hX dX6_isChecked_52 ?_
                obtain rfl := Option.some.inj hr
                exact hQ _ _ dX6_isChecked_53 hf (Or.inr rfl)
      unfold fX6_isChecked_t_L2 at hr
      refine z_iload_n hX dX6_isChecked_2 3 rfl ?_
      refine z_bipush hX dX6_isChecked_3 (by decide +kernel) ?_
      refine z_icmp_ge (tgt := 66) hX dX6_isChecked_5 (by decide) rfl (wr_of (by decide) (by decide)) hr (fun hr => ?_) (fun hr => ?_)
      · refine z_iconst hX dX6_isChecked_66 ?_
        obtain rfl := Option.some.inj hr
        exact hQ _ _ dX6_isChecked_67 hf (Or.inl rfl)
      · refine z_aload_n hX dX6_isChecked_8 1 rfl ?_
        refine z_iload_n hX dX6_isChecked_9 3 rfl ?_
        refine z_iaload (b := 64) hX dX6_isChecked_10 6 rfl (by decide) rfl hr (fun hr => ?_)
        refine z_iload_n hX dX6_isChecked_11 2 rfl ?_
        refine z_icmp_eq (tgt := 18) hX dX6_isChecked_12 (by decide) rfl rfl hr (fun hr => ?_) (fun hr => ?_)
        · refine z_iconst hX dX6_isChecked_18 ?_
          refine z_istore (lv1 := [(4, .int (iI 0)), (0, .ref (ad 30)), (1, .ref (ad 36)), (2, .int (iI x2)), (3, .int (iI x3))]) hX dX6_isChecked_19 (by decide) rfl ?_
          refine z_lv [1, 2, 3, 4, 0] rfl ?_
          exact B21 zF x2 x3 0 hr
        · refine z_goto (tgt := 60) hX dX6_isChecked_15 (by decide) ?_
          exact B60 x2 x3 hr
  unfold fX6_isChecked_t at hr
  refine z_iconst hX dX6_isChecked_0 ?_
  refine z_istore_n (lv1 := [(3, .int (iI 0)), (0, .ref (ad 30)), (1, .ref (ad 36)), (2, .int (iI p2))]) hX dX6_isChecked_1 (by decide) rfl ?_
  refine z_lv [1, 2, 3, 0] rfl ?_
  exact B2 zF p2 0 hr

def fX6_isLegal (p1 : Int) (p2 : Int) (h : HS) : Option (Int × HS) := if (0 : Int) ≤ 0 ∧ (0 : Int) ≤ 0 ∧ (0 : Int) ≤ 64 ∧ (0 : Int) + 64 ≤ 64 ∧ (0 : Int) + 64 ≤ 64 then (fX6_play_t p1 p2 (hcp h 35 0 36 0 64)).bind fun r1 => if (0 : Int) ≤ p1 ∧ p1 < 64 then (fX6_sideOf (r1 35 p1) r1).bind fun r2 => (fX6_isChecked_t r2 r1).bind fun r3 => if wr r3 = 0 then some (1, r1) else some (0, r1) else none else none
set_option maxRecDepth 100000 in
set_option maxHeartbeats 4000000 in
theorem mX6_isLegal {G : ZG} {l0 : Launch} {ad : Nat → Nat} {h0 : HS} {p1 : Int} {p2 : Int} {o : Int × HS} (hr : fX6_isLegal p1 p2 h0 = some o) : ZMi G l0 yX6_isLegal wsX6_isLegal ({ frames := 4, cells := 0, slots := 0, locals := 101 }) [.ref (ad 30), .int (iI p1), .int (iI p2)] sh_8 ad h0 [36] o.1 o.2 := by
  refine ZMi.ofZ (cc := cX6_isLegal) (maxL := 3) (ret := (some .boolean)) (own := RX6) (lv0 := [(0, .ref (ad 30)), (1, .int (iI p1)), (2, .int (iI p2))]) (by decide) rfl rfl rfl (Nat.le_of_ble_eq_true rfl) rfl ?_
  intro X hX hQ
  have hf : zfr [36] h0 h0 := zfr_rf
  have fl_22 : zFld wsX6_isLegal RX6 22 6 RX6 TX6 26 6 := ⟨by decide +kernel, by decide +kernel, by decide, rfl⟩
  have fl_25 : zFld wsX6_isLegal RX6 25 6 RX6 TX6 26 7 := ⟨by decide +kernel, by decide +kernel, by decide, rfl⟩
  unfold fX6_isLegal at hr
  refine z_aload_n hX dX6_isLegal_0 0 rfl ?_
  refine z_getR (j := 35) hX dX6_isLegal_1 fl_22 0 rfl rfl ?_
  refine z_iconst hX dX6_isLegal_4 ?_
  refine z_aload_n hX dX6_isLegal_5 0 rfl ?_
  refine z_getR (j := 36) hX dX6_isLegal_6 fl_25 0 rfl rfl ?_
  refine z_iconst hX dX6_isLegal_9 ?_
  refine z_bipush hX dX6_isLegal_10 (by decide +kernel) ?_
  refine z_copyi (b0 := 64) (b1 := 64) hX dX6_isLegal_12 5 6 rfl rfl (by decide) (by decide) rfl rfl (by decide +kernel) (by decide +kernel) (by decide +kernel) (by decide +kernel) (by decide) (by decide +kernel) hr (fun hr => ?_)
  have hf : zfr [36] h0 (hcp h0 35 0 36 0 64) := zfr_hcp hf (by decide)
  refine z_aload_n hX dX6_isLegal_15 0 rfl ?_
  refine z_getR (j := 36) hX dX6_isLegal_16 fl_25 0 rfl rfl ?_
  refine z_iload_n hX dX6_isLegal_19 1 rfl ?_
  refine z_iload_n hX dX6_isLegal_20 2 rfl ?_
  obtain ⟨r1, hc1, hr⟩ := z_bind hr
  refine z_callS_v (As := [.ref (ad 36), .int (iI p1), .int (iI p2)]) (k1 := 0) (n1 := 0) (nA := 3) hX (mX6_play_t hc1) dX6_isLegal_21 gX6_isLegal_X6_play rfl ⟨by decide, by decide, by decide +kernel⟩ ⟨by decide, by decide⟩ ⟨by decide, by decide⟩ rfl rfl (Nat.le_of_ble_eq_true rfl) (by decide +kernel) rfl rfl (fun hg1 => ?_)
  have hf : zfr [36] h0 r1 := zfr_tr hf (by decide) hg1
  refine z_aload_n hX dX6_isLegal_24 0 rfl ?_
  refine z_aload_n hX dX6_isLegal_25 0 rfl ?_
  refine z_getR (j := 36) hX dX6_isLegal_26 fl_25 0 rfl rfl ?_
  refine z_aload_n hX dX6_isLegal_29 0 rfl ?_
  refine z_getR (j := 35) hX dX6_isLegal_30 fl_22 0 rfl rfl ?_
  refine z_iload_n hX dX6_isLegal_33 1 rfl ?_
  refine z_iaload (b := 64) hX dX6_isLegal_34 5 rfl (by decide) rfl hr (fun hr => ?_)
  obtain ⟨r2, hc2, hr⟩ := z_bind hr
  refine z_callS_i (As := [.int (iI (r1 35 p1))]) (k1 := 0) (n1 := 0) (nA := 1) hX (mX6_sideOf hc2) dX6_isLegal_35 gX6_isLegal_X6_sideOf rfl ⟨by decide, by decide, by decide +kernel⟩ ⟨by decide, by decide⟩ ⟨by decide, by decide⟩ rfl rfl (Nat.le_of_ble_eq_true rfl) (by decide +kernel) rfl rfl (fun hg2 => ?_)
  obtain ⟨r3, hc3, hr⟩ := z_bind hr
  refine z_callV_i (As := [.ref (ad 36), .int (iI r2)]) (k1 := 0) (n1 := 0) (nA := 2) hX (mX6_isChecked_t hc3) dX6_isLegal_38 gX6_isLegal_X6_isChecked rfl ⟨rfl, by decide, by decide, by decide +kernel⟩ ⟨by decide, by decide⟩ ⟨by decide, by decide⟩ 0 rfl rfl rfl rfl (Nat.le_of_ble_eq_true rfl) (by decide +kernel) rfl rfl (fun hg3 => ?_)
  refine z_if_ne (tgt := 48) hX dX6_isLegal_41 (by decide) rfl hr (fun hr => ?_) (fun hr => ?_)
  · refine z_iconst hX dX6_isLegal_48 ?_
    obtain rfl := Option.some.inj hr
    exact hQ _ _ dX6_isLegal_49 hf (Or.inl rfl)
  · refine z_iconst hX dX6_isLegal_44 ?_
    refine z_goto (tgt := 49) hX dX6_isLegal_45 (by decide) ?_
    obtain rfl := Option.some.inj hr
    exact hQ _ _ dX6_isLegal_49 hf (Or.inr rfl)

def fX6_legalMoves_b79 (k5 : Int → Int → Int → Int → HS → Option (Int × HS)) (x1 : Int) (x2 : Int) (x3 : Int) (x4 : Int) (h : HS) : Option (Int × HS) := k5 x1 x2 x3 (x4 + 1) h
def fX6_legalMoves_b73 (k5 : Int → Int → Int → Int → HS → Option (Int × HS)) (k32 : Int → Int → Int → Int → Int → HS → Option (Int × HS)) (x1 : Int) (x2 : Int) (x3 : Int) (x4 : Int) (x5 : Int) (h : HS) : Option (Int × HS) := k32 x1 x2 x3 x4 (x5 + 1) h
def fX6_legalMoves_L32 (k5 : Int → Int → Int → Int → HS → Option (Int × HS)) : Nat → Int → Int → Int → Int → Int → HS → Option (Int × HS)
  | 0, _, _, _, _, _, _ => none
  | nf + 1, x1, x2, x3, x4, x5, h => if (64 : Int) ≤ wr x5 then fX6_legalMoves_b79 k5 x1 x2 x3 x4 h else if wr x2 ≤ wr x3 then fX6_legalMoves_b79 k5 x1 x2 x3 x4 h else (fX6_reaches x4 x5 h).bind fun r1 => if wr r1 = 0 then fX6_legalMoves_b73 k5 (fun a0 a1 a2 a3 a4 hh => fX6_legalMoves_L32 k5 nf a0 a1 a2 a3 a4 hh) x1 x2 x3 x4 x5 h else (fX6_isLegal x4 x5 h).bind fun r2 => if wr r2.1 = 0 then fX6_legalMoves_b73 k5 (fun a0 a1 a2 a3 a4 hh => fX6_legalMoves_L32 k5 nf a0 a1 a2 a3 a4 hh) x1 x2 x3 x4 x5 r2.2 else fX6_legalMoves_b73 k5 (fun a0 a1 a2 a3 a4 hh => fX6_legalMoves_L32 k5 nf a0 a1 a2 a3 a4 hh) x1 x2 (x3 + 1) x4 x5 r2.2
def fX6_legalMoves_L5 : Nat → Int → Int → Int → Int → HS → Option (Int × HS)
  | 0, _, _, _, _, _ => none
  | nf + 1, x1, x2, x3, x4, h => if (64 : Int) ≤ wr x4 then some (x3, h) else if (0 : Int) ≤ x4 ∧ x4 < 64 then (fX6_sideOf (h 35 x4) h).bind fun r3 => if wr r3 = wr x1 then fX6_legalMoves_L32 (fun a0 a1 a2 a3 hh => fX6_legalMoves_L5 nf a0 a1 a2 a3 hh) zF x1 x2 x3 x4 0 h else fX6_legalMoves_b79 (fun a0 a1 a2 a3 hh => fX6_legalMoves_L5 nf a0 a1 a2 a3 hh) x1 x2 x3 x4 h else none
def fX6_legalMoves (p1 : Int) (p2 : Int) (h : HS) : Option (Int × HS) := fX6_legalMoves_L5 zF p1 p2 0 0 h
set_option maxRecDepth 100000 in
set_option maxHeartbeats 4000000 in
theorem mX6_legalMoves {G : ZG} {l0 : Launch} {ad : Nat → Nat} {h0 : HS} {p1 : Int} {p2 : Int} {o : Int × HS} (hr : fX6_legalMoves p1 p2 h0 = some o) : ZMi G l0 yX6_legalMoves wsX6_legalMoves ({ frames := 5, cells := 0, slots := 0, locals := 123 }) [.ref (ad 30), .int (iI p1), .int (iI p2)] sh_8 ad h0 [36] o.1 o.2 := by
  refine ZMi.of (cc := cX6_legalMoves) (maxL := 6) (ret := (some .int)) (own := RX6) (lv0 := [(0, .ref (ad 30)), (1, .int (iI p1)), (2, .int (iI p2))]) (by decide) rfl rfl rfl (Nat.le_of_ble_eq_true rfl) rfl ?_
  intro X hX hQ
  have hf : zfr [36] h0 h0 := zfr_rf
  have fl_22 : zFld wsX6_legalMoves RX6 22 6 RX6 TX6 26 6 := ⟨by decide +kernel, by decide +kernel, by decide, rfl⟩
  have B5 : ∀ (nf : Nat) (x1 : Int) (x2 : Int) (x3 : Int) (x4 : Int) (h : HS), zfr [36] h0 h → fX6_legalMoves_L5 nf x1 x2 x3 x4 h = some o → ZW G X sh_8 ad h 0 0 [(0, .ref (ad 30)), (1, .int (iI x1)), (2, .int (iI x2)), (3, .int (iI x3)), (4, .int (iI x4))] 5 [] := by
    intro nf
    induction nf with
    | zero => intro x1 x2 x3 x4 h hf hr; exact z_none hr
    | succ n5 ih5 =>
      intro x1 x2 x3 x4 h hf hr
      have B79 : ∀ (x1 : Int) (x2 : Int) (x3 : Int) (x4 : Int) (h : HS), zfr [36] h0 h → fX6_legalMoves_b79 (fun a0 a1 a2 a3 hh => fX6_legalMoves_L5 n5 a0 a1 a2 a3 hh) x1 x2 x3 x4 h = some o → ZW G X sh_8 ad h 0 0 [(0, .ref (ad 30)), (1, .int (iI x1)), (2, .int (iI x2)), (3, .int (iI x3)), (4, .int (iI x4))] 79 [] := by
        intro x1 x2 x3 x4 h hf hr
        unfold fX6_legalMoves_b79 at hr
        refine z_iinc (lv1 := [(4, .int (iI (x4 + 1))), (0, .ref (ad 30)), (1, .int (iI x1)), (2, .int (iI x2)), (3, .int (iI x3))]) hX dX6_legalMoves_79 4 rfl (by decide) rfl ?_
        refine z_goto (tgt := 5) hX dX6_legalMoves_82 (by decide) ?_
        refine z_lv [1, 2, 3, 4, 0] rfl ?_
        exact ih5 x1 x2 x3 (x4 + 1) h hf hr
      have B32 : ∀ (nf : Nat) (x1 : Int) (x2 : Int) (x3 : Int) (x4 : Int) (x5 : Int) (h : HS), zfr [36] h0 h → fX6_legalMoves_L32 (fun a0 a1 a2 a3 hh => fX6_legalMoves_L5 n5 a0 a1 a2 a3 hh) nf x1 x2 x3 x4 x5 h = some o → ZW G X sh_8 ad h 0 0 [(0, .ref (ad 30)), (1, .int (iI x1)), (2, .int (iI x2)), (3, .int (iI x3)), (4, .int (iI x4)), (5, .int (iI x5))] 32 [] := by
        intro nf
        induction nf with
        | zero => intro x1 x2 x3 x4 x5 h hf hr; exact z_none hr
        | succ n32 ih32 =>
          intro x1 x2 x3 x4 x5 h hf hr
          have B73 : ∀ (x1 : Int) (x2 : Int) (x3 : Int) (x4 : Int) (x5 : Int) (h : HS), zfr [36] h0 h → fX6_legalMoves_b73 (fun a0 a1 a2 a3 hh => fX6_legalMoves_L5 n5 a0 a1 a2 a3 hh) (fun a0 a1 a2 a3 a4 hh => fX6_legalMoves_L32 (fun a0 a1 a2 a3 hh => fX6_legalMoves_L5 n5 a0 a1 a2 a3 hh) n32 a0 a1 a2 a3 a4 hh) x1 x2 x3 x4 x5 h = some o → ZW G X sh_8 ad h 0 0 [(0, .ref (ad 30)), (1, .int (iI x1)), (2, .int (iI x2)), (3, .int (iI x3)), (4, .int (iI x4)), (5, .int (iI x5))] 73 [] := by
            intro x1 x2 x3 x4 x5 h hf hr
            unfold fX6_legalMoves_b73 at hr
            refine z_iinc (lv1 := [(5, .int (iI (x5 + 1))), (0, .ref (ad 30)), (1, .int (iI x1)), (2, .int (iI x2)), (3, .int (iI x3)), (4, .int (iI x4))]) hX dX6_legalMoves_73 5 rfl (by decide) rfl ?_
            refine z_goto (tgt := 32) hX dX6_legalMoves_76 (by decide) ?_
            refine z_lv [1, 2, 3, 4, 5, 0] rfl ?_
            exact ih32 x1 x2 x3 x4 (x5 + 1) h hf hr
          unfold fX6_legalMoves_L32 at hr
          refine z_iload hX dX6_legalMoves_32 5 rfl ?_
          refine z_bipush hX dX6_legalMoves_34 (by decide +kernel) ?_
          refine z_icmp_ge (tgt := 79) hX dX6_legalMoves_36 (by decide) rfl (wr_of (by decide) (by decide)) hr (fun hr => ?_) (fun hr => ?_)
          · refine z_lv [0, 1, 2, 3, 4] rfl ?_
            exact B79 x1 x2 x3 x4 h hf hr
          · refine z_iload_n hX dX6_legalMoves_39 3 rfl ?_
            refine z_iload_n hX dX6_legalMoves_40 2 rfl ?_
            refine z_icmp_ge (tgt := 79) hX dX6_legalMoves_41 (by decide) rfl rfl hr (fun hr => ?_) (fun hr => ?_)
            · refine z_lv [0, 1, 2, 3, 4] rfl ?_
              exact B79 x1 x2 x3 x4 h hf hr
            · refine z_aload_n hX dX6_legalMoves_44 0 rfl ?_
              refine z_aload_n hX dX6_legalMoves_45 0 rfl ?_
              refine z_getR (j := 35) hX dX6_legalMoves_46 fl_22 0 rfl rfl ?_
              refine z_iload hX dX6_legalMoves_49 4 rfl ?_
              refine z_iload hX dX6_legalMoves_51 5 rfl ?_
              obtain ⟨r1, hc1, hr⟩ := z_bind hr
              refine z_callV_i (As := [.ref (ad 35), .int (iI x4), .int (iI x5)]) (k1 := 0) (n1 := 0) (nA := 3) hX (mX6_reaches hc1) dX6_legalMoves_53 gX6_legalMoves_X6_reaches rfl ⟨rfl, by decide, by decide, by decide +kernel⟩ ⟨by decide, by decide⟩ ⟨by decide, by decide⟩ 0 rfl rfl rfl rfl (Nat.le_of_ble_eq_true rfl) (by decide +kernel) rfl rfl (fun hg1 => ?_)
              refine z_if_eq (tgt := 73) hX dX6_legalMoves_56 (by decide) rfl hr (fun hr => ?_) (fun hr => ?_)
              · exact B73 x1 x2 x3 x4 x5 h hf hr
              · refine z_aload_n hX dX6_legalMoves_59 0 rfl ?_
                refine z_iload hX dX6_legalMoves_60 4 rfl ?_
                refine z_iload hX dX6_legalMoves_62 5 rfl ?_
                obtain ⟨r2, hc2, hr⟩ := z_bind hr
                refine z_callV_i (As := [.int (iI x4), .int (iI x5)]) (k1 := 0) (n1 := 0) (nA := 2) hX (mX6_isLegal hc2) dX6_legalMoves_64 gX6_legalMoves_X6_isLegal rfl ⟨rfl, by decide, by decide, by decide +kernel⟩ ⟨by decide, by decide⟩ ⟨by decide, by decide⟩ 0 rfl rfl rfl rfl (Nat.le_of_ble_eq_true rfl) (by decide +kernel) rfl rfl (fun hg2 => ?_)
                have hf : zfr [36] h0 r2.2 := zfr_tr hf (by decide) hg2
                refine z_if_eq (tgt := 73) hX dX6_legalMoves_67 (by decide) rfl hr (fun hr => ?_) (fun hr => ?_)
                · exact B73 x1 x2 x3 x4 x5 r2.2 hf hr
                · refine z_iinc (lv1 := [(3, .int (iI (x3 + 1))), (0, .ref (ad 30)), (1, .int (iI x1)), (2, .int (iI x2)), (4, .int (iI x4)), (5, .int (iI x5))]) hX dX6_legalMoves_70 3 rfl (by decide) rfl ?_
                  refine z_lv [1, 2, 3, 0, 4, 5] rfl ?_
                  exact B73 x1 x2 (x3 + 1) x4 x5 r2.2 hf hr
      unfold fX6_legalMoves_L5 at hr
      refine z_iload hX dX6_legalMoves_5 4 rfl ?_
      refine z_bipush hX dX6_legalMoves_7 (by decide +kernel) ?_
      refine z_icmp_ge (tgt := 85) hX dX6_legalMoves_9 (by decide) rfl (wr_of (by decide) (by decide)) hr (fun hr => ?_) (fun hr => ?_)
      · refine z_iload_n hX dX6_legalMoves_85 3 rfl ?_
        obtain rfl := Option.some.inj hr
        exact hQ _ _ dX6_legalMoves_86 hf
      · refine z_aload_n hX dX6_legalMoves_12 0 rfl ?_
        refine z_getR (j := 35) hX dX6_legalMoves_13 fl_22 0 rfl rfl ?_
        refine z_iload hX dX6_legalMoves_16 4 rfl ?_
        refine z_iaload (b := 64) hX dX6_legalMoves_18 5 rfl (by decide) rfl hr (fun hr => ?_)
        obtain ⟨r3, hc3, hr⟩ := z_bind hr
        refine z_callS_i (As := [.int (iI (h 35 x4))]) (k1 := 0) (n1 := 0) (nA := 1) hX (mX6_sideOf hc3) dX6_legalMoves_19 gX6_legalMoves_X6_sideOf rfl ⟨by decide, by decide, by decide +kernel⟩ ⟨by decide, by decide⟩ ⟨by decide, by decide⟩ rfl rfl (Nat.le_of_ble_eq_true rfl) (by decide +kernel) rfl rfl (fun hg3 => ?_)
        refine z_iload_n hX dX6_legalMoves_22 1 rfl ?_
        refine z_icmp_eq (tgt := 29) hX dX6_legalMoves_23 (by decide) rfl rfl hr (fun hr => ?_) (fun hr => ?_)
        · refine z_iconst hX dX6_legalMoves_29 ?_
          refine z_istore (lv1 := [(5, .int (iI 0)), (0, .ref (ad 30)), (1, .int (iI x1)), (2, .int (iI x2)), (3, .int (iI x3)), (4, .int (iI x4))]) hX dX6_legalMoves_30 (by decide) rfl ?_
          refine z_lv [1, 2, 3, 4, 5, 0] rfl ?_
          exact B32 zF x1 x2 x3 x4 0 h hf hr
        · refine z_goto (tgt := 79) hX dX6_legalMoves_26 (by decide) ?_
          exact B79 x1 x2 x3 x4 h hf hr
  unfold fX6_legalMoves at hr
  refine z_iconst hX dX6_legalMoves_0 ?_
  refine z_istore_n (lv1 := [(3, .int (iI 0)), (0, .ref (ad 30)), (1, .int (iI p1)), (2, .int (iI p2))]) hX dX6_legalMoves_1 (by decide) rfl ?_
  refine z_iconst hX dX6_legalMoves_2 ?_
  refine z_istore (lv1 := [(4, .int (iI 0)), (3, .int (iI 0)), (0, .ref (ad 30)), (1, .int (iI p1)), (2, .int (iI p2))]) hX dX6_legalMoves_3 (by decide) rfl ?_
  refine z_lv [2, 3, 4, 1, 0] rfl ?_
  exact B5 zF p1 p2 0 0 h0 hf hr

def fX6_at (p1 : Int) (h : HS) : Option (Int × HS) := (fX6_isSquare p1 (hs h 30 0 0)).bind fun r1 => if wr r1 = 0 then (fX6_fail 1 (hs h 30 0 0)).bind fun r2 => some (r2.1, r2.2) else if (0 : Int) ≤ p1 ∧ p1 < 64 then some ((((hs h 30 0 0)) 35 p1), (hs h 30 0 0)) else none
set_option maxRecDepth 100000 in
set_option maxHeartbeats 4000000 in
theorem mX6_at {G : ZG} {l0 : Launch} {ad : Nat → Nat} {h0 : HS} {p1 : Int} {o : Int × HS} (hr : fX6_at p1 h0 = some o) : ZMi G l0 yX6_at wsX6_at ({ frames := 2, cells := 0, slots := 0, locals := 42 }) [.ref (ad 30), .int (iI p1)] sh_8 ad h0 [30] o.1 o.2 := by
  refine ZMi.of (cc := cX6_at) (maxL := 2) (ret := (some .int)) (own := RX6) (lv0 := [(0, .ref (ad 30)), (1, .int (iI p1))]) (by decide) rfl rfl rfl (Nat.le_of_ble_eq_true rfl) rfl ?_
  intro X hX hQ
  have hf : zfr [30] h0 h0 := zfr_rf
  have fl_22 : zFld wsX6_at RX6 22 6 RX6 TX6 26 6 := ⟨by decide +kernel, by decide +kernel, by decide, rfl⟩
  have fl_66 : zFld wsX6_at RX6 66 6 RX6 TX6 26 0 := ⟨by decide +kernel, by decide +kernel, by decide, rfl⟩
  have pu_X6_0 : zPut TX6 26 0 tyX6 .int := ⟨tyX6_ok, nmX6, rfl, by decide +kernel⟩
  unfold fX6_at at hr
  refine z_aload_n hX dX6_at_0 0 rfl ?_
  refine z_iconst hX dX6_at_1 ?_
  refine z_putI hX dX6_at_2 fl_66 pu_X6_0 0 rfl rfl ?_
  have hf : zfr [30] h0 (hs h0 30 0 0) := zfr_hs hf (by decide)
  refine z_iload_n hX dX6_at_5 1 rfl ?_
  obtain ⟨r1, hc1, hr⟩ := z_bind hr
  refine z_callS_i (As := [.int (iI p1)]) (k1 := 0) (n1 := 0) (nA := 1) hX (mX6_isSquare hc1) dX6_at_6 gX6_at_X6_isSquare rfl ⟨by decide, by decide, by decide +kernel⟩ ⟨by decide, by decide⟩ ⟨by decide, by decide⟩ rfl rfl (Nat.le_of_ble_eq_true rfl) (by decide +kernel) rfl rfl (fun hg1 => ?_)
  refine z_if_eq (tgt := 21) hX dX6_at_9 (by decide) rfl hr (fun hr => ?_) (fun hr => ?_)
  · refine z_aload_n hX dX6_at_21 0 rfl ?_
    refine z_iconst hX dX6_at_22 ?_
    obtain ⟨r2, hc2, hr⟩ := z_bind hr
    refine z_callV_i (As := [.int (iI 1)]) (k1 := 0) (n1 := 0) (nA := 1) hX (mX6_fail hc2) dX6_at_23 gX6_at_X6_fail rfl ⟨rfl, by decide, by decide, by decide +kernel⟩ ⟨by decide, by decide⟩ ⟨by decide, by decide⟩ 0 rfl rfl rfl rfl (Nat.le_of_ble_eq_true rfl) (by decide +kernel) rfl rfl (fun hg2 => ?_)
    have hf : zfr [30] h0 r2.2 := zfr_tr hf (by decide) hg2
    obtain rfl := Option.some.inj hr
    exact hQ _ _ dX6_at_26 hf
  · refine z_aload_n hX dX6_at_12 0 rfl ?_
    refine z_getR (j := 35) hX dX6_at_13 fl_22 0 rfl rfl ?_
    refine z_iload_n hX dX6_at_16 1 rfl ?_
    refine z_iaload (b := 64) hX dX6_at_17 5 rfl (by decide) rfl hr (fun hr => ?_)
    refine z_goto (tgt := 26) hX dX6_at_18 (by decide) ?_
    obtain rfl := Option.some.inj hr
    exact hQ _ _ dX6_at_26 hf

def fX6_stateTold (p1 : Int) (h : HS) : Option (Int × HS) := if wr p1 = 0 then (fX6_turn h).bind fun r1 => some (r1, h) else if wr p1 = 1 then (fX6_turn h).bind fun r2 => (fX6_isChecked r2 h).bind fun r3 => if wr r3 = 0 then some (0, h) else some (1, h) else if wr p1 = 2 then (fX6_turn h).bind fun r4 => (fX6_legalMoves r4 4096 h).bind fun r5 => some (r5.1, r5.2) else if wr p1 = 3 then some ((h 30 9), h) else if wr p1 = 4 then some ((h 30 8), h) else if wr p1 = 5 then some ((h 30 1), h) else some ((h 30 13), h)
set_option maxRecDepth 100000 in
set_option maxHeartbeats 4000000 in
theorem mX6_stateTold {G : ZG} {l0 : Launch} {ad : Nat → Nat} {h0 : HS} {p1 : Int} {o : Int × HS} (hr : fX6_stateTold p1 h0 = some o) : ZMi G l0 yX6_stateTold wsX6_stateTold ({ frames := 6, cells := 0, slots := 0, locals := 148 }) [.ref (ad 30), .int (iI p1)] sh_8 ad h0 [36] o.1 o.2 := by
  refine ZMi.of (cc := cX6_stateTold) (maxL := 2) (ret := (some .int)) (own := RX6) (lv0 := [(0, .ref (ad 30)), (1, .int (iI p1))]) (by decide) rfl rfl rfl (Nat.le_of_ble_eq_true rfl) rfl ?_
  intro X hX hQ
  have hf : zfr [36] h0 h0 := zfr_rf
  have fl_127 : zFld wsX6_stateTold RX6 127 6 RX6 TX6 26 13 := ⟨by decide +kernel, by decide +kernel, by decide, rfl⟩
  have fl_22 : zFld wsX6_stateTold RX6 22 6 RX6 TX6 26 6 := ⟨by decide +kernel, by decide +kernel, by decide, rfl⟩
  have fl_28 : zFld wsX6_stateTold RX6 28 6 RX6 TX6 26 8 := ⟨by decide +kernel, by decide +kernel, by decide, rfl⟩
  have fl_80 : zFld wsX6_stateTold RX6 80 6 RX6 TX6 26 1 := ⟨by decide +kernel, by decide +kernel, by decide, rfl⟩
  have fl_95 : zFld wsX6_stateTold RX6 95 6 RX6 TX6 26 9 := ⟨by decide +kernel, by decide +kernel, by decide, rfl⟩
  unfold fX6_stateTold at hr
  refine z_iload_n hX dX6_stateTold_0 1 rfl ?_
  by_cases n0 : wr p1 = 0
  · have hr := z_ifp hr n0
    refine z_tableIn (v := 0) (tgt := 40) hX dX6_stateTold_1 n0 (by decide) (by decide) rfl (by decide) ?_
    refine z_aload_n hX dX6_stateTold_40 0 rfl ?_
    obtain ⟨r1, hc1, hr⟩ := z_bind hr
    refine z_callV_i (As := []) (k1 := 0) (n1 := 0) (nA := 0) hX (mX6_turn hc1) dX6_stateTold_41 gX6_stateTold_X6_turn rfl ⟨rfl, by decide, by decide, by decide +kernel⟩ ⟨by decide, by decide⟩ ⟨by decide, by decide⟩ 0 rfl rfl rfl rfl (Nat.le_of_ble_eq_true rfl) (by decide +kernel) rfl rfl (fun hg1 => ?_)
    obtain rfl := Option.some.inj hr
    exact hQ _ _ dX6_stateTold_44 hf
  · have hr := z_ifn hr n0
    by_cases n1 : wr p1 = 1
    · have hr := z_ifp hr n1
      refine z_tableIn (v := 1) (tgt := 45) hX dX6_stateTold_1 n1 (by decide) (by decide) rfl (by decide) ?_
      refine z_aload_n hX dX6_stateTold_45 0 rfl ?_
      refine z_aload_n hX dX6_stateTold_46 0 rfl ?_
      refine z_getR (j := 35) hX dX6_stateTold_47 fl_22 0 rfl rfl ?_
      refine z_aload_n hX dX6_stateTold_50 0 rfl ?_
      obtain ⟨r2, hc2, hr⟩ := z_bind hr
      refine z_callV_i (As := []) (k1 := 0) (n1 := 0) (nA := 0) hX (mX6_turn hc2) dX6_stateTold_51 gX6_stateTold_X6_turn rfl ⟨rfl, by decide, by decide, by decide +kernel⟩ ⟨by decide, by decide⟩ ⟨by decide, by decide⟩ 0 rfl rfl rfl rfl (Nat.le_of_ble_eq_true rfl) (by decide +kernel) rfl rfl (fun hg2 => ?_)
      obtain ⟨r3, hc3, hr⟩ := z_bind hr
      refine z_callV_i (As := [.ref (ad 35), .int (iI r2)]) (k1 := 0) (n1 := 0) (nA := 2) hX (mX6_isChecked hc3) dX6_stateTold_54 gX6_stateTold_X6_isChecked rfl ⟨rfl, by decide, by decide, by decide +kernel⟩ ⟨by decide, by decide⟩ ⟨by decide, by decide⟩ 0 rfl rfl rfl rfl (Nat.le_of_ble_eq_true rfl) (by decide +kernel) rfl rfl (fun hg3 => ?_)
      refine z_if_eq (tgt := 64) hX dX6_stateTold_57 (by decide) rfl hr (fun hr => ?_) (fun hr => ?_)
      · refine z_iconst hX dX6_stateTold_64 ?_
        obtain rfl := Option.some.inj hr
        exact hQ _ _ dX6_stateTold_65 hf
      · refine z_iconst hX dX6_stateTold_60 ?_
        refine z_goto (tgt := 65) hX dX6_stateTold_61 (by decide) ?_
        obtain rfl := Option.some.inj hr
        exact hQ _ _ dX6_stateTold_65 hf
    · have hr := z_ifn hr n1
      by_cases n2 : wr p1 = 2
      · have hr := z_ifp hr n2
        refine z_tableIn (v := 2) (tgt := 66) hX dX6_stateTold_1 n2 (by decide) (by decide) rfl (by decide) ?_
        refine z_aload_n hX dX6_stateTold_66 0 rfl ?_
        refine z_aload_n hX dX6_stateTold_67 0 rfl ?_
        obtain ⟨r4, hc4, hr⟩ := z_bind hr
        refine z_callV_i (As := []) (k1 := 0) (n1 := 0) (nA := 0) hX (mX6_turn hc4) dX6_stateTold_68 gX6_stateTold_X6_turn rfl ⟨rfl, by decide, by decide, by decide +kernel⟩ ⟨by decide, by decide⟩ ⟨by decide, by decide⟩ 0 rfl rfl rfl rfl (Nat.le_of_ble_eq_true rfl) (by decide +kernel) rfl rfl (fun hg4 => ?_)
        refine z_sipush hX dX6_stateTold_71 (by decide +kernel) ?_
        obtain ⟨r5, hc5, hr⟩ := z_bind hr
        refine z_callV_i (As := [.int (iI r4), .int (iI 4096)]) (k1 := 0) (n1 := 0) (nA := 2) hX (mX6_legalMoves hc5) dX6_stateTold_74 gX6_stateTold_X6_legalMoves rfl ⟨rfl, by decide, by decide, by decide +kernel⟩ ⟨by decide, by decide⟩ ⟨by decide, by decide⟩ 0 rfl rfl rfl rfl (Nat.le_of_ble_eq_true rfl) (by decide +kernel) rfl rfl (fun hg5 => ?_)
        have hf : zfr [36] h0 r5.2 := zfr_tr hf (by decide) hg5
        obtain rfl := Option.some.inj hr
        exact hQ _ _ dX6_stateTold_77 hf
      · have hr := z_ifn hr n2
        by_cases n3 : wr p1 = 3
        · have hr := z_ifp hr n3
          refine z_tableIn (v := 3) (tgt := 78) hX dX6_stateTold_1 n3 (by decide) (by decide) rfl (by decide) ?_
          refine z_aload_n hX dX6_stateTold_78 0 rfl ?_
          refine z_getI hX dX6_stateTold_79 fl_95 0 rfl rfl ?_
          obtain rfl := Option.some.inj hr
          exact hQ _ _ dX6_stateTold_82 hf
        · have hr := z_ifn hr n3
          by_cases n4 : wr p1 = 4
          · have hr := z_ifp hr n4
            refine z_tableIn (v := 4) (tgt := 83) hX dX6_stateTold_1 n4 (by decide) (by decide) rfl (by decide) ?_
            refine z_aload_n hX dX6_stateTold_83 0 rfl ?_
            refine z_getI hX dX6_stateTold_84 fl_28 0 rfl rfl ?_
            obtain rfl := Option.some.inj hr
            exact hQ _ _ dX6_stateTold_87 hf
          · have hr := z_ifn hr n4
            by_cases n5 : wr p1 = 5
            · have hr := z_ifp hr n5
              refine z_tableIn (v := 5) (tgt := 88) hX dX6_stateTold_1 n5 (by decide) (by decide) rfl (by decide) ?_
              refine z_aload_n hX dX6_stateTold_88 0 rfl ?_
              refine z_getI hX dX6_stateTold_89 fl_80 0 rfl rfl ?_
              obtain rfl := Option.some.inj hr
              exact hQ _ _ dX6_stateTold_92 hf
            · have hr := z_ifn hr n5
              refine z_tableOut (tgt := 93) hX dX6_stateTold_1 (by omega) (by decide) ?_
              refine z_aload_n hX dX6_stateTold_93 0 rfl ?_
              refine z_getI hX dX6_stateTold_94 fl_127 0 rfl rfl ?_
              obtain rfl := Option.some.inj hr
              exact hQ _ _ dX6_stateTold_97 hf

def fX6_state (p1 : Int) (h : HS) : Option (Int × HS) := (fX6_isIn p1 0 6 (hs h 30 0 0)).bind fun r1 => if wr r1 = 0 then (fX6_fail 1 (hs h 30 0 0)).bind fun r2 => some (r2.1, r2.2) else (fX6_stateTold p1 (hs h 30 0 0)).bind fun r3 => some (r3.1, r3.2)
set_option maxRecDepth 100000 in
set_option maxHeartbeats 4000000 in
theorem mX6_state {G : ZG} {l0 : Launch} {ad : Nat → Nat} {h0 : HS} {p1 : Int} {o : Int × HS} (hr : fX6_state p1 h0 = some o) : ZMi G l0 yX6_state wsX6_state ({ frames := 7, cells := 0, slots := 0, locals := 169 }) [.ref (ad 30), .int (iI p1)] sh_8 ad h0 [30, 36] o.1 o.2 := by
  refine ZMi.of (cc := cX6_state) (maxL := 2) (ret := (some .int)) (own := RX6) (lv0 := [(0, .ref (ad 30)), (1, .int (iI p1))]) (by decide) rfl rfl rfl (Nat.le_of_ble_eq_true rfl) rfl ?_
  intro X hX hQ
  have hf : zfr [30, 36] h0 h0 := zfr_rf
  have fl_66 : zFld wsX6_state RX6 66 6 RX6 TX6 26 0 := ⟨by decide +kernel, by decide +kernel, by decide, rfl⟩
  have pu_X6_0 : zPut TX6 26 0 tyX6 .int := ⟨tyX6_ok, nmX6, rfl, by decide +kernel⟩
  unfold fX6_state at hr
  refine z_aload_n hX dX6_state_0 0 rfl ?_
  refine z_iconst hX dX6_state_1 ?_
  refine z_putI hX dX6_state_2 fl_66 pu_X6_0 0 rfl rfl ?_
  have hf : zfr [30, 36] h0 (hs h0 30 0 0) := zfr_hs hf (by decide)
  refine z_iload_n hX dX6_state_5 1 rfl ?_
  refine z_iconst hX dX6_state_6 ?_
  refine z_bipush hX dX6_state_7 (by decide +kernel) ?_
  obtain ⟨r1, hc1, hr⟩ := z_bind hr
  refine z_callS_i (As := [.int (iI p1), .int (iI 0), .int (iI 6)]) (k1 := 0) (n1 := 0) (nA := 3) hX (mX6_isIn hc1) dX6_state_9 gX6_state_X6_isIn rfl ⟨by decide, by decide, by decide +kernel⟩ ⟨by decide, by decide⟩ ⟨by decide, by decide⟩ rfl rfl (Nat.le_of_ble_eq_true rfl) (by decide +kernel) rfl rfl (fun hg1 => ?_)
  refine z_if_eq (tgt := 23) hX dX6_state_12 (by decide) rfl hr (fun hr => ?_) (fun hr => ?_)
  · refine z_aload_n hX dX6_state_23 0 rfl ?_
    refine z_iconst hX dX6_state_24 ?_
    obtain ⟨r2, hc2, hr⟩ := z_bind hr
    refine z_callV_i (As := [.int (iI 1)]) (k1 := 0) (n1 := 0) (nA := 1) hX (mX6_fail hc2) dX6_state_25 gX6_state_X6_fail rfl ⟨rfl, by decide, by decide, by decide +kernel⟩ ⟨by decide, by decide⟩ ⟨by decide, by decide⟩ 0 rfl rfl rfl rfl (Nat.le_of_ble_eq_true rfl) (by decide +kernel) rfl rfl (fun hg2 => ?_)
    have hf : zfr [30, 36] h0 r2.2 := zfr_tr hf (by decide) hg2
    obtain rfl := Option.some.inj hr
    exact hQ _ _ dX6_state_28 hf
  · refine z_aload_n hX dX6_state_15 0 rfl ?_
    refine z_iload_n hX dX6_state_16 1 rfl ?_
    obtain ⟨r3, hc3, hr⟩ := z_bind hr
    refine z_callV_i (As := [.int (iI p1)]) (k1 := 0) (n1 := 0) (nA := 1) hX (mX6_stateTold hc3) dX6_state_17 gX6_state_X6_stateTold rfl ⟨rfl, by decide, by decide, by decide +kernel⟩ ⟨by decide, by decide⟩ ⟨by decide, by decide⟩ 0 rfl rfl rfl rfl (Nat.le_of_ble_eq_true rfl) (by decide +kernel) rfl rfl (fun hg3 => ?_)
    have hf : zfr [30, 36] h0 r3.2 := zfr_tr hf (by decide) hg3
    refine z_goto (tgt := 28) hX dX6_state_20 (by decide) ?_
    obtain rfl := Option.some.inj hr
    exact hQ _ _ dX6_state_28 hf

def fX6_why (p1 : Int) (p2 : Int) (h : HS) : Option (Int × HS) := if (0 : Int) ≤ p1 ∧ p1 < 64 then (fX6_sideOf (h 35 p1) h).bind fun r1 => (fX6_turn h).bind fun r2 => if wr r1 = wr r2 then (fX6_reaches p1 p2 h).bind fun r3 => if wr r3 = 0 then some (2, h) else (fX6_isLegal p1 p2 h).bind fun r4 => if wr r4.1 = 0 then some (3, r4.2) else some (0, r4.2) else some (1, h) else none
set_option maxRecDepth 100000 in
set_option maxHeartbeats 4000000 in
theorem mX6_why {G : ZG} {l0 : Launch} {ad : Nat → Nat} {h0 : HS} {p1 : Int} {p2 : Int} {o : Int × HS} (hr : fX6_why p1 p2 h0 = some o) : ZMi G l0 yX6_why wsX6_why ({ frames := 5, cells := 0, slots := 0, locals := 123 }) [.ref (ad 30), .int (iI p1), .int (iI p2)] sh_8 ad h0 [36] o.1 o.2 := by
  refine ZMi.of (cc := cX6_why) (maxL := 3) (ret := (some .int)) (own := RX6) (lv0 := [(0, .ref (ad 30)), (1, .int (iI p1)), (2, .int (iI p2))]) (by decide) rfl rfl rfl (Nat.le_of_ble_eq_true rfl) rfl ?_
  intro X hX hQ
  have hf : zfr [36] h0 h0 := zfr_rf
  have fl_22 : zFld wsX6_why RX6 22 6 RX6 TX6 26 6 := ⟨by decide +kernel, by decide +kernel, by decide, rfl⟩
  unfold fX6_why at hr
  refine z_aload_n hX dX6_why_0 0 rfl ?_
  refine z_getR (j := 35) hX dX6_why_1 fl_22 0 rfl rfl ?_
  refine z_iload_n hX dX6_why_4 1 rfl ?_
  refine z_iaload (b := 64) hX dX6_why_5 5 rfl (by decide) rfl hr (fun hr => ?_)
  obtain ⟨r1, hc1, hr⟩ := z_bind hr
  refine z_callS_i (As := [.int (iI (h0 35 p1))]) (k1 := 0) (n1 := 0) (nA := 1) hX (mX6_sideOf hc1) dX6_why_6 gX6_why_X6_sideOf rfl ⟨by decide, by decide, by decide +kernel⟩ ⟨by decide, by decide⟩ ⟨by decide, by decide⟩ rfl rfl (Nat.le_of_ble_eq_true rfl) (by decide +kernel) rfl rfl (fun hg1 => ?_)
  refine z_aload_n hX dX6_why_9 0 rfl ?_
  obtain ⟨r2, hc2, hr⟩ := z_bind hr
  refine z_callV_i (As := []) (k1 := 0) (n1 := 0) (nA := 0) hX (mX6_turn hc2) dX6_why_10 gX6_why_X6_turn rfl ⟨rfl, by decide, by decide, by decide +kernel⟩ ⟨by decide, by decide⟩ ⟨by decide, by decide⟩ 0 rfl rfl rfl rfl (Nat.le_of_ble_eq_true rfl) (by decide +kernel) rfl rfl (fun hg2 => ?_)
  refine z_icmp_eq (tgt := 18) hX dX6_why_13 (by decide) rfl rfl hr (fun hr => ?_) (fun hr => ?_)
  · refine z_aload_n hX dX6_why_18 0 rfl ?_
    refine z_aload_n hX dX6_why_19 0 rfl ?_
    refine z_getR (j := 35) hX dX6_why_20 fl_22 0 rfl rfl ?_
    refine z_iload_n hX dX6_why_23 1 rfl ?_
    refine z_iload_n hX dX6_why_24 2 rfl ?_
    obtain ⟨r3, hc3, hr⟩ := z_bind hr
    refine z_callV_i (As := [.ref (ad 35), .int (iI p1), .int (iI p2)]) (k1 := 0) (n1 := 0) (nA := 3) hX (mX6_reaches hc3) dX6_why_25 gX6_why_X6_reaches rfl ⟨rfl, by decide, by decide, by decide +kernel⟩ ⟨by decide, by decide⟩ ⟨by decide, by decide⟩ 0 rfl rfl rfl rfl (Nat.le_of_ble_eq_true rfl) (by decide +kernel) rfl rfl (fun hg3 => ?_)
    refine z_if_ne (tgt := 35) hX dX6_why_28 (by decide) rfl hr (fun hr => ?_) (fun hr => ?_)
    · refine z_aload_n hX dX6_why_35 0 rfl ?_
      refine z_iload_n hX dX6_why_36 1 rfl ?_
      refine z_iload_n hX dX6_why_37 2 rfl ?_
      obtain ⟨r4, hc4, hr⟩ := z_bind hr
      refine z_callV_i (As := [.int (iI p1), .int (iI p2)]) (k1 := 0) (n1 := 0) (nA := 2) hX (mX6_isLegal hc4) dX6_why_38 gX6_why_X6_isLegal rfl ⟨rfl, by decide, by decide, by decide +kernel⟩ ⟨by decide, by decide⟩ ⟨by decide, by decide⟩ 0 rfl rfl rfl rfl (Nat.le_of_ble_eq_true rfl) (by decide +kernel) rfl rfl (fun hg4 => ?_)
      have hf : zfr [36] h0 r4.2 := zfr_tr hf (by decide) hg4
      refine z_if_eq (tgt := 48) hX dX6_why_41 (by decide) rfl hr (fun hr => ?_) (fun hr => ?_)
      · refine z_iconst hX dX6_why_48 ?_
        obtain rfl := Option.some.inj hr
        exact hQ _ _ dX6_why_49 hf
      · refine z_iconst hX dX6_why_44 ?_
        refine z_goto (tgt := 49) hX dX6_why_45 (by decide) ?_
        obtain rfl := Option.some.inj hr
        exact hQ _ _ dX6_why_49 hf
    · refine z_iconst hX dX6_why_31 ?_
      refine z_goto (tgt := 49) hX dX6_why_32 (by decide) ?_
      obtain rfl := Option.some.inj hr
      exact hQ _ _ dX6_why_49 hf
  · refine z_iconst hX dX6_why_16 ?_
    obtain rfl := Option.some.inj hr
    exact hQ _ _ dX6_why_17 hf

def fX6_reason_b28 (h : HS) : Option (Int × HS) := (fX6_fail 1 h).bind fun r1 => some (r1.1, r1.2)
def fX6_reason (p1 : Int) (p2 : Int) (h : HS) : Option (Int × HS) := (fX6_isSquare p1 (hs h 30 0 0)).bind fun r2 => if wr r2 = 0 then fX6_reason_b28 (hs h 30 0 0) else (fX6_isSquare p2 (hs h 30 0 0)).bind fun r3 => if wr r3 = 0 then fX6_reason_b28 (hs h 30 0 0) else (fX6_why p1 p2 (hs h 30 0 0)).bind fun r4 => some (r4.1, r4.2)
set_option maxRecDepth 100000 in
set_option maxHeartbeats 4000000 in
theorem mX6_reason {G : ZG} {l0 : Launch} {ad : Nat → Nat} {h0 : HS} {p1 : Int} {p2 : Int} {o : Int × HS} (hr : fX6_reason p1 p2 h0 = some o) : ZMi G l0 yX6_reason wsX6_reason ({ frames := 6, cells := 0, slots := 0, locals := 145 }) [.ref (ad 30), .int (iI p1), .int (iI p2)] sh_8 ad h0 [30, 36] o.1 o.2 := by
  refine ZMi.of (cc := cX6_reason) (maxL := 3) (ret := (some .int)) (own := RX6) (lv0 := [(0, .ref (ad 30)), (1, .int (iI p1)), (2, .int (iI p2))]) (by decide) rfl rfl rfl (Nat.le_of_ble_eq_true rfl) rfl ?_
  intro X hX hQ
  have hf : zfr [30, 36] h0 h0 := zfr_rf
  have fl_66 : zFld wsX6_reason RX6 66 6 RX6 TX6 26 0 := ⟨by decide +kernel, by decide +kernel, by decide, rfl⟩
  have pu_X6_0 : zPut TX6 26 0 tyX6 .int := ⟨tyX6_ok, nmX6, rfl, by decide +kernel⟩
  have B28 : ∀ (h : HS), zfr [30, 36] h0 h → fX6_reason_b28 h = some o → ZW G X sh_8 ad h 0 0 [(0, .ref (ad 30))] 28 [] := by
    intro h hf hr
    unfold fX6_reason_b28 at hr
    refine z_aload_n hX dX6_reason_28 0 rfl ?_
    refine z_iconst hX dX6_reason_29 ?_
    obtain ⟨r1, hc1, hr⟩ := z_bind hr
    refine z_callV_i (As := [.int (iI 1)]) (k1 := 0) (n1 := 0) (nA := 1) hX (mX6_fail hc1) dX6_reason_30 gX6_reason_X6_fail rfl ⟨rfl, by decide, by decide, by decide +kernel⟩ ⟨by decide, by decide⟩ ⟨by decide, by decide⟩ 0 rfl rfl rfl rfl (Nat.le_of_ble_eq_true rfl) (by decide +kernel) rfl rfl (fun hg1 => ?_)
    have hf : zfr [30, 36] h0 r1.2 := zfr_tr hf (by decide) hg1
    obtain rfl := Option.some.inj hr
    exact hQ _ _ dX6_reason_33 hf
  unfold fX6_reason at hr
  refine z_aload_n hX dX6_reason_0 0 rfl ?_
  refine z_iconst hX dX6_reason_1 ?_
  refine z_putI hX dX6_reason_2 fl_66 pu_X6_0 0 rfl rfl ?_
  have hf : zfr [30, 36] h0 (hs h0 30 0 0) := zfr_hs hf (by decide)
  refine z_iload_n hX dX6_reason_5 1 rfl ?_
  obtain ⟨r2, hc2, hr⟩ := z_bind hr
  refine z_callS_i (As := [.int (iI p1)]) (k1 := 0) (n1 := 0) (nA := 1) hX (mX6_isSquare hc2) dX6_reason_6 gX6_reason_X6_isSquare rfl ⟨by decide, by decide, by decide +kernel⟩ ⟨by decide, by decide⟩ ⟨by decide, by decide⟩ rfl rfl (Nat.le_of_ble_eq_true rfl) (by decide +kernel) rfl rfl (fun hg2 => ?_)
  refine z_if_eq (tgt := 28) hX dX6_reason_9 (by decide) rfl hr (fun hr => ?_) (fun hr => ?_)
  · refine z_lv [0] rfl ?_
    exact B28 (hs h0 30 0 0) hf hr
  · refine z_iload_n hX dX6_reason_12 2 rfl ?_
    obtain ⟨r3, hc3, hr⟩ := z_bind hr
    refine z_callS_i (As := [.int (iI p2)]) (k1 := 0) (n1 := 0) (nA := 1) hX (mX6_isSquare hc3) dX6_reason_13 gX6_reason_X6_isSquare rfl ⟨by decide, by decide, by decide +kernel⟩ ⟨by decide, by decide⟩ ⟨by decide, by decide⟩ rfl rfl (Nat.le_of_ble_eq_true rfl) (by decide +kernel) rfl rfl (fun hg3 => ?_)
    refine z_if_eq (tgt := 28) hX dX6_reason_16 (by decide) rfl hr (fun hr => ?_) (fun hr => ?_)
    · refine z_lv [0] rfl ?_
      exact B28 (hs h0 30 0 0) hf hr
    · refine z_aload_n hX dX6_reason_19 0 rfl ?_
      refine z_iload_n hX dX6_reason_20 1 rfl ?_
      refine z_iload_n hX dX6_reason_21 2 rfl ?_
      obtain ⟨r4, hc4, hr⟩ := z_bind hr
      refine z_callV_i (As := [.int (iI p1), .int (iI p2)]) (k1 := 0) (n1 := 0) (nA := 2) hX (mX6_why hc4) dX6_reason_22 gX6_reason_X6_why rfl ⟨rfl, by decide, by decide, by decide +kernel⟩ ⟨by decide, by decide⟩ ⟨by decide, by decide⟩ 0 rfl rfl rfl rfl (Nat.le_of_ble_eq_true rfl) (by decide +kernel) rfl rfl (fun hg4 => ?_)
      have hf : zfr [30, 36] h0 r4.2 := zfr_tr hf (by decide) hg4
      refine z_goto (tgt := 33) hX dX6_reason_25 (by decide) ?_
      obtain rfl := Option.some.inj hr
      exact hQ _ _ dX6_reason_33 hf

def fX6_continuation0 (p1 : Int) (p2 : Int) (h : HS) : Option (Int) := if (0 : Int) ≤ ((200 * p1) + p2) ∧ ((200 * p1) + p2) < 40000 then some (h 38 ((200 * p1) + p2)) else none
set_option maxRecDepth 100000 in
set_option maxHeartbeats 4000000 in
theorem mX6_continuation0 {G : ZG} {l0 : Launch} {ad : Nat → Nat} {h0 : HS} {p1 : Int} {p2 : Int} {o : Int} (hr : fX6_continuation0 p1 p2 h0 = some o) : ZMi G l0 yX6_continuation0 wsX6_continuation0 ({ frames := 0, cells := 0, slots := 0, locals := 0 }) [.ref (ad 30), .int (iI p1), .int (iI p2)] sh_8 ad h0 [] o h0 := by
  refine ZMi.of (cc := cX6_continuation0) (maxL := 3) (ret := (some .int)) (own := RX6) (lv0 := [(0, .ref (ad 30)), (1, .int (iI p1)), (2, .int (iI p2))]) (by decide) rfl rfl rfl (Nat.le_of_ble_eq_true rfl) rfl ?_
  intro X hX hQ
  have hf : zfr [] h0 h0 := zfr_rf
  have fl_36 : zFld wsX6_continuation0 RX6 36 6 RX6 TX6 26 11 := ⟨by decide +kernel, by decide +kernel, by decide, rfl⟩
  unfold fX6_continuation0 at hr
  refine z_aload_n hX dX6_continuation0_0 0 rfl ?_
  refine z_getR (j := 38) hX dX6_continuation0_1 fl_36 0 rfl rfl ?_
  refine z_sipush hX dX6_continuation0_4 (by decide +kernel) ?_
  refine z_iload_n hX dX6_continuation0_7 1 rfl ?_
  refine z_imul hX dX6_continuation0_8 ?_
  refine z_iload_n hX dX6_continuation0_9 2 rfl ?_
  refine z_iadd hX dX6_continuation0_10 ?_
  refine z_iaload (b := 40000) hX dX6_continuation0_11 8 rfl (by decide) rfl hr (fun hr => ?_)
  obtain rfl := Option.some.inj hr
  exact hQ _ _ dX6_continuation0_12 hf

def fX6_known_b51 (k2 : Int → Int → Int → HS → Option (Int)) (x1 : Int) (x2 : Int) (x3 : Int) (h : HS) : Option (Int) := k2 x1 x2 (x3 + 1) h
def fX6_known_L2 : Nat → Int → Int → Int → HS → Option (Int)
  | 0, _, _, _, _ => none
  | nf + 1, x1, x2, x3, h => (fX6_get (h 30 9) 4 h).bind fun r1 => if wr r1 ≤ wr x3 then some (-1) else (fX6_continuation0 (h 30 9) x3 h).bind fun r2 => (fX6_get r2 1 h).bind fun r3 => if wr r3 = wr x1 then (fX6_get r2 2 h).bind fun r4 => if wr r4 = wr x2 then some r2 else fX6_known_b51 (fun a0 a1 a2 hh => fX6_known_L2 nf a0 a1 a2 hh) x1 x2 x3 h else fX6_known_b51 (fun a0 a1 a2 hh => fX6_known_L2 nf a0 a1 a2 hh) x1 x2 x3 h
def fX6_known (p1 : Int) (p2 : Int) (h : HS) : Option (Int) := fX6_known_L2 zF p1 p2 0 h
set_option maxRecDepth 100000 in
set_option maxHeartbeats 4000000 in
theorem mX6_known {G : ZG} {l0 : Launch} {ad : Nat → Nat} {h0 : HS} {p1 : Int} {p2 : Int} {o : Int} (hr : fX6_known p1 p2 h0 = some o) : ZMi G l0 yX6_known wsX6_known ({ frames := 1, cells := 0, slots := 0, locals := 22 }) [.ref (ad 30), .int (iI p1), .int (iI p2)] sh_8 ad h0 [] o h0 := by
  refine ZMi.of (cc := cX6_known) (maxL := 5) (ret := (some .int)) (own := RX6) (lv0 := [(0, .ref (ad 30)), (1, .int (iI p1)), (2, .int (iI p2))]) (by decide) rfl rfl rfl (Nat.le_of_ble_eq_true rfl) rfl ?_
  intro X hX hQ
  have hf : zfr [] h0 h0 := zfr_rf
  have fl_95 : zFld wsX6_known RX6 95 6 RX6 TX6 26 9 := ⟨by decide +kernel, by decide +kernel, by decide, rfl⟩
  have B2 : ∀ (nf : Nat) (x1 : Int) (x2 : Int) (x3 : Int), fX6_known_L2 nf x1 x2 x3 h0 = some o → ZW G X sh_8 ad h0 0 0 [(0, .ref (ad 30)), (1, .int (iI x1)), (2, .int (iI x2)), (3, .int (iI x3))] 2 [] := by
    intro nf
    induction nf with
    | zero => intro x1 x2 x3 hr; exact z_none hr
    | succ n2 ih2 =>
      intro x1 x2 x3 hr
      have B51 : ∀ (x1 : Int) (x2 : Int) (x3 : Int), fX6_known_b51 (fun a0 a1 a2 hh => fX6_known_L2 n2 a0 a1 a2 hh) x1 x2 x3 h0 = some o → ZW G X sh_8 ad h0 0 0 [(0, .ref (ad 30)), (1, .int (iI x1)), (2, .int (iI x2)), (3, .int (iI x3))] 51 [] := by
        intro x1 x2 x3 hr
        unfold fX6_known_b51 at hr
        refine z_iinc (lv1 := [(3, .int (iI (x3 + 1))), (0, .ref (ad 30)), (1, .int (iI x1)), (2, .int (iI x2))]) hX dX6_known_51 3 rfl (by decide) rfl ?_
        refine z_goto (tgt := 2) hX dX6_known_54 (by decide) ?_
        refine z_lv [1, 2, 3, 0] rfl ?_
        exact ih2 x1 x2 (x3 + 1) hr
      unfold fX6_known_L2 at hr
      refine z_iload_n hX dX6_known_2 3 rfl ?_
      refine z_aload_n hX dX6_known_3 0 rfl ?_
      refine z_aload_n hX dX6_known_4 0 rfl ?_
      refine z_getI hX dX6_known_5 fl_95 0 rfl rfl ?_
      refine z_iconst hX dX6_known_8 ?_
      obtain ⟨r1, hc1, hr⟩ := z_bind hr
      refine z_callV_i (As := [.int (iI (h0 30 9)), .int (iI 4)]) (k1 := 0) (n1 := 0) (nA := 2) hX (mX6_get hc1) dX6_known_9 gX6_known_X6_get rfl ⟨rfl, by decide, by decide, by decide +kernel⟩ ⟨by decide, by decide⟩ ⟨by decide, by decide⟩ 0 rfl rfl rfl rfl (Nat.le_of_ble_eq_true rfl) (by decide +kernel) rfl rfl (fun hg1 => ?_)
      refine z_icmp_ge (tgt := 57) hX dX6_known_12 (by decide) rfl rfl hr (fun hr => ?_) (fun hr => ?_)
      · refine z_iconst hX dX6_known_57 ?_
        obtain rfl := Option.some.inj hr
        exact hQ _ _ dX6_known_58 hf
      · refine z_aload_n hX dX6_known_15 0 rfl ?_
        refine z_aload_n hX dX6_known_16 0 rfl ?_
        refine z_getI hX dX6_known_17 fl_95 0 rfl rfl ?_
        refine z_iload_n hX dX6_known_20 3 rfl ?_
        obtain ⟨r2, hc2, hr⟩ := z_bind hr
        refine z_callV_i (As := [.int (iI (h0 30 9)), .int (iI x3)]) (k1 := 0) (n1 := 0) (nA := 2) hX (mX6_continuation0 hc2) dX6_known_21 gX6_known_X6_continuation0 rfl ⟨rfl, by decide, by decide, by decide +kernel⟩ ⟨by decide, by decide⟩ ⟨by decide, by decide⟩ 0 rfl rfl rfl rfl (Nat.le_of_ble_eq_true rfl) (by decide +kernel) rfl rfl (fun hg2 => ?_)
        refine z_istore (lv1 := [(4, .int (iI r2)), (0, .ref (ad 30)), (1, .int (iI x1)), (2, .int (iI x2)), (3, .int (iI x3))]) hX dX6_known_24 (by decide) rfl ?_
        refine z_aload_n hX dX6_known_26 1 rfl ?_
        refine z_iload hX dX6_known_27 0 rfl ?_
        refine z_iconst hX dX6_known_29 ?_
        obtain ⟨r3, hc3, hr⟩ := z_bind hr
        refine z_callV_i (As := [.int (iI r2), .int (iI 1)]) (k1 := 0) (n1 := 0) (nA := 2) hX (mX6_get hc3) dX6_known_30 gX6_known_X6_get rfl ⟨rfl, by decide, by decide, by decide +kernel⟩ ⟨by decide, by decide⟩ ⟨by decide, by decide⟩ 0 rfl rfl rfl rfl (Nat.le_of_ble_eq_true rfl) (by decide +kernel) rfl rfl (fun hg3 => ?_)
        refine z_iload_n hX dX6_known_33 2 rfl ?_
        refine z_icmp_ne (tgt := 51) hX dX6_known_34 (by decide) rfl rfl hr (fun hr => ?_) (fun hr => ?_)
        · refine z_lv [1, 2, 3, 4] rfl ?_
          exact B51 x1 x2 x3 hr
        · refine z_aload_n hX dX6_known_37 1 rfl ?_
          refine z_iload hX dX6_known_38 0 rfl ?_
          refine z_iconst hX dX6_known_40 ?_
          obtain ⟨r4, hc4, hr⟩ := z_bind hr
          refine z_callV_i (As := [.int (iI r2), .int (iI 2)]) (k1 := 0) (n1 := 0) (nA := 2) hX (mX6_get hc4) dX6_known_41 gX6_known_X6_get rfl ⟨rfl, by decide, by decide, by decide +kernel⟩ ⟨by decide, by decide⟩ ⟨by decide, by decide⟩ 0 rfl rfl rfl rfl (Nat.le_of_ble_eq_true rfl) (by decide +kernel) rfl rfl (fun hg4 => ?_)
          refine z_iload_n hX dX6_known_44 3 rfl ?_
          refine z_icmp_ne (tgt := 51) hX dX6_known_45 (by decide) rfl rfl hr (fun hr => ?_) (fun hr => ?_)
          · refine z_lv [1, 2, 3, 4] rfl ?_
            exact B51 x1 x2 x3 hr
          · refine z_iload hX dX6_known_48 0 rfl ?_
            obtain rfl := Option.some.inj hr
            exact hQ _ _ dX6_known_50 hf
  unfold fX6_known at hr
  refine z_iconst hX dX6_known_0 ?_
  refine z_istore_n (lv1 := [(3, .int (iI 0)), (0, .ref (ad 30)), (1, .int (iI p1)), (2, .int (iI p2))]) hX dX6_known_1 (by decide) rfl ?_
  refine z_lv [1, 2, 3, 0] rfl ?_
  exact B2 zF p1 p2 0 hr

def fX6_playOn_b120 (x1 : Int) (x2 : Int) (x3 : Int) (h : HS) : Option (HS) := (fX6_play x1 x2 (hs h 30 9 x3)).bind fun r1 => some r1
def fX6_playOn (p1 : Int) (p2 : Int) (h : HS) : Option (HS) := (fX6_known p1 p2 h).bind fun r2 => if wr r2 = ((-1) : Int) then if (0 : Int) ≤ 0 ∧ 0 < 5 then if (0 : Int) ≤ 1 ∧ 1 < 5 then if (0 : Int) ≤ 2 ∧ 2 < 5 then (fX6_get (((hs (hs (hs (hz (hs h 30 8 ((h 30 8) + 1)) 90) 90 0 (((hz (hs h 30 8 ((h 30 8) + 1)) 90)) 30 9)) 90 1 p1) 90 2 p2)) 30 9) 3 (hs (hs (hs (hz (hs h 30 8 ((h 30 8) + 1)) 90) 90 0 (((hz (hs h 30 8 ((h 30 8) + 1)) 90)) 30 9)) 90 1 p1) 90 2 p2)).bind fun r3 => if (0 : Int) ≤ 3 ∧ 3 < 5 then if (0 : Int) ≤ 4 ∧ 4 < 5 then if (0 : Int) ≤ 0 ∧ (0 : Int) ≤ (5 * (h 30 8)) ∧ (0 : Int) ≤ 5 ∧ (0 : Int) + 5 ≤ 5 ∧ ((5 * (h 30 8)) : Int) + 5 ≤ 1000 then (fX6_get (((hcp (hs (hs (hs (hs (hs (hz (hs h 30 8 ((h 30 8) + 1)) 90) 90 0 (((hz (hs h 30 8 ((h 30 8) + 1)) 90)) 30 9)) 90 1 p1) 90 2 p2) 90 3 (r3 + 1)) 90 4 0) 90 0 37 (5 * (h 30 8)) 5)) 30 9) 4 (hcp (hs (hs (hs (hs (hs (hz (hs h 30 8 ((h 30 8) + 1)) 90) 90 0 (((hz (hs h 30 8 ((h 30 8) + 1)) 90)) 30 9)) 90 1 p1) 90 2 p2) 90 3 (r3 + 1)) 90 4 0) 90 0 37 (5 * (h 30 8)) 5)).bind fun r4 => if (0 : Int) ≤ ((200 * (((hcp (hs (hs (hs (hs (hs (hz (hs h 30 8 ((h 30 8) + 1)) 90) 90 0 (((hz (hs h 30 8 ((h 30 8) + 1)) 90)) 30 9)) 90 1 p1) 90 2 p2) 90 3 (r3 + 1)) 90 4 0) 90 0 37 (5 * (h 30 8)) 5)) 30 9)) + r4) ∧ ((200 * (((hcp (hs (hs (hs (hs (hs (hz (hs h 30 8 ((h 30 8) + 1)) 90) 90 0 (((hz (hs h 30 8 ((h 30 8) + 1)) 90)) 30 9)) 90 1 p1) 90 2 p2) 90 3 (r3 + 1)) 90 4 0) 90 0 37 (5 * (h 30 8)) 5)) 30 9)) + r4) < 40000 then if (0 : Int) ≤ ((5 * (((hs (hcp (hs (hs (hs (hs (hs (hz (hs h 30 8 ((h 30 8) + 1)) 90) 90 0 (((hz (hs h 30 8 ((h 30 8) + 1)) 90)) 30 9)) 90 1 p1) 90 2 p2) 90 3 (r3 + 1)) 90 4 0) 90 0 37 (5 * (h 30 8)) 5) 38 ((200 * (((hcp (hs (hs (hs (hs (hs (hz (hs h 30 8 ((h 30 8) + 1)) 90) 90 0 (((hz (hs h 30 8 ((h 30 8) + 1)) 90)) 30 9)) 90 1 p1) 90 2 p2) 90 3 (r3 + 1)) 90 4 0) 90 0 37 (5 * (h 30 8)) 5)) 30 9)) + r4) (h 30 8))) 30 9)) + 4) ∧ ((5 * (((hs (hcp (hs (hs (hs (hs (hs (hz (hs h 30 8 ((h 30 8) + 1)) 90) 90 0 (((hz (hs h 30 8 ((h 30 8) + 1)) 90)) 30 9)) 90 1 p1) 90 2 p2) 90 3 (r3 + 1)) 90 4 0) 90 0 37 (5 * (h 30 8)) 5) 38 ((200 * (((hcp (hs (hs (hs (hs (hs (hz (hs h 30 8 ((h 30 8) + 1)) 90) 90 0 (((hz (hs h 30 8 ((h 30 8) + 1)) 90)) 30 9)) 90 1 p1) 90 2 p2) 90 3 (r3 + 1)) 90 4 0) 90 0 37 (5 * (h 30 8)) 5)) 30 9)) + r4) (h 30 8))) 30 9)) + 4) < 1000 then if (0 : Int) ≤ ((5 * (((hs (hcp (hs (hs (hs (hs (hs (hz (hs h 30 8 ((h 30 8) + 1)) 90) 90 0 (((hz (hs h 30 8 ((h 30 8) + 1)) 90)) 30 9)) 90 1 p1) 90 2 p2) 90 3 (r3 + 1)) 90 4 0) 90 0 37 (5 * (h 30 8)) 5) 38 ((200 * (((hcp (hs (hs (hs (hs (hs (hz (hs h 30 8 ((h 30 8) + 1)) 90) 90 0 (((hz (hs h 30 8 ((h 30 8) + 1)) 90)) 30 9)) 90 1 p1) 90 2 p2) 90 3 (r3 + 1)) 90 4 0) 90 0 37 (5 * (h 30 8)) 5)) 30 9)) + r4) (h 30 8))) 30 9)) + 4) ∧ ((5 * (((hs (hcp (hs (hs (hs (hs (hs (hz (hs h 30 8 ((h 30 8) + 1)) 90) 90 0 (((hz (hs h 30 8 ((h 30 8) + 1)) 90)) 30 9)) 90 1 p1) 90 2 p2) 90 3 (r3 + 1)) 90 4 0) 90 0 37 (5 * (h 30 8)) 5) 38 ((200 * (((hcp (hs (hs (hs (hs (hs (hz (hs h 30 8 ((h 30 8) + 1)) 90) 90 0 (((hz (hs h 30 8 ((h 30 8) + 1)) 90)) 30 9)) 90 1 p1) 90 2 p2) 90 3 (r3 + 1)) 90 4 0) 90 0 37 (5 * (h 30 8)) 5)) 30 9)) + r4) (h 30 8))) 30 9)) + 4) < 1000 then fX6_playOn_b120 p1 p2 (h 30 8) (hz (hs (hs (hcp (hs (hs (hs (hs (hs (hz (hs h 30 8 ((h 30 8) + 1)) 90) 90 0 (((hz (hs h 30 8 ((h 30 8) + 1)) 90)) 30 9)) 90 1 p1) 90 2 p2) 90 3 (r3 + 1)) 90 4 0) 90 0 37 (5 * (h 30 8)) 5) 38 ((200 * (((hcp (hs (hs (hs (hs (hs (hz (hs h 30 8 ((h 30 8) + 1)) 90) 90 0 (((hz (hs h 30 8 ((h 30 8) + 1)) 90)) 30 9)) 90 1 p1) 90 2 p2) 90 3 (r3 + 1)) 90 4 0) 90 0 37 (5 * (h 30 8)) 5)) 30 9)) + r4) (h 30 8)) 37 ((5 * (((hs (hcp (hs (hs (hs (hs (hs (hz (hs h 30 8 ((h 30 8) + 1)) 90) 90 0 (((hz (hs h 30 8 ((h 30 8) + 1)) 90)) 30 9)) 90 1 p1) 90 2 p2) 90 3 (r3 + 1)) 90 4 0) 90 0 37 (5 * (h 30 8)) 5) 38 ((200 * (((hcp (hs (hs (hs (hs (hs (hz (hs h 30 8 ((h 30 8) + 1)) 90) 90 0 (((hz (hs h 30 8 ((h 30 8) + 1)) 90)) 30 9)) 90 1 p1) 90 2 p2) 90 3 (r3 + 1)) 90 4 0) 90 0 37 (5 * (h 30 8)) 5)) 30 9)) + r4) (h 30 8))) 30 9)) + 4) ((((hs (hcp (hs (hs (hs (hs (hs (hz (hs h 30 8 ((h 30 8) + 1)) 90) 90 0 (((hz (hs h 30 8 ((h 30 8) + 1)) 90)) 30 9)) 90 1 p1) 90 2 p2) 90 3 (r3 + 1)) 90 4 0) 90 0 37 (5 * (h 30 8)) 5) 38 ((200 * (((hcp (hs (hs (hs (hs (hs (hz (hs h 30 8 ((h 30 8) + 1)) 90) 90 0 (((hz (hs h 30 8 ((h 30 8) + 1)) 90)) 30 9)) 90 1 p1) 90 2 p2) 90 3 (r3 + 1)) 90 4 0) 90 0 37 (5 * (h 30 8)) 5)) 30 9)) + r4) (h 30 8))) 37 ((5 * (((hs (hcp (hs (hs (hs (hs (hs (hz (hs h 30 8 ((h 30 8) + 1)) 90) 90 0 (((hz (hs h 30 8 ((h 30 8) + 1)) 90)) 30 9)) 90 1 p1) 90 2 p2) 90 3 (r3 + 1)) 90 4 0) 90 0 37 (5 * (h 30 8)) 5) 38 ((200 * (((hcp (hs (hs (hs (hs (hs (hz (hs h 30 8 ((h 30 8) + 1)) 90) 90 0 (((hz (hs h 30 8 ((h 30 8) + 1)) 90)) 30 9)) 90 1 p1) 90 2 p2) 90 3 (r3 + 1)) 90 4 0) 90 0 37 (5 * (h 30 8)) 5)) 30 9)) + r4) (h 30 8))) 30 9)) + 4)) + 1)) 90) else none else none else none else none else none else none else none else none else none else fX6_playOn_b120 p1 p2 r2 h
set_option maxRecDepth 100000 in
set_option maxHeartbeats 4000000 in
theorem mX6_playOn {G : ZG} {l0 : Launch} {ad : Nat → Nat} {h0 : HS} {p1 : Int} {p2 : Int} {o : HS} (hr : fX6_playOn p1 p2 h0 = some o) : ZMv G l0 yX6_playOn wsX6_playOn ({ frames := 2, cells := 1, slots := 5, locals := 46 }) [.ref (ad 30), .int (iI p1), .int (iI p2)] sh_8 ad h0 [30, 35, 37, 38, 90] o := by
  refine ZMv.of (cc := cX6_playOn) (maxL := 5) (ret := none) (own := RX6) (lv0 := [(0, .ref (ad 30)), (1, .int (iI p1)), (2, .int (iI p2))]) (by decide) rfl rfl rfl (Nat.le_of_ble_eq_true rfl) rfl ?_
  intro X hX hQ
  have hf : zfr [30, 35, 37, 38, 90] h0 h0 := zfr_rf
  have fl_22 : zFld wsX6_playOn RX6 22 6 RX6 TX6 26 6 := ⟨by decide +kernel, by decide +kernel, by decide, rfl⟩
  have fl_28 : zFld wsX6_playOn RX6 28 6 RX6 TX6 26 8 := ⟨by decide +kernel, by decide +kernel, by decide, rfl⟩
  have fl_32 : zFld wsX6_playOn RX6 32 6 RX6 TX6 26 10 := ⟨by decide +kernel, by decide +kernel, by decide, rfl⟩
  have fl_36 : zFld wsX6_playOn RX6 36 6 RX6 TX6 26 11 := ⟨by decide +kernel, by decide +kernel, by decide, rfl⟩
  have fl_95 : zFld wsX6_playOn RX6 95 6 RX6 TX6 26 9 := ⟨by decide +kernel, by decide +kernel, by decide, rfl⟩
  have pu_X6_8 : zPut TX6 26 8 tyX6 .int := ⟨tyX6_ok, nmX6, rfl, by decide +kernel⟩
  have pu_X6_9 : zPut TX6 26 9 tyX6 .int := ⟨tyX6_ok, nmX6, rfl, by decide +kernel⟩
  have B120 : ∀ (x1 : Int) (x2 : Int) (x3 : Int) (h : HS), zfr [30, 35, 37, 38, 90] h0 h → fX6_playOn_b120 x1 x2 x3 h = some o → ZW G X sh_8 ad h 1 5 [(0, .ref (ad 30)), (1, .int (iI x1)), (2, .int (iI x2)), (3, .int (iI x3))] 120 [] := by
    intro x1 x2 x3 h hf hr
    unfold fX6_playOn_b120 at hr
    refine z_aload_n hX dX6_playOn_120 0 rfl ?_
    refine z_iload_n hX dX6_playOn_121 3 rfl ?_
    refine z_putI hX dX6_playOn_122 fl_95 pu_X6_9 0 rfl rfl ?_
    have hf : zfr [30, 35, 37, 38, 90] h0 (hs h 30 9 x3) := zfr_hs hf (by decide)
    refine z_aload_n hX dX6_playOn_125 0 rfl ?_
    refine z_getR (j := 35) hX dX6_playOn_126 fl_22 0 rfl rfl ?_
    refine z_iload_n hX dX6_playOn_129 1 rfl ?_
    refine z_iload_n hX dX6_playOn_130 2 rfl ?_
    obtain ⟨r1, hc1, hr⟩ := z_bind hr
    refine z_callS_v (As := [.ref (ad 35), .int (iI x1), .int (iI x2)]) (k1 := 1) (n1 := 5) (nA := 3) hX (mX6_play hc1) dX6_playOn_131 gX6_playOn_X6_play rfl ⟨by decide, by decide, by decide +kernel⟩ ⟨by decide, by decide⟩ ⟨by decide, by decide⟩ rfl rfl (Nat.le_of_ble_eq_true rfl) (by decide +kernel) rfl rfl (fun hg1 => ?_)
    have hf : zfr [30, 35, 37, 38, 90] h0 r1 := zfr_tr hf (by decide) hg1
    obtain rfl := Option.some.inj hr
    exact hQ _ _ dX6_playOn_134 hf
  unfold fX6_playOn at hr
  refine z_aload_n hX dX6_playOn_0 0 rfl ?_
  refine z_iload_n hX dX6_playOn_1 1 rfl ?_
  refine z_iload_n hX dX6_playOn_2 2 rfl ?_
  obtain ⟨r2, hc2, hr⟩ := z_bind hr
  refine z_callV_i (As := [.int (iI p1), .int (iI p2)]) (k1 := 0) (n1 := 0) (nA := 2) hX (mX6_known hc2) dX6_playOn_3 gX6_playOn_X6_known rfl ⟨rfl, by decide, by decide, by decide +kernel⟩ ⟨by decide, by decide⟩ ⟨by decide, by decide⟩ 0 rfl rfl rfl rfl (Nat.le_of_ble_eq_true rfl) (by decide +kernel) rfl rfl (fun hg2 => ?_)
  refine z_istore_n (lv1 := [(3, .int (iI r2)), (0, .ref (ad 30)), (1, .int (iI p1)), (2, .int (iI p2))]) hX dX6_playOn_6 (by decide) rfl ?_
  refine z_iload_n hX dX6_playOn_7 0 rfl ?_
  refine z_iconst hX dX6_playOn_8 ?_
  refine z_icmp_ne (tgt := 120) hX dX6_playOn_9 (by decide) rfl (wr_of (by decide) (by decide)) hr (fun hr => ?_) (fun hr => ?_)
  · refine z_widen (k1 := 1) (n1 := 5) (by decide) (by decide) ?_
    refine z_lv [1, 2, 3, 0] rfl ?_
    exact B120 p1 p2 r2 h0 hf hr
  · refine z_aload_n hX dX6_playOn_12 1 rfl ?_
    refine z_getI hX dX6_playOn_13 fl_28 0 rfl rfl ?_
    refine z_istore_n (lv1 := [(3, .int (iI (h0 30 8))), (0, .ref (ad 30)), (1, .int (iI p1)), (2, .int (iI p2))]) hX dX6_playOn_16 (by decide) rfl ?_
    refine z_aload_n hX dX6_playOn_17 1 rfl ?_
    refine z_dup hX dX6_playOn_18 rfl ?_
    refine z_getI hX dX6_playOn_19 fl_28 0 rfl rfl ?_
    refine z_iconst hX dX6_playOn_22 ?_
    refine z_iadd hX dX6_playOn_23 ?_
    refine z_putI hX dX6_playOn_24 fl_28 pu_X6_8 0 rfl rfl ?_
    have hf : zfr [30, 35, 37, 38, 90] h0 (hs h0 30 8 ((h0 30 8) + 1)) := zfr_hs hf (by decide)
    refine z_iconst hX dX6_playOn_27 ?_
    refine z_newa (i := 90) (N := 5) (lvF := (fun ad => [(3, .int (iI (h0 30 8))), (0, .ref (ad 30)), (1, .int (iI p1)), (2, .int (iI p2))])) (stF := (fun ad => [])) (k1 := 1) (n1 := 5) hX dX6_playOn_28 (by decide +kernel) rfl (by decide) (by decide +kernel) ⟨by decide, by decide⟩ rfl rfl rfl rfl (fun ad2 he => by constructor <;> simp only [he 30 (by decide)]) (fun ad2 he => ?_)
    have hf : zfr [30, 35, 37, 38, 90] h0 (hz (hs h0 30 8 ((h0 30 8) + 1)) 90) := zfr_hz hf (by decide)
    refine z_dup hX dX6_playOn_30 rfl ?_
    refine z_iconst hX dX6_playOn_31 ?_
    refine z_aload_n hX dX6_playOn_32 1 rfl ?_
    refine z_getI hX dX6_playOn_33 fl_95 0 rfl rfl ?_
    refine z_iastore (b := 5) hX dX6_playOn_36 13 rfl (by decide) rfl hr (fun hr => ?_)
    have hf : zfr [30, 35, 37, 38, 90] h0 (hs (hz (hs h0 30 8 ((h0 30 8) + 1)) 90) 90 0 (((hz (hs h0 30 8 ((h0 30 8) + 1)) 90)) 30 9)) := zfr_hs hf (by decide)
    refine z_dup hX dX6_playOn_37 rfl ?_
    refine z_iconst hX dX6_playOn_38 ?_
    refine z_iload_n hX dX6_playOn_39 2 rfl ?_
    refine z_iastore (b := 5) hX dX6_playOn_40 13 rfl (by decide) rfl hr (fun hr => ?_)
    have hf : zfr [30, 35, 37, 38, 90] h0 (hs (hs (hz (hs h0 30 8 ((h0 30 8) + 1)) 90) 90 0 (((hz (hs h0 30 8 ((h0 30 8) + 1)) 90)) 30 9)) 90 1 p1) := zfr_hs hf (by decide)
    refine z_dup hX dX6_playOn_41 rfl ?_
    refine z_iconst hX dX6_playOn_42 ?_
    refine z_iload_n hX dX6_playOn_43 3 rfl ?_
    refine z_iastore (b := 5) hX dX6_playOn_44 13 rfl (by decide) rfl hr (fun hr => ?_)
    have hf : zfr [30, 35, 37, 38, 90] h0 (hs (hs (hs (hz (hs h0 30 8 ((h0 30 8) + 1)) 90) 90 0 (((hz (hs h0 30 8 ((h0 30 8) + 1)) 90)) 30 9)) 90 1 p1) 90 2 p2) := zfr_hs hf (by decide)
    refine z_dup hX dX6_playOn_45 rfl ?_
    refine z_iconst hX dX6_playOn_46 ?_
    refine z_aload_n hX dX6_playOn_47 1 rfl ?_
    refine z_aload_n hX dX6_playOn_48 1 rfl ?_
    refine z_getI hX dX6_playOn_49 fl_95 0 rfl rfl ?_
    refine z_iconst hX dX6_playOn_52 ?_
    obtain ⟨r3, hc3, hr⟩ := z_bind hr
    refine z_callV_i (As := [.int (iI (((hs (hs (hs (hz (hs h0 30 8 ((h0 30 8) + 1)) 90) 90 0 (((hz (hs h0 30 8 ((h0 30 8) + 1)) 90)) 30 9)) 90 1 p1) 90 2 p2)) 30 9)), .int (iI 3)]) (k1 := 1) (n1 := 5) (nA := 2) hX (mX6_get hc3) dX6_playOn_53 gX6_playOn_X6_get rfl ⟨rfl, by decide, by decide, by decide +kernel⟩ ⟨by decide, by decide⟩ ⟨by decide, by decide⟩ 0 rfl rfl rfl rfl (Nat.le_of_ble_eq_true rfl) (by decide +kernel) rfl rfl (fun hg3 => ?_)
    refine z_iconst hX dX6_playOn_56 ?_
    refine z_iadd hX dX6_playOn_57 ?_
    refine z_iastore (b := 5) hX dX6_playOn_58 13 rfl (by decide) rfl hr (fun hr => ?_)
    have hf : zfr [30, 35, 37, 38, 90] h0 (hs (hs (hs (hs (hz (hs h0 30 8 ((h0 30 8) + 1)) 90) 90 0 (((hz (hs h0 30 8 ((h0 30 8) + 1)) 90)) 30 9)) 90 1 p1) 90 2 p2) 90 3 (r3 + 1)) := zfr_hs hf (by decide)
    refine z_dup hX dX6_playOn_59 rfl ?_
    refine z_iconst hX dX6_playOn_60 ?_
    refine z_iconst hX dX6_playOn_61 ?_
    refine z_iastore (b := 5) hX dX6_playOn_62 13 rfl (by decide) rfl hr (fun hr => ?_)
    have hf : zfr [30, 35, 37, 38, 90] h0 (hs (hs (hs (hs (hs (hz (hs h0 30 8 ((h0 30 8) + 1)) 90) 90 0 (((hz (hs h0 30 8 ((h0 30 8) + 1)) 90)) 30 9)) 90 1 p1) 90 2 p2) 90 3 (r3 + 1)) 90 4 0) := zfr_hs hf (by decide)
    refine z_astore (lv1 := [(4, .ref (ad2 90)), (3, .int (iI (h0 30 8))), (0, .ref (ad2 30)), (1, .int (iI p1)), (2, .int (iI p2))]) hX dX6_playOn_63 (by decide) rfl ?_
    refine z_aload hX dX6_playOn_65 0 rfl ?_
    refine z_iconst hX dX6_playOn_67 ?_
    refine z_aload_n hX dX6_playOn_68 2 rfl ?_
    refine z_getR (j := 37) hX dX6_playOn_69 fl_32 0 rfl rfl ?_
    refine z_iconst hX dX6_playOn_72 ?_
    refine z_iload_n hX dX6_playOn_73 1 rfl ?_
    refine z_imul hX dX6_playOn_74 ?_
    refine z_iconst hX dX6_playOn_75 ?_
    refine z_copyi (b0 := 5) (b1 := 1000) hX dX6_playOn_76 13 7 rfl rfl (by decide) (by decide) rfl rfl (by decide +kernel) (by decide +kernel) (by decide +kernel) (by decide +kernel) (by decide) (by decide +kernel) hr (fun hr => ?_)
    have hf : zfr [30, 35, 37, 38, 90] h0 (hcp (hs (hs (hs (hs (hs (hz (hs h0 30 8 ((h0 30 8) + 1)) 90) 90 0 (((hz (hs h0 30 8 ((h0 30 8) + 1)) 90)) 30 9)) 90 1 p1) 90 2 p2) 90 3 (r3 + 1)) 90 4 0) 90 0 37 (5 * (h0 30 8)) 5) := zfr_hcp hf (by decide)
    refine z_aload_n hX dX6_playOn_79 2 rfl ?_
    refine z_getR (j := 38) hX dX6_playOn_80 fl_36 0 rfl rfl ?_
    refine z_sipush hX dX6_playOn_83 (by decide +kernel) ?_
    refine z_aload_n hX dX6_playOn_86 2 rfl ?_
    refine z_getI hX dX6_playOn_87 fl_95 0 rfl rfl ?_
    refine z_imul hX dX6_playOn_90 ?_
    refine z_aload_n hX dX6_playOn_91 2 rfl ?_
    refine z_aload_n hX dX6_playOn_92 2 rfl ?_
    refine z_getI hX dX6_playOn_93 fl_95 0 rfl rfl ?_
    refine z_iconst hX dX6_playOn_96 ?_
    obtain ⟨r4, hc4, hr⟩ := z_bind hr
    refine z_callV_i (As := [.int (iI (((hcp (hs (hs (hs (hs (hs (hz (hs h0 30 8 ((h0 30 8) + 1)) 90) 90 0 (((hz (hs h0 30 8 ((h0 30 8) + 1)) 90)) 30 9)) 90 1 p1) 90 2 p2) 90 3 (r3 + 1)) 90 4 0) 90 0 37 (5 * (h0 30 8)) 5)) 30 9)), .int (iI 4)]) (k1 := 1) (n1 := 5) (nA := 2) hX (mX6_get hc4) dX6_playOn_97 gX6_playOn_X6_get rfl ⟨rfl, by decide, by decide, by decide +kernel⟩ ⟨by decide, by decide⟩ ⟨by decide, by decide⟩ 0 rfl rfl rfl rfl (Nat.le_of_ble_eq_true rfl) (by decide +kernel) rfl rfl (fun hg4 => ?_)
    refine z_iadd hX dX6_playOn_100 ?_
    refine z_iload_n hX dX6_playOn_101 1 rfl ?_
    refine z_iastore (b := 40000) hX dX6_playOn_102 8 rfl (by decide) rfl hr (fun hr => ?_)
    have hf : zfr [30, 35, 37, 38, 90] h0 (hs (hcp (hs (hs (hs (hs (hs (hz (hs h0 30 8 ((h0 30 8) + 1)) 90) 90 0 (((hz (hs h0 30 8 ((h0 30 8) + 1)) 90)) 30 9)) 90 1 p1) 90 2 p2) 90 3 (r3 + 1)) 90 4 0) 90 0 37 (5 * (h0 30 8)) 5) 38 ((200 * (((hcp (hs (hs (hs (hs (hs (hz (hs h0 30 8 ((h0 30 8) + 1)) 90) 90 0 (((hz (hs h0 30 8 ((h0 30 8) + 1)) 90)) 30 9)) 90 1 p1) 90 2 p2) 90 3 (r3 + 1)) 90 4 0) 90 0 37 (5 * (h0 30 8)) 5)) 30 9)) + r4) (h0 30 8)) := zfr_hs hf (by decide)
    refine z_aload_n hX dX6_playOn_103 2 rfl ?_
    refine z_getR (j := 37) hX dX6_playOn_104 fl_32 0 rfl rfl ?_
    refine z_iconst hX dX6_playOn_107 ?_
    refine z_aload_n hX dX6_playOn_108 2 rfl ?_
    refine z_getI hX dX6_playOn_109 fl_95 0 rfl rfl ?_
    refine z_imul hX dX6_playOn_112 ?_
    refine z_iconst hX dX6_playOn_113 ?_
    refine z_iadd hX dX6_playOn_114 ?_
    refine z_dup2 hX dX6_playOn_115 rfl rfl ?_
    refine z_iaload (b := 1000) hX dX6_playOn_116 7 rfl (by decide) rfl hr (fun hr => ?_)
    refine z_iconst hX dX6_playOn_117 ?_
    refine z_iadd hX dX6_playOn_118 ?_
    refine z_iastore (b := 1000) hX dX6_playOn_119 7 rfl (by decide) rfl hr (fun hr => ?_)
    have hf : zfr [30, 35, 37, 38, 90] h0 (hs (hs (hcp (hs (hs (hs (hs (hs (hz (hs h0 30 8 ((h0 30 8) + 1)) 90) 90 0 (((hz (hs h0 30 8 ((h0 30 8) + 1)) 90)) 30 9)) 90 1 p1) 90 2 p2) 90 3 (r3 + 1)) 90 4 0) 90 0 37 (5 * (h0 30 8)) 5) 38 ((200 * (((hcp (hs (hs (hs (hs (hs (hz (hs h0 30 8 ((h0 30 8) + 1)) 90) 90 0 (((hz (hs h0 30 8 ((h0 30 8) + 1)) 90)) 30 9)) 90 1 p1) 90 2 p2) 90 3 (r3 + 1)) 90 4 0) 90 0 37 (5 * (h0 30 8)) 5)) 30 9)) + r4) (h0 30 8)) 37 ((5 * (((hs (hcp (hs (hs (hs (hs (hs (hz (hs h0 30 8 ((h0 30 8) + 1)) 90) 90 0 (((hz (hs h0 30 8 ((h0 30 8) + 1)) 90)) 30 9)) 90 1 p1) 90 2 p2) 90 3 (r3 + 1)) 90 4 0) 90 0 37 (5 * (h0 30 8)) 5) 38 ((200 * (((hcp (hs (hs (hs (hs (hs (hz (hs h0 30 8 ((h0 30 8) + 1)) 90) 90 0 (((hz (hs h0 30 8 ((h0 30 8) + 1)) 90)) 30 9)) 90 1 p1) 90 2 p2) 90 3 (r3 + 1)) 90 4 0) 90 0 37 (5 * (h0 30 8)) 5)) 30 9)) + r4) (h0 30 8))) 30 9)) + 4) ((((hs (hcp (hs (hs (hs (hs (hs (hz (hs h0 30 8 ((h0 30 8) + 1)) 90) 90 0 (((hz (hs h0 30 8 ((h0 30 8) + 1)) 90)) 30 9)) 90 1 p1) 90 2 p2) 90 3 (r3 + 1)) 90 4 0) 90 0 37 (5 * (h0 30 8)) 5) 38 ((200 * (((hcp (hs (hs (hs (hs (hs (hz (hs h0 30 8 ((h0 30 8) + 1)) 90) 90 0 (((hz (hs h0 30 8 ((h0 30 8) + 1)) 90)) 30 9)) 90 1 p1) 90 2 p2) 90 3 (r3 + 1)) 90 4 0) 90 0 37 (5 * (h0 30 8)) 5)) 30 9)) + r4) (h0 30 8))) 37 ((5 * (((hs (hcp (hs (hs (hs (hs (hs (hz (hs h0 30 8 ((h0 30 8) + 1)) 90) 90 0 (((hz (hs h0 30 8 ((h0 30 8) + 1)) 90)) 30 9)) 90 1 p1) 90 2 p2) 90 3 (r3 + 1)) 90 4 0) 90 0 37 (5 * (h0 30 8)) 5) 38 ((200 * (((hcp (hs (hs (hs (hs (hs (hz (hs h0 30 8 ((h0 30 8) + 1)) 90) 90 0 (((hz (hs h0 30 8 ((h0 30 8) + 1)) 90)) 30 9)) 90 1 p1) 90 2 p2) 90 3 (r3 + 1)) 90 4 0) 90 0 37 (5 * (h0 30 8)) 5)) 30 9)) + r4) (h0 30 8))) 30 9)) + 4)) + 1)) := zfr_hs hf (by decide)
    refine z_back (lv1 := [(0, .ref (ad 30)), (1, .int (iI p1)), (2, .int (iI p2)), (3, .int (iI (h0 30 8)))]) [2, 3, 4, 1] (by decide +kernel) he (by simp only [lv_pick, List.filterMap, List.getElem?_cons_zero, List.getElem?_cons_succ, he 30 (by decide)]) ?_
    have hf : zfr [30, 35, 37, 38, 90] h0 (hz (hs (hs (hcp (hs (hs (hs (hs (hs (hz (hs h0 30 8 ((h0 30 8) + 1)) 90) 90 0 (((hz (hs h0 30 8 ((h0 30 8) + 1)) 90)) 30 9)) 90 1 p1) 90 2 p2) 90 3 (r3 + 1)) 90 4 0) 90 0 37 (5 * (h0 30 8)) 5) 38 ((200 * (((hcp (hs (hs (hs (hs (hs (hz (hs h0 30 8 ((h0 30 8) + 1)) 90) 90 0 (((hz (hs h0 30 8 ((h0 30 8) + 1)) 90)) 30 9)) 90 1 p1) 90 2 p2) 90 3 (r3 + 1)) 90 4 0) 90 0 37 (5 * (h0 30 8)) 5)) 30 9)) + r4) (h0 30 8)) 37 ((5 * (((hs (hcp (hs (hs (hs (hs (hs (hz (hs h0 30 8 ((h0 30 8) + 1)) 90) 90 0 (((hz (hs h0 30 8 ((h0 30 8) + 1)) 90)) 30 9)) 90 1 p1) 90 2 p2) 90 3 (r3 + 1)) 90 4 0) 90 0 37 (5 * (h0 30 8)) 5) 38 ((200 * (((hcp (hs (hs (hs (hs (hs (hz (hs h0 30 8 ((h0 30 8) + 1)) 90) 90 0 (((hz (hs h0 30 8 ((h0 30 8) + 1)) 90)) 30 9)) 90 1 p1) 90 2 p2) 90 3 (r3 + 1)) 90 4 0) 90 0 37 (5 * (h0 30 8)) 5)) 30 9)) + r4) (h0 30 8))) 30 9)) + 4) ((((hs (hcp (hs (hs (hs (hs (hs (hz (hs h0 30 8 ((h0 30 8) + 1)) 90) 90 0 (((hz (hs h0 30 8 ((h0 30 8) + 1)) 90)) 30 9)) 90 1 p1) 90 2 p2) 90 3 (r3 + 1)) 90 4 0) 90 0 37 (5 * (h0 30 8)) 5) 38 ((200 * (((hcp (hs (hs (hs (hs (hs (hz (hs h0 30 8 ((h0 30 8) + 1)) 90) 90 0 (((hz (hs h0 30 8 ((h0 30 8) + 1)) 90)) 30 9)) 90 1 p1) 90 2 p2) 90 3 (r3 + 1)) 90 4 0) 90 0 37 (5 * (h0 30 8)) 5)) 30 9)) + r4) (h0 30 8))) 37 ((5 * (((hs (hcp (hs (hs (hs (hs (hs (hz (hs h0 30 8 ((h0 30 8) + 1)) 90) 90 0 (((hz (hs h0 30 8 ((h0 30 8) + 1)) 90)) 30 9)) 90 1 p1) 90 2 p2) 90 3 (r3 + 1)) 90 4 0) 90 0 37 (5 * (h0 30 8)) 5) 38 ((200 * (((hcp (hs (hs (hs (hs (hs (hz (hs h0 30 8 ((h0 30 8) + 1)) 90) 90 0 (((hz (hs h0 30 8 ((h0 30 8) + 1)) 90)) 30 9)) 90 1 p1) 90 2 p2) 90 3 (r3 + 1)) 90 4 0) 90 0 37 (5 * (h0 30 8)) 5)) 30 9)) + r4) (h0 30 8))) 30 9)) + 4)) + 1)) 90) := zfr_hz hf (by decide)
    exact B120 p1 p2 (h0 30 8) (hz (hs (hs (hcp (hs (hs (hs (hs (hs (hz (hs h0 30 8 ((h0 30 8) + 1)) 90) 90 0 (((hz (hs h0 30 8 ((h0 30 8) + 1)) 90)) 30 9)) 90 1 p1) 90 2 p2) 90 3 (r3 + 1)) 90 4 0) 90 0 37 (5 * (h0 30 8)) 5) 38 ((200 * (((hcp (hs (hs (hs (hs (hs (hz (hs h0 30 8 ((h0 30 8) + 1)) 90) 90 0 (((hz (hs h0 30 8 ((h0 30 8) + 1)) 90)) 30 9)) 90 1 p1) 90 2 p2) 90 3 (r3 + 1)) 90 4 0) 90 0 37 (5 * (h0 30 8)) 5)) 30 9)) + r4) (h0 30 8)) 37 ((5 * (((hs (hcp (hs (hs (hs (hs (hs (hz (hs h0 30 8 ((h0 30 8) + 1)) 90) 90 0 (((hz (hs h0 30 8 ((h0 30 8) + 1)) 90)) 30 9)) 90 1 p1) 90 2 p2) 90 3 (r3 + 1)) 90 4 0) 90 0 37 (5 * (h0 30 8)) 5) 38 ((200 * (((hcp (hs (hs (hs (hs (hs (hz (hs h0 30 8 ((h0 30 8) + 1)) 90) 90 0 (((hz (hs h0 30 8 ((h0 30 8) + 1)) 90)) 30 9)) 90 1 p1) 90 2 p2) 90 3 (r3 + 1)) 90 4 0) 90 0 37 (5 * (h0 30 8)) 5)) 30 9)) + r4) (h0 30 8))) 30 9)) + 4) ((((hs (hcp (hs (hs (hs (hs (hs (hz (hs h0 30 8 ((h0 30 8) + 1)) 90) 90 0 (((hz (hs h0 30 8 ((h0 30 8) + 1)) 90)) 30 9)) 90 1 p1) 90 2 p2) 90 3 (r3 + 1)) 90 4 0) 90 0 37 (5 * (h0 30 8)) 5) 38 ((200 * (((hcp (hs (hs (hs (hs (hs (hz (hs h0 30 8 ((h0 30 8) + 1)) 90) 90 0 (((hz (hs h0 30 8 ((h0 30 8) + 1)) 90)) 30 9)) 90 1 p1) 90 2 p2) 90 3 (r3 + 1)) 90 4 0) 90 0 37 (5 * (h0 30 8)) 5)) 30 9)) + r4) (h0 30 8))) 37 ((5 * (((hs (hcp (hs (hs (hs (hs (hs (hz (hs h0 30 8 ((h0 30 8) + 1)) 90) 90 0 (((hz (hs h0 30 8 ((h0 30 8) + 1)) 90)) 30 9)) 90 1 p1) 90 2 p2) 90 3 (r3 + 1)) 90 4 0) 90 0 37 (5 * (h0 30 8)) 5) 38 ((200 * (((hcp (hs (hs (hs (hs (hs (hz (hs h0 30 8 ((h0 30 8) + 1)) 90) 90 0 (((hz (hs h0 30 8 ((h0 30 8) + 1)) 90)) 30 9)) 90 1 p1) 90 2 p2) 90 3 (r3 + 1)) 90 4 0) 90 0 37 (5 * (h0 30 8)) 5)) 30 9)) + r4) (h0 30 8))) 30 9)) + 4)) + 1)) 90) hf hr

def fX6_play__b19 (h : HS) : Option (Int × HS) := (fX6_fail 1 h).bind fun r1 => some (r1.1, r1.2)
def fX6_play__b54 (h : HS) : Option (Int × HS) := (fX6_fail 2 h).bind fun r2 => some (r2.1, r2.2)
def fX6_play__b60 (x1 : Int) (x2 : Int) (h : HS) : Option (Int × HS) := (fX6_playOn x1 x2 h).bind fun r3 => some ((r3 30 9), r3)
def fX6_play_ (p1 : Int) (p2 : Int) (h : HS) : Option (Int × HS) := (fX6_isSquare p1 (hs h 30 0 0)).bind fun r4 => if wr r4 = 0 then fX6_play__b19 (hs h 30 0 0) else (fX6_isSquare p2 (hs h 30 0 0)).bind fun r5 => if wr r5 = 0 then fX6_play__b19 (hs h 30 0 0) else (fX6_why p1 p2 (hs h 30 0 0)).bind fun r6 => if wr r6.1 = 0 then if wr (r6.2 30 8) = (200 : Int) then (fX6_known p1 p2 r6.2).bind fun r7 => if wr r7 = ((-1) : Int) then fX6_play__b54 r6.2 else fX6_play__b60 p1 p2 r6.2 else fX6_play__b60 p1 p2 r6.2 else fX6_play__b54 r6.2
set_option maxRecDepth 100000 in
set_option maxHeartbeats 4000000 in
theorem mX6_play_ {G : ZG} {l0 : Launch} {ad : Nat → Nat} {h0 : HS} {p1 : Int} {p2 : Int} {o : Int × HS} (hr : fX6_play_ p1 p2 h0 = some o) : ZMi G l0 yX6_play_ wsX6_play_ ({ frames := 6, cells := 1, slots := 5, locals := 145 }) [.ref (ad 30), .int (iI p1), .int (iI p2)] sh_8 ad h0 [30, 35, 36, 37, 38, 90] o.1 o.2 := by
  refine ZMi.of (cc := cX6_play_) (maxL := 3) (ret := (some .int)) (own := RX6) (lv0 := [(0, .ref (ad 30)), (1, .int (iI p1)), (2, .int (iI p2))]) (by decide) rfl rfl rfl (Nat.le_of_ble_eq_true rfl) rfl ?_
  intro X hX hQ
  have hf : zfr [30, 35, 36, 37, 38, 90] h0 h0 := zfr_rf
  have fl_28 : zFld wsX6_play_ RX6 28 6 RX6 TX6 26 8 := ⟨by decide +kernel, by decide +kernel, by decide, rfl⟩
  have fl_66 : zFld wsX6_play_ RX6 66 6 RX6 TX6 26 0 := ⟨by decide +kernel, by decide +kernel, by decide, rfl⟩
  have fl_95 : zFld wsX6_play_ RX6 95 6 RX6 TX6 26 9 := ⟨by decide +kernel, by decide +kernel, by decide, rfl⟩
  have pu_X6_0 : zPut TX6 26 0 tyX6 .int := ⟨tyX6_ok, nmX6, rfl, by decide +kernel⟩
  have B19 : ∀ (h : HS), zfr [30, 35, 36, 37, 38, 90] h0 h → fX6_play__b19 h = some o → ZW G X sh_8 ad h 0 0 [(0, .ref (ad 30))] 19 [] := by
    intro h hf hr
    unfold fX6_play__b19 at hr
    refine z_aload_n hX dX6_play__19 0 rfl ?_
    refine z_iconst hX dX6_play__20 ?_
    obtain ⟨r1, hc1, hr⟩ := z_bind hr
    refine z_callV_i (As := [.int (iI 1)]) (k1 := 0) (n1 := 0) (nA := 1) hX (mX6_fail hc1) dX6_play__21 gX6_play__X6_fail rfl ⟨rfl, by decide, by decide, by decide +kernel⟩ ⟨by decide, by decide⟩ ⟨by decide, by decide⟩ 0 rfl rfl rfl rfl (Nat.le_of_ble_eq_true rfl) (by decide +kernel) rfl rfl (fun hg1 => ?_)
    have hf : zfr [30, 35, 36, 37, 38, 90] h0 r1.2 := zfr_tr hf (by decide) hg1
    refine z_widen (k1 := 1) (n1 := 5) (by decide) (by decide) ?_
    obtain rfl := Option.some.inj hr
    exact hQ _ _ dX6_play__24 hf
  have B54 : ∀ (h : HS), zfr [30, 35, 36, 37, 38, 90] h0 h → fX6_play__b54 h = some o → ZW G X sh_8 ad h 0 0 [(0, .ref (ad 30))] 54 [] := by
    intro h hf hr
    unfold fX6_play__b54 at hr
    refine z_aload_n hX dX6_play__54 0 rfl ?_
    refine z_iconst hX dX6_play__55 ?_
    obtain ⟨r2, hc2, hr⟩ := z_bind hr
    refine z_callV_i (As := [.int (iI 2)]) (k1 := 0) (n1 := 0) (nA := 1) hX (mX6_fail hc2) dX6_play__56 gX6_play__X6_fail rfl ⟨rfl, by decide, by decide, by decide +kernel⟩ ⟨by decide, by decide⟩ ⟨by decide, by decide⟩ 0 rfl rfl rfl rfl (Nat.le_of_ble_eq_true rfl) (by decide +kernel) rfl rfl (fun hg2 => ?_)
    have hf : zfr [30, 35, 36, 37, 38, 90] h0 r2.2 := zfr_tr hf (by decide) hg2
    refine z_widen (k1 := 1) (n1 := 5) (by decide) (by decide) ?_
    obtain rfl := Option.some.inj hr
    exact hQ _ _ dX6_play__59 hf
  have B60 : ∀ (x1 : Int) (x2 : Int) (h : HS), zfr [30, 35, 36, 37, 38, 90] h0 h → fX6_play__b60 x1 x2 h = some o → ZW G X sh_8 ad h 0 0 [(0, .ref (ad 30)), (1, .int (iI x1)), (2, .int (iI x2))] 60 [] := by
    intro x1 x2 h hf hr
    unfold fX6_play__b60 at hr
    refine z_aload_n hX dX6_play__60 0 rfl ?_
    refine z_iload_n hX dX6_play__61 1 rfl ?_
    refine z_iload_n hX dX6_play__62 2 rfl ?_
    obtain ⟨r3, hc3, hr⟩ := z_bind hr
    refine z_callV_v (As := [.int (iI x1), .int (iI x2)]) (k1 := 1) (n1 := 5) (nA := 2) hX (mX6_playOn hc3) dX6_play__63 gX6_play__X6_playOn rfl ⟨rfl, by decide, by decide, by decide +kernel⟩ ⟨by decide, by decide⟩ ⟨by decide, by decide⟩ 0 rfl rfl rfl rfl (Nat.le_of_ble_eq_true rfl) (by decide +kernel) rfl rfl (fun hg3 => ?_)
    have hf : zfr [30, 35, 36, 37, 38, 90] h0 r3 := zfr_tr hf (by decide) hg3
    refine z_aload_n hX dX6_play__66 0 rfl ?_
    refine z_getI hX dX6_play__67 fl_95 0 rfl rfl ?_
    obtain rfl := Option.some.inj hr
    exact hQ _ _ dX6_play__70 hf
  unfold fX6_play_ at hr
  refine z_aload_n hX dX6_play__0 0 rfl ?_
  refine z_iconst hX dX6_play__1 ?_
  refine z_putI hX dX6_play__2 fl_66 pu_X6_0 0 rfl rfl ?_
  have hf : zfr [30, 35, 36, 37, 38, 90] h0 (hs h0 30 0 0) := zfr_hs hf (by decide)
  refine z_iload_n hX dX6_play__5 1 rfl ?_
  obtain ⟨r4, hc4, hr⟩ := z_bind hr
  refine z_callS_i (As := [.int (iI p1)]) (k1 := 0) (n1 := 0) (nA := 1) hX (mX6_isSquare hc4) dX6_play__6 gX6_play__X6_isSquare rfl ⟨by decide, by decide, by decide +kernel⟩ ⟨by decide, by decide⟩ ⟨by decide, by decide⟩ rfl rfl (Nat.le_of_ble_eq_true rfl) (by decide +kernel) rfl rfl (fun hg4 => ?_)
  refine z_if_eq (tgt := 19) hX dX6_play__9 (by decide) rfl hr (fun hr => ?_) (fun hr => ?_)
  · refine z_lv [0] rfl ?_
    exact B19 (hs h0 30 0 0) hf hr
  · refine z_iload_n hX dX6_play__12 2 rfl ?_
    obtain ⟨r5, hc5, hr⟩ := z_bind hr
    refine z_callS_i (As := [.int (iI p2)]) (k1 := 0) (n1 := 0) (nA := 1) hX (mX6_isSquare hc5) dX6_play__13 gX6_play__X6_isSquare rfl ⟨by decide, by decide, by decide +kernel⟩ ⟨by decide, by decide⟩ ⟨by decide, by decide⟩ rfl rfl (Nat.le_of_ble_eq_true rfl) (by decide +kernel) rfl rfl (fun hg5 => ?_)
    refine z_if_ne (tgt := 25) hX dX6_play__16 (by decide) rfl hr (fun hr => ?_) (fun hr => ?_)
    · refine z_aload_n hX dX6_play__25 0 rfl ?_
      refine z_iload_n hX dX6_play__26 1 rfl ?_
      refine z_iload_n hX dX6_play__27 2 rfl ?_
      obtain ⟨r6, hc6, hr⟩ := z_bind hr
      refine z_callV_i (As := [.int (iI p1), .int (iI p2)]) (k1 := 0) (n1 := 0) (nA := 2) hX (mX6_why hc6) dX6_play__28 gX6_play__X6_why rfl ⟨rfl, by decide, by decide, by decide +kernel⟩ ⟨by decide, by decide⟩ ⟨by decide, by decide⟩ 0 rfl rfl rfl rfl (Nat.le_of_ble_eq_true rfl) (by decide +kernel) rfl rfl (fun hg6 => ?_)
      have hf : zfr [30, 35, 36, 37, 38, 90] h0 r6.2 := zfr_tr hf (by decide) hg6
      refine z_if_ne (tgt := 54) hX dX6_play__31 (by decide) rfl hr (fun hr => ?_) (fun hr => ?_)
      · refine z_lv [0] rfl ?_
        exact B54 r6.2 hf hr
      · refine z_aload_n hX dX6_play__34 0 rfl ?_
        refine z_getI hX dX6_play__35 fl_28 0 rfl rfl ?_
        refine z_sipush hX dX6_play__38 (by decide +kernel) ?_
        refine z_icmp_ne (tgt := 60) hX dX6_play__41 (by decide) rfl (wr_of (by decide) (by decide)) hr (fun hr => ?_) (fun hr => ?_)
        · exact B60 p1 p2 r6.2 hf hr
        · refine z_aload_n hX dX6_play__44 0 rfl ?_
          refine z_iload_n hX dX6_play__45 1 rfl ?_
          refine z_iload_n hX dX6_play__46 2 rfl ?_
          obtain ⟨r7, hc7, hr⟩ := z_bind hr
          refine z_callV_i (As := [.int (iI p1), .int (iI p2)]) (k1 := 0) (n1 := 0) (nA := 2) hX (mX6_known hc7) dX6_play__47 gX6_play__X6_known rfl ⟨rfl, by decide, by decide, by decide +kernel⟩ ⟨by decide, by decide⟩ ⟨by decide, by decide⟩ 0 rfl rfl rfl rfl (Nat.le_of_ble_eq_true rfl) (by decide +kernel) rfl rfl (fun hg7 => ?_)
          refine z_iconst hX dX6_play__50 ?_
          refine z_icmp_ne (tgt := 60) hX dX6_play__51 (by decide) rfl (wr_of (by decide) (by decide)) hr (fun hr => ?_) (fun hr => ?_)
          · exact B60 p1 p2 r6.2 hf hr
          · refine z_lv [0] rfl ?_
            exact B54 r6.2 hf hr
    · refine z_lv [0] rfl ?_
      exact B19 (hs h0 30 0 0) hf hr

def fX6_feed_b50 (h : HS) : Option (Int × HS) := (fX6_fail 1 h).bind fun r1 => some (r1.1, r1.2)
def fX6_feed_b191 (k157 : Int → Int → Int → HS → Option (Int × HS)) (x6 : Int) (x9 : Int) (x10 : Int) (h : HS) : Option (Int × HS) := k157 x6 x9 (x10 + 1) h
def fX6_feed_L157 : Nat → Int → Int → Int → HS → Option (Int × HS)
  | 0, _, _, _, _ => none
  | nf + 1, x6, x9, x10, h => if wr x9 ≤ wr x10 then some ((((hs h 30 13 x6)) 30 13), (hz (hs h 30 13 x6) 91)) else if (0 : Int) ≤ x10 ∧ x10 < 3 then if 0 ≤ wr (h 91 x10) then if (0 : Int) ≤ x6 ∧ x6 < 2000 then fX6_feed_b191 (fun a0 a1 a2 hh => fX6_feed_L157 nf a0 a1 a2 hh) (x6 + 1) x9 x10 (hs h 39 x6 (h 91 x10)) else none else fX6_feed_b191 (fun a0 a1 a2 hh => fX6_feed_L157 nf a0 a1 a2 hh) x6 x9 x10 h else none
def fX6_feed_b87 (x1 : Int) (x2 : Int) (x3 : Int) (x4 : Int) (s0 : Int) (s1 : Int) (h : HS) : Option (Int × HS) := if wr ((h 30 13) + (s0 + s1)) ≤ (2000 : Int) then if (0 : Int) ≤ (h 30 13) ∧ (h 30 13) < 2000 then if (0 : Int) ≤ 0 ∧ 0 < 3 then if (0 : Int) ≤ 1 ∧ 1 < 3 then if (0 : Int) ≤ 2 ∧ 2 < 3 then fX6_feed_L157 zF ((((hs h 39 (h 30 13) x1)) 30 13) + 1) 3 0 (hs (hs (hs (hz (hs h 39 (h 30 13) x1) 91) 91 0 x2) 91 1 x3) 91 2 x4) else none else none else none else none else (fX6_fail 2 h).bind fun r2 => some (r2.1, r2.2)
def fX6_feed_b76 (x1 : Int) (x2 : Int) (x3 : Int) (x4 : Int) (s0 : Int) (s1 : Int) (h : HS) : Option (Int × HS) := if 0 ≤ wr x4 then fX6_feed_b87 x1 x2 x3 x4 (s0 + s1) 1 h else fX6_feed_b87 x1 x2 x3 x4 (s0 + s1) 0 h
def fX6_feed_b66 (x1 : Int) (x2 : Int) (x3 : Int) (x4 : Int) (s0 : Int) (s1 : Int) (h : HS) : Option (Int × HS) := if 0 ≤ wr x3 then fX6_feed_b76 x1 x2 x3 x4 (s0 + s1) 1 h else fX6_feed_b76 x1 x2 x3 x4 (s0 + s1) 0 h
def fX6_feed (p1 : Int) (p2 : Int) (p3 : Int) (p4 : Int) (h : HS) : Option (Int × HS) := (fX6_isIn p1 0 255 (hs h 30 0 0)).bind fun r3 => if wr r3 = 0 then fX6_feed_b50 (hs h 30 0 0) else (fX6_isIn p2 (-1) 255 (hs h 30 0 0)).bind fun r4 => if wr r4 = 0 then fX6_feed_b50 (hs h 30 0 0) else (fX6_isIn p3 (-1) 255 (hs h 30 0 0)).bind fun r5 => if wr r5 = 0 then fX6_feed_b50 (hs h 30 0 0) else (fX6_isIn p4 (-1) 255 (hs h 30 0 0)).bind fun r6 => if wr r6 = 0 then fX6_feed_b50 (hs h 30 0 0) else if 0 ≤ wr p2 then fX6_feed_b66 p1 p2 p3 p4 1 1 (hs h 30 0 0) else fX6_feed_b66 p1 p2 p3 p4 1 0 (hs h 30 0 0)
set_option maxRecDepth 100000 in
set_option maxHeartbeats 4000000 in
theorem mX6_feed {G : ZG} {l0 : Launch} {ad : Nat → Nat} {h0 : HS} {p1 : Int} {p2 : Int} {p3 : Int} {p4 : Int} {o : Int × HS} (hr : fX6_feed p1 p2 p3 p4 h0 = some o) : ZMi G l0 yX6_feed wsX6_feed ({ frames := 1, cells := 1, slots := 3, locals := 22 }) [.ref (ad 30), .int (iI p1), .int (iI p2), .int (iI p3), .int (iI p4)] sh_8 ad h0 [30, 39, 91] o.1 o.2 := by
  refine ZMi.of (cc := cX6_feed) (maxL := 12) (ret := (some .int)) (own := RX6) (lv0 := [(0, .ref (ad 30)), (1, .int (iI p1)), (2, .int (iI p2)), (3, .int (iI p3)), (4, .int (iI p4))]) (by decide) rfl rfl rfl (Nat.le_of_ble_eq_true rfl) rfl ?_
  intro X hX hQ
  have hf : zfr [30, 39, 91] h0 h0 := zfr_rf
  have fl_127 : zFld wsX6_feed RX6 127 6 RX6 TX6 26 13 := ⟨by decide +kernel, by decide +kernel, by decide, rfl⟩
  have fl_39 : zFld wsX6_feed RX6 39 6 RX6 TX6 26 12 := ⟨by decide +kernel, by decide +kernel, by decide, rfl⟩
  have fl_66 : zFld wsX6_feed RX6 66 6 RX6 TX6 26 0 := ⟨by decide +kernel, by decide +kernel, by decide, rfl⟩
  have pu_X6_0 : zPut TX6 26 0 tyX6 .int := ⟨tyX6_ok, nmX6, rfl, by decide +kernel⟩
  have pu_X6_13 : zPut TX6 26 13 tyX6 .int := ⟨tyX6_ok, nmX6, rfl, by decide +kernel⟩
  have B50 : ∀ (h : HS), zfr [30, 39, 91] h0 h → fX6_feed_b50 h = some o → ZW G X sh_8 ad h 0 0 [(0, .ref (ad 30))] 50 [] := by
    intro h hf hr
    unfold fX6_feed_b50 at hr
    refine z_aload_n hX dX6_feed_50 0 rfl ?_
    refine z_iconst hX dX6_feed_51 ?_
    obtain ⟨r1, hc1, hr⟩ := z_bind hr
    refine z_callV_i (As := [.int (iI 1)]) (k1 := 0) (n1 := 0) (nA := 1) hX (mX6_fail hc1) dX6_feed_52 gX6_feed_X6_fail rfl ⟨rfl, by decide, by decide, by decide +kernel⟩ ⟨by decide, by decide⟩ ⟨by decide, by decide⟩ 0 rfl rfl rfl rfl (Nat.le_of_ble_eq_true rfl) (by decide +kernel) rfl rfl (fun hg1 => ?_)
    have hf : zfr [30, 39, 91] h0 r1.2 := zfr_tr hf (by decide) hg1
    refine z_widen (k1 := 1) (n1 := 3) (by decide) (by decide) ?_
    obtain rfl := Option.some.inj hr
    exact hQ _ _ dX6_feed_55 hf
  have B157 : ∀ (nf : Nat) (x6 : Int) (x9 : Int) (x10 : Int) (h : HS) (ad2 : Nat → Nat) (he : ∀ j, j ≠ 91 → ad2 j = ad j), zfr [30, 39, 91] h0 h → fX6_feed_L157 nf x6 x9 x10 h = some o → ZW G X (sh_8 ++ [(91, .inl 3)]) ad2 h 1 3 [(0, .ref (ad2 30)), (6, .int (iI x6)), (8, .ref (ad2 91)), (9, .int (iI x9)), (10, .int (iI x10))] 157 [] := by
    intro nf
    induction nf with
    | zero => intro x6 x9 x10 h ad2 he hf hr; exact z_none hr
    | succ n157 ih157 =>
      intro x6 x9 x10 h ad2 he hf hr
      have B191 : ∀ (x6 : Int) (x9 : Int) (x10 : Int) (h : HS) (ad2 : Nat → Nat) (he : ∀ j, j ≠ 91 → ad2 j = ad j), zfr [30, 39, 91] h0 h → fX6_feed_b191 (fun a0 a1 a2 hh => fX6_feed_L157 n157 a0 a1 a2 hh) x6 x9 x10 h = some o → ZW G X (sh_8 ++ [(91, .inl 3)]) ad2 h 1 3 [(0, .ref (ad2 30)), (6, .int (iI x6)), (8, .ref (ad2 91)), (9, .int (iI x9)), (10, .int (iI x10))] 191 [] := by
        intro x6 x9 x10 h ad2 he hf hr
        unfold fX6_feed_b191 at hr
        refine z_iinc (lv1 := [(10, .int (iI (x10 + 1))), (0, .ref (ad2 30)), (6, .int (iI x6)), (8, .ref (ad2 91)), (9, .int (iI x9))]) hX dX6_feed_191 4 rfl (by decide) rfl ?_
        refine z_goto (tgt := 157) hX dX6_feed_194 (by decide) ?_
        refine z_lv [1, 2, 3, 4, 0] rfl ?_
        exact ih157 x6 x9 (x10 + 1) h ad2 he hf hr
      unfold fX6_feed_L157 at hr
      refine z_iload hX dX6_feed_157 4 rfl ?_
      refine z_iload hX dX6_feed_159 3 rfl ?_
      refine z_icmp_ge (tgt := 197) hX dX6_feed_161 (by decide) rfl rfl hr (fun hr => ?_) (fun hr => ?_)
      · refine z_aload_n hX dX6_feed_197 0 rfl ?_
        refine z_iload hX dX6_feed_198 1 rfl ?_
        refine z_putI hX dX6_feed_200 fl_127 pu_X6_13 0 rfl rfl ?_
        have hf : zfr [30, 39, 91] h0 (hs h 30 13 x6) := zfr_hs hf (by decide)
        refine z_aload_n hX dX6_feed_203 0 rfl ?_
        refine z_getI hX dX6_feed_204 fl_127 0 rfl rfl ?_
        refine z_back (lv1 := []) [] (by decide +kernel) he rfl ?_
        have hf : zfr [30, 39, 91] h0 (hz (hs h 30 13 x6) 91) := zfr_hz hf (by decide)
        obtain rfl := Option.some.inj hr
        exact hQ _ _ dX6_feed_207 hf
      · refine z_aload hX dX6_feed_164 2 rfl ?_
        refine z_iload hX dX6_feed_166 4 rfl ?_
        refine z_iaload (b := 3) hX dX6_feed_168 13 rfl (by decide) rfl hr (fun hr => ?_)
        refine z_istore (lv1 := [(11, .int (iI (h 91 x10))), (0, .ref (ad2 30)), (6, .int (iI x6)), (8, .ref (ad2 91)), (9, .int (iI x9)), (10, .int (iI x10))]) hX dX6_feed_169 (by decide) rfl ?_
        refine z_iload hX dX6_feed_171 0 rfl ?_
        refine z_if_ge (tgt := 179) hX dX6_feed_173 (by decide) rfl hr (fun hr => ?_) (fun hr => ?_)
        · refine z_aload_n hX dX6_feed_179 1 rfl ?_
          refine z_getR (j := 39) hX dX6_feed_180 fl_39 0 rfl rfl ?_
          refine z_iload hX dX6_feed_183 2 rfl ?_
          refine z_iload hX dX6_feed_185 0 rfl ?_
          refine z_iastore (b := 2000) hX dX6_feed_187 9 rfl (by decide) rfl hr (fun hr => ?_)
          have hf : zfr [30, 39, 91] h0 (hs h 39 x6 (h 91 x10)) := zfr_hs hf (by decide)
          refine z_iinc (lv1 := [(6, .int (iI (x6 + 1))), (11, .int (iI (h 91 x10))), (0, .ref (ad2 30)), (8, .ref (ad2 91)), (9, .int (iI x9)), (10, .int (iI x10))]) hX dX6_feed_188 2 rfl (by decide) rfl ?_
          refine z_lv [2, 0, 3, 4, 5] rfl ?_
          exact B191 (x6 + 1) x9 x10 (hs h 39 x6 (h 91 x10)) ad2 he hf hr
        · refine z_goto (tgt := 191) hX dX6_feed_176 (by decide) ?_
          refine z_lv [1, 2, 3, 4, 5] rfl ?_
          exact B191 x6 x9 x10 h ad2 he hf hr
  have B87 : ∀ (x1 : Int) (x2 : Int) (x3 : Int) (x4 : Int) (s0 : Int) (s1 : Int) (h : HS), zfr [30, 39, 91] h0 h → fX6_feed_b87 x1 x2 x3 x4 s0 s1 h = some o → ZW G X sh_8 ad h 0 0 [(0, .ref (ad 30)), (1, .int (iI x1)), (2, .int (iI x2)), (3, .int (iI x3)), (4, .int (iI x4))] 87 [.int (iI s1), .int (iI s0)] := by
    intro x1 x2 x3 x4 s0 s1 h hf hr
    unfold fX6_feed_b87 at hr
    refine z_iadd hX dX6_feed_87 ?_
    refine z_istore (lv1 := [(5, .int (iI (s0 + s1))), (0, .ref (ad 30)), (1, .int (iI x1)), (2, .int (iI x2)), (3, .int (iI x3)), (4, .int (iI x4))]) hX dX6_feed_88 (by decide) rfl ?_
    refine z_aload_n hX dX6_feed_90 1 rfl ?_
    refine z_getI hX dX6_feed_91 fl_127 0 rfl rfl ?_
    refine z_iload hX dX6_feed_94 0 rfl ?_
    refine z_iadd hX dX6_feed_96 ?_
    refine z_sipush hX dX6_feed_97 (by decide +kernel) ?_
    refine z_icmp_le (tgt := 109) hX dX6_feed_100 (by decide) rfl (wr_of (by decide) (by decide)) hr (fun hr => ?_) (fun hr => ?_)
    · refine z_aload_n hX dX6_feed_109 1 rfl ?_
      refine z_getR (j := 39) hX dX6_feed_110 fl_39 0 rfl rfl ?_
      refine z_aload_n hX dX6_feed_113 1 rfl ?_
      refine z_getI hX dX6_feed_114 fl_127 0 rfl rfl ?_
      refine z_iload_n hX dX6_feed_117 2 rfl ?_
      refine z_iastore (b := 2000) hX dX6_feed_118 9 rfl (by decide) rfl hr (fun hr => ?_)
      have hf : zfr [30, 39, 91] h0 (hs h 39 (h 30 13) x1) := zfr_hs hf (by decide)
      refine z_aload_n hX dX6_feed_119 1 rfl ?_
      refine z_getI hX dX6_feed_120 fl_127 0 rfl rfl ?_
      refine z_iconst hX dX6_feed_123 ?_
      refine z_iadd hX dX6_feed_124 ?_
      refine z_istore (lv1 := [(6, .int (iI ((((hs h 39 (h 30 13) x1)) 30 13) + 1))), (5, .int (iI (s0 + s1))), (0, .ref (ad 30)), (1, .int (iI x1)), (2, .int (iI x2)), (3, .int (iI x3)), (4, .int (iI x4))]) hX dX6_feed_125 (by decide) rfl ?_
      refine z_iconst hX dX6_feed_127 ?_
      refine z_newa (i := 91) (N := 3) (lvF := (fun ad => [(6, .int (iI ((((hs h 39 (h 30 13) x1)) 30 13) + 1))), (5, .int (iI (s0 + s1))), (0, .ref (ad 30)), (1, .int (iI x1)), (2, .int (iI x2)), (3, .int (iI x3)), (4, .int (iI x4))])) (stF := (fun ad => [])) (k1 := 1) (n1 := 3) hX dX6_feed_128 (by decide +kernel) rfl (by decide) (by decide +kernel) ⟨by decide, by decide⟩ rfl rfl rfl rfl (fun ad2 he => by constructor <;> simp only [he 30 (by decide)]) (fun ad2 he => ?_)
      have hf : zfr [30, 39, 91] h0 (hz (hs h 39 (h 30 13) x1) 91) := zfr_hz hf (by decide)
      refine z_dup hX dX6_feed_130 rfl ?_
      refine z_iconst hX dX6_feed_131 ?_
      refine z_iload_n hX dX6_feed_132 4 rfl ?_
      refine z_iastore (b := 3) hX dX6_feed_133 13 rfl (by decide) rfl hr (fun hr => ?_)
      have hf : zfr [30, 39, 91] h0 (hs (hz (hs h 39 (h 30 13) x1) 91) 91 0 x2) := zfr_hs hf (by decide)
      refine z_dup hX dX6_feed_134 rfl ?_
      refine z_iconst hX dX6_feed_135 ?_
      refine z_iload_n hX dX6_feed_136 5 rfl ?_
      refine z_iastore (b := 3) hX dX6_feed_137 13 rfl (by decide) rfl hr (fun hr => ?_)
      have hf : zfr [30, 39, 91] h0 (hs (hs (hz (hs h 39 (h 30 13) x1) 91) 91 0 x2) 91 1 x3) := zfr_hs hf (by decide)
      refine z_dup hX dX6_feed_138 rfl ?_
      refine z_iconst hX dX6_feed_139 ?_
      refine z_iload hX dX6_feed_140 6 rfl ?_
      refine z_iastore (b := 3) hX dX6_feed_142 13 rfl (by decide) rfl hr (fun hr => ?_)
      have hf : zfr [30, 39, 91] h0 (hs (hs (hs (hz (hs h 39 (h 30 13) x1) 91) 91 0 x2) 91 1 x3) 91 2 x4) := zfr_hs hf (by decide)
      refine z_astore (lv1 := [(7, .ref (ad2 91)), (6, .int (iI ((((hs h 39 (h 30 13) x1)) 30 13) + 1))), (5, .int (iI (s0 + s1))), (0, .ref (ad2 30)), (1, .int (iI x1)), (2, .int (iI x2)), (3, .int (iI x3)), (4, .int (iI x4))]) hX dX6_feed_143 (by decide) rfl ?_
      refine z_aload hX dX6_feed_145 0 rfl ?_
      refine z_astore (lv1 := [(8, .ref (ad2 91)), (7, .ref (ad2 91)), (6, .int (iI ((((hs h 39 (h 30 13) x1)) 30 13) + 1))), (5, .int (iI (s0 + s1))), (0, .ref (ad2 30)), (1, .int (iI x1)), (2, .int (iI x2)), (3, .int (iI x3)), (4, .int (iI x4))]) hX dX6_feed_147 (by decide) rfl ?_
      refine z_aload hX dX6_feed_149 0 rfl ?_
      refine z_alen hX dX6_feed_151 13 rfl ?_
      refine z_istore (lv1 := [(9, .int (iI 3)), (8, .ref (ad2 91)), (7, .ref (ad2 91)), (6, .int (iI ((((hs h 39 (h 30 13) x1)) 30 13) + 1))), (5, .int (iI (s0 + s1))), (0, .ref (ad2 30)), (1, .int (iI x1)), (2, .int (iI x2)), (3, .int (iI x3)), (4, .int (iI x4))]) hX dX6_feed_152 (by decide) rfl ?_
      refine z_iconst hX dX6_feed_154 ?_
      refine z_istore (lv1 := [(10, .int (iI 0)), (9, .int (iI 3)), (8, .ref (ad2 91)), (7, .ref (ad2 91)), (6, .int (iI ((((hs h 39 (h 30 13) x1)) 30 13) + 1))), (5, .int (iI (s0 + s1))), (0, .ref (ad2 30)), (1, .int (iI x1)), (2, .int (iI x2)), (3, .int (iI x3)), (4, .int (iI x4))]) hX dX6_feed_155 (by decide) rfl ?_
      refine z_lv [6, 4, 2, 1, 0] rfl ?_
      exact B157 zF ((((hs h 39 (h 30 13) x1)) 30 13) + 1) 3 0 (hs (hs (hs (hz (hs h 39 (h 30 13) x1) 91) 91 0 x2) 91 1 x3) 91 2 x4) ad2 he hf hr
    · refine z_aload_n hX dX6_feed_103 1 rfl ?_
      refine z_iconst hX dX6_feed_104 ?_
      obtain ⟨r2, hc2, hr⟩ := z_bind hr
      refine z_callV_i (As := [.int (iI 2)]) (k1 := 0) (n1 := 0) (nA := 1) hX (mX6_fail hc2) dX6_feed_105 gX6_feed_X6_fail rfl ⟨rfl, by decide, by decide, by decide +kernel⟩ ⟨by decide, by decide⟩ ⟨by decide, by decide⟩ 0 rfl rfl rfl rfl (Nat.le_of_ble_eq_true rfl) (by decide +kernel) rfl rfl (fun hg2 => ?_)
      have hf : zfr [30, 39, 91] h0 r2.2 := zfr_tr hf (by decide) hg2
      refine z_widen (k1 := 1) (n1 := 3) (by decide) (by decide) ?_
      obtain rfl := Option.some.inj hr
      exact hQ _ _ dX6_feed_108 hf
  have B76 : ∀ (x1 : Int) (x2 : Int) (x3 : Int) (x4 : Int) (s0 : Int) (s1 : Int) (h : HS), zfr [30, 39, 91] h0 h → fX6_feed_b76 x1 x2 x3 x4 s0 s1 h = some o → ZW G X sh_8 ad h 0 0 [(0, .ref (ad 30)), (1, .int (iI x1)), (2, .int (iI x2)), (3, .int (iI x3)), (4, .int (iI x4))] 76 [.int (iI s1), .int (iI s0)] := by
    intro x1 x2 x3 x4 s0 s1 h hf hr
    unfold fX6_feed_b76 at hr
    refine z_iadd hX dX6_feed_76 ?_
    refine z_iload hX dX6_feed_77 4 rfl ?_
    refine z_if_ge (tgt := 86) hX dX6_feed_79 (by decide) rfl hr (fun hr => ?_) (fun hr => ?_)
    · refine z_iconst hX dX6_feed_86 ?_
      exact B87 x1 x2 x3 x4 (s0 + s1) 1 h hf hr
    · refine z_iconst hX dX6_feed_82 ?_
      refine z_goto (tgt := 87) hX dX6_feed_83 (by decide) ?_
      exact B87 x1 x2 x3 x4 (s0 + s1) 0 h hf hr
  have B66 : ∀ (x1 : Int) (x2 : Int) (x3 : Int) (x4 : Int) (s0 : Int) (s1 : Int) (h : HS), zfr [30, 39, 91] h0 h → fX6_feed_b66 x1 x2 x3 x4 s0 s1 h = some o → ZW G X sh_8 ad h 0 0 [(0, .ref (ad 30)), (1, .int (iI x1)), (2, .int (iI x2)), (3, .int (iI x3)), (4, .int (iI x4))] 66 [.int (iI s1), .int (iI s0)] := by
    intro x1 x2 x3 x4 s0 s1 h hf hr
    unfold fX6_feed_b66 at hr
    refine z_iadd hX dX6_feed_66 ?_
    refine z_iload_n hX dX6_feed_67 3 rfl ?_
    refine z_if_ge (tgt := 75) hX dX6_feed_68 (by decide) rfl hr (fun hr => ?_) (fun hr => ?_)
    · refine z_iconst hX dX6_feed_75 ?_
      exact B76 x1 x2 x3 x4 (s0 + s1) 1 h hf hr
    · refine z_iconst hX dX6_feed_71 ?_
      refine z_goto (tgt := 76) hX dX6_feed_72 (by decide) ?_
      exact B76 x1 x2 x3 x4 (s0 + s1) 0 h hf hr
  unfold fX6_feed at hr
  refine z_aload_n hX dX6_feed_0 0 rfl ?_
  refine z_iconst hX dX6_feed_1 ?_
  refine z_putI hX dX6_feed_2 fl_66 pu_X6_0 0 rfl rfl ?_
  have hf : zfr [30, 39, 91] h0 (hs h0 30 0 0) := zfr_hs hf (by decide)
  refine z_iload_n hX dX6_feed_5 1 rfl ?_
  refine z_iconst hX dX6_feed_6 ?_
  refine z_sipush hX dX6_feed_7 (by decide +kernel) ?_
  obtain ⟨r3, hc3, hr⟩ := z_bind hr
  refine z_callS_i (As := [.int (iI p1), .int (iI 0), .int (iI 255)]) (k1 := 0) (n1 := 0) (nA := 3) hX (mX6_isIn hc3) dX6_feed_10 gX6_feed_X6_isIn rfl ⟨by decide, by decide, by decide +kernel⟩ ⟨by decide, by decide⟩ ⟨by decide, by decide⟩ rfl rfl (Nat.le_of_ble_eq_true rfl) (by decide +kernel) rfl rfl (fun hg3 => ?_)
  refine z_if_eq (tgt := 50) hX dX6_feed_13 (by decide) rfl hr (fun hr => ?_) (fun hr => ?_)
  · refine z_lv [0] rfl ?_
    exact B50 (hs h0 30 0 0) hf hr
  · refine z_iload_n hX dX6_feed_16 2 rfl ?_
    refine z_iconst hX dX6_feed_17 ?_
    refine z_sipush hX dX6_feed_18 (by decide +kernel) ?_
    obtain ⟨r4, hc4, hr⟩ := z_bind hr
    refine z_callS_i (As := [.int (iI p2), .int (iI (-1)), .int (iI 255)]) (k1 := 0) (n1 := 0) (nA := 3) hX (mX6_isIn hc4) dX6_feed_21 gX6_feed_X6_isIn rfl ⟨by decide, by decide, by decide +kernel⟩ ⟨by decide, by decide⟩ ⟨by decide, by decide⟩ rfl rfl (Nat.le_of_ble_eq_true rfl) (by decide +kernel) rfl rfl (fun hg4 => ?_)
    refine z_if_eq (tgt := 50) hX dX6_feed_24 (by decide) rfl hr (fun hr => ?_) (fun hr => ?_)
    · refine z_lv [0] rfl ?_
      exact B50 (hs h0 30 0 0) hf hr
    · refine z_iload_n hX dX6_feed_27 3 rfl ?_
      refine z_iconst hX dX6_feed_28 ?_
      refine z_sipush hX dX6_feed_29 (by decide +kernel) ?_
      obtain ⟨r5, hc5, hr⟩ := z_bind hr
      refine z_callS_i (As := [.int (iI p3), .int (iI (-1)), .int (iI 255)]) (k1 := 0) (n1 := 0) (nA := 3) hX (mX6_isIn hc5) dX6_feed_32 gX6_feed_X6_isIn rfl ⟨by decide, by decide, by decide +kernel⟩ ⟨by decide, by decide⟩ ⟨by decide, by decide⟩ rfl rfl (Nat.le_of_ble_eq_true rfl) (by decide +kernel) rfl rfl (fun hg5 => ?_)
      refine z_if_eq (tgt := 50) hX dX6_feed_35 (by decide) rfl hr (fun hr => ?_) (fun hr => ?_)
      · refine z_lv [0] rfl ?_
        exact B50 (hs h0 30 0 0) hf hr
      · refine z_iload hX dX6_feed_38 4 rfl ?_
        refine z_iconst hX dX6_feed_40 ?_
        refine z_sipush hX dX6_feed_41 (by decide +kernel) ?_
        obtain ⟨r6, hc6, hr⟩ := z_bind hr
        refine z_callS_i (As := [.int (iI p4), .int (iI (-1)), .int (iI 255)]) (k1 := 0) (n1 := 0) (nA := 3) hX (mX6_isIn hc6) dX6_feed_44 gX6_feed_X6_isIn rfl ⟨by decide, by decide, by decide +kernel⟩ ⟨by decide, by decide⟩ ⟨by decide, by decide⟩ rfl rfl (Nat.le_of_ble_eq_true rfl) (by decide +kernel) rfl rfl (fun hg6 => ?_)
        refine z_if_ne (tgt := 56) hX dX6_feed_47 (by decide) rfl hr (fun hr => ?_) (fun hr => ?_)
        · refine z_iconst hX dX6_feed_56 ?_
          refine z_iload_n hX dX6_feed_57 2 rfl ?_
          refine z_if_ge (tgt := 65) hX dX6_feed_58 (by decide) rfl hr (fun hr => ?_) (fun hr => ?_)
          · refine z_iconst hX dX6_feed_65 ?_
            exact B66 p1 p2 p3 p4 1 1 (hs h0 30 0 0) hf hr
          · refine z_iconst hX dX6_feed_61 ?_
            refine z_goto (tgt := 66) hX dX6_feed_62 (by decide) ?_
            exact B66 p1 p2 p3 p4 1 0 (hs h0 30 0 0) hf hr
        · refine z_lv [0] rfl ?_
          exact B50 (hs h0 30 0 0) hf hr

def fX6_empty (h : HS) : Option (Int × HS) := some ((((hs h 30 0 0)) 30 13), (hs (hs h 30 0 0) 30 13 0))
set_option maxRecDepth 100000 in
set_option maxHeartbeats 4000000 in
theorem mX6_empty {G : ZG} {l0 : Launch} {ad : Nat → Nat} {h0 : HS} {o : Int × HS} (hr : fX6_empty h0 = some o) : ZMi G l0 yX6_empty wsX6_empty ({ frames := 0, cells := 0, slots := 0, locals := 0 }) [.ref (ad 30)] sh_8 ad h0 [30] o.1 o.2 := by
  refine ZMi.of (cc := cX6_empty) (maxL := 2) (ret := (some .int)) (own := RX6) (lv0 := [(0, .ref (ad 30))]) (by decide) rfl rfl rfl (Nat.le_of_ble_eq_true rfl) rfl ?_
  intro X hX hQ
  have hf : zfr [30] h0 h0 := zfr_rf
  have fl_127 : zFld wsX6_empty RX6 127 6 RX6 TX6 26 13 := ⟨by decide +kernel, by decide +kernel, by decide, rfl⟩
  have fl_66 : zFld wsX6_empty RX6 66 6 RX6 TX6 26 0 := ⟨by decide +kernel, by decide +kernel, by decide, rfl⟩
  have pu_X6_0 : zPut TX6 26 0 tyX6 .int := ⟨tyX6_ok, nmX6, rfl, by decide +kernel⟩
  have pu_X6_13 : zPut TX6 26 13 tyX6 .int := ⟨tyX6_ok, nmX6, rfl, by decide +kernel⟩
  unfold fX6_empty at hr
  refine z_aload_n hX dX6_empty_0 0 rfl ?_
  refine z_iconst hX dX6_empty_1 ?_
  refine z_putI hX dX6_empty_2 fl_66 pu_X6_0 0 rfl rfl ?_
  have hf : zfr [30] h0 (hs h0 30 0 0) := zfr_hs hf (by decide)
  refine z_aload_n hX dX6_empty_5 0 rfl ?_
  refine z_getI hX dX6_empty_6 fl_127 0 rfl rfl ?_
  refine z_istore_n (lv1 := [(1, .int (iI (((hs h0 30 0 0)) 30 13))), (0, .ref (ad 30))]) hX dX6_empty_9 (by decide) rfl ?_
  refine z_aload_n hX dX6_empty_10 1 rfl ?_
  refine z_iconst hX dX6_empty_11 ?_
  refine z_putI hX dX6_empty_12 fl_127 pu_X6_13 0 rfl rfl ?_
  have hf : zfr [30] h0 (hs (hs h0 30 0 0) 30 13 0) := zfr_hs hf (by decide)
  refine z_iload_n hX dX6_empty_15 0 rfl ?_
  obtain rfl := Option.some.inj hr
  exact hQ _ _ dX6_empty_16 hf

