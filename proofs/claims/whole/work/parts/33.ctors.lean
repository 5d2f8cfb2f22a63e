def sh_11 : ZS := [(8, .inl 64)]
def fJ7_fill_53178_L5 : Nat → Int → Int → Int → HS → Option (HS)
  | 0, _, _, _, _ => none
  | nf + 1, x1, x2, x3, h => if wr x3 ≤ wr x2 then some h else if (0 : Int) ≤ x2 ∧ x2 < 64 then fJ7_fill_53178_L5 nf x1 (x2 + 1) x3 (hs h 8 x2 x1) else none
def fJ7_fill_53178 (p2 : Int) (h : HS) : Option (HS) := fJ7_fill_53178_L5 zF p2 0 64 h
set_option maxRecDepth 100000 in
set_option maxHeartbeats 4000000 in
theorem mJ7_fill_53178 {G : ZG} {l0 : Launch} {ad : Nat → Nat} {h0 : HS} {p2 : Int} {o : HS} (hr : fJ7_fill_53178 p2 h0 = some o) : ZMv G l0 yJ7_fill_53178 wsJ7_fill_53178 ({ frames := 0, cells := 0, slots := 0, locals := 0 }) [.ref (ad 8), .int (iI p2)] sh_11 ad h0 [8] o := by
  refine ZMv.of (cc := cJ7_fill_53178) (maxL := 4) (ret := none) (own := RJ7) (lv0 := [(0, .ref (ad 8)), (1, .int (iI p2))]) (by decide) rfl rfl rfl (Nat.le_of_ble_eq_true rfl) rfl ?_
  intro X hX hQ
  have hf : zfr [8] h0 h0 := zfr_rf
  have B5 : ∀ (nf : Nat) (x1 : Int) (x2 : Int) (x3 : Int) (h : HS), zfr [8] h0 h → fJ7_fill_53178_L5 nf x1 x2 x3 h = some o → ZW G X sh_11 ad h 0 0 [(0, .ref (ad 8)), (1, .int (iI x1)), (2, .int (iI x2)), (3, .int (iI x3))] 5 [] := by
    intro nf
    induction nf with
    | zero => intro x1 x2 x3 h hf hr; exact z_none hr
    | succ n5 ih5 =>
      intro x1 x2 x3 h hf hr
      unfold fJ7_fill_53178_L5 at hr
      refine z_iload_n hX dJ7_fill_53178_5 2 rfl ?_
      refine z_iload_n hX dJ7_fill_53178_6 3 rfl ?_
      refine z_icmp_ge (tgt := 20) hX dJ7_fill_53178_7 (by decide) rfl rfl hr (fun hr => ?_) (fun hr => ?_)
      · obtain rfl := Option.some.inj hr
        exact hQ _ _ dJ7_fill_53178_20 hf
      · refine z_aload_n hX dJ7_fill_53178_10 0 rfl ?_
        refine z_iload_n hX dJ7_fill_53178_11 2 rfl ?_
        refine z_iload_n hX dJ7_fill_53178_12 1 rfl ?_
        refine z_iastore (b := 64) hX dJ7_fill_53178_13 0 rfl (by decide) rfl hr (fun hr => ?_)
        have hf : zfr [8] h0 (hs h 8 x2 x1) := zfr_hs hf (by decide)
        refine z_iinc (lv1 := [(2, .int (iI (x2 + 1))), (0, .ref (ad 8)), (1, .int (iI x1)), (3, .int (iI x3))]) hX dJ7_fill_53178_14 2 rfl (by decide) rfl ?_
        refine z_goto (tgt := 5) hX dJ7_fill_53178_17 (by decide) ?_
        refine z_lv [1, 2, 0, 3] rfl ?_
        exact ih5 x1 (x2 + 1) x3 (hs h 8 x2 x1) hf hr
  unfold fJ7_fill_53178 at hr
  refine z_iconst hX dJ7_fill_53178_0 ?_
  refine z_istore_n (lv1 := [(2, .int (iI 0)), (0, .ref (ad 8)), (1, .int (iI p2))]) hX dJ7_fill_53178_1 (by decide) rfl ?_
  refine z_aload_n hX dJ7_fill_53178_2 1 rfl ?_
  refine z_alen hX dJ7_fill_53178_3 0 rfl ?_
  refine z_istore_n (lv1 := [(3, .int (iI 64)), (2, .int (iI 0)), (0, .ref (ad 8)), (1, .int (iI p2))]) hX dJ7_fill_53178_4 (by decide) rfl ?_
  refine z_lv [2, 3, 1, 0] rfl ?_
  exact B5 zF p2 0 64 h0 hf hr

def fX1_init (h : HS) : Option HS := some (hs (hz (hz (hz (hz (hz h 2) 3) 4) 5) 6) 1 5 0)
set_option maxRecDepth 100000 in
set_option maxHeartbeats 4000000 in
theorem mX1_init {G : ZG} {l0 : Launch} {ad : Nat → Nat} {h0 : HS} {o : HS} (hr : fX1_init h0 = some o) : ZMk G l0 yX1_init wsX1_init ({ frames := 1, cells := 5, slots := 156, locals := 12 }) [.ref (ad 1)] [(1, .inr (.inr (1, [1, 1, 1, 1, 1, 0])))] ad h0 [(1, .inr (.inr (1, [4, 5, 6, 7, 8, 0]))), (2, .inl 6), (3, .inl 6), (4, .inl 48), (5, .inl 48), (6, .inl 48)] [2, 3, 4, 5, 6] [1, 2, 3, 4, 5, 6] o := by
  refine ZMk.of (cc := cX1_init) (maxL := 1) (ret := none) (own := RX1) (lv0 := [(0, .ref (ad 1))]) (by decide) rfl rfl rfl rfl (Nat.le_of_ble_eq_true rfl) rfl ?_
  intro X hX hin hQ
  have hf : zfr [1, 2, 3, 4, 5, 6] h0 h0 := zfr_rf
  have fl_9 : zFld wsX1_init RX1 9 1 RX1 TX1 6 0 := ⟨by decide +kernel, by decide +kernel, by decide, rfl⟩
  have fl_15 : zFld wsX1_init RX1 15 1 RX1 TX1 6 1 := ⟨by decide +kernel, by decide +kernel, by decide, rfl⟩
  have fl_18 : zFld wsX1_init RX1 18 1 RX1 TX1 6 2 := ⟨by decide +kernel, by decide +kernel, by decide, rfl⟩
  have fl_21 : zFld wsX1_init RX1 21 1 RX1 TX1 6 3 := ⟨by decide +kernel, by decide +kernel, by decide, rfl⟩
  have fl_24 : zFld wsX1_init RX1 24 1 RX1 TX1 6 4 := ⟨by decide +kernel, by decide +kernel, by decide, rfl⟩
  have fl_27 : zFld wsX1_init RX1 27 1 RX1 TX1 6 5 := ⟨by decide +kernel, by decide +kernel, by decide, rfl⟩
  have pu_X1_5 : zPut TX1 6 5 tyX1 .int := ⟨tyX1_ok, nmX1, rfl, by decide +kernel⟩
  unfold fX1_init at hr
  refine z_aload_n hX dX1_init_0 0 rfl ?_
  refine z_objInit hX dX1_init_1 (by decide +kernel) (by decide +kernel) (by decide +kernel) (by decide) (Nat.le_of_ble_eq_true rfl) ?_
  refine z_aload_n hX dX1_init_4 0 rfl ?_
  refine z_bipush hX dX1_init_5 (by decide +kernel) ?_
  refine z_newaS (i := 2) (N := 6) (lvF := (fun ad => [(0, .ref (ad 1))])) (stF := (fun ad => [.ref (ad 1)])) (k1 := 1) (n1 := 6) (sh1 := [(1, .inr (.inr (1, [1, 1, 1, 1, 1, 0]))), (2, .inl 6)]) hX dX1_init_7 (by decide +kernel) rfl (by decide) (by decide +kernel) ⟨by decide, by decide⟩ rfl rfl rfl rfl (fun ad9 hq => by constructor <;> simp only [hq 1 (by decide)]) rfl (fun ad1 he1 => ?_)
  have hf : zfr [1, 2, 3, 4, 5, 6] h0 (hz h0 2) := zfr_hz hf (by decide)
  refine z_putRF (j := 2) (ty := (.array .int)) (sh1 := [(1, .inr (.inr (1, [4, 1, 1, 1, 1, 0]))), (2, .inl 6)]) hX hin dX1_init_9 fl_9 tyX1_ok nmX1 rfl rfl (by decide +kernel) (fun _ => ⟨rfl, rfl⟩) 0 rfl (by decide) rfl ?_
  refine z_aload_n hX dX1_init_12 0 rfl ?_
  refine z_bipush hX dX1_init_13 (by decide +kernel) ?_
  refine z_newaS (i := 3) (N := 6) (lvF := (fun ad => [(0, .ref (ad 1))])) (stF := (fun ad => [.ref (ad 1)])) (k1 := 2) (n1 := 12) (sh1 := [(1, .inr (.inr (1, [4, 1, 1, 1, 1, 0]))), (2, .inl 6), (3, .inl 6)]) hX dX1_init_15 (by decide +kernel) rfl (by decide) (by decide +kernel) ⟨by decide, by decide⟩ rfl rfl rfl rfl (fun ad9 hq => by constructor <;> simp only [hq 1 (by decide)]) rfl (fun ad2 he2 => ?_)
  have hf : zfr [1, 2, 3, 4, 5, 6] h0 (hz (hz h0 2) 3) := zfr_hz hf (by decide)
  refine z_putRF (j := 3) (ty := (.array .int)) (sh1 := [(1, .inr (.inr (1, [4, 5, 1, 1, 1, 0]))), (2, .inl 6), (3, .inl 6)]) hX hin dX1_init_17 fl_15 tyX1_ok nmX1 rfl rfl (by decide +kernel) (fun _ => ⟨rfl, rfl⟩) 0 rfl (by decide) rfl ?_
  refine z_aload_n hX dX1_init_20 0 rfl ?_
  refine z_bipush hX dX1_init_21 (by decide +kernel) ?_
  refine z_newaS (i := 4) (N := 48) (lvF := (fun ad => [(0, .ref (ad 1))])) (stF := (fun ad => [.ref (ad 1)])) (k1 := 3) (n1 := 60) (sh1 := [(1, .inr (.inr (1, [4, 5, 1, 1, 1, 0]))), (2, .inl 6), (3, .inl 6), (4, .inl 48)]) hX dX1_init_23 (by decide +kernel) rfl (by decide) (by decide +kernel) ⟨by decide, by decide⟩ rfl rfl rfl rfl (fun ad9 hq => by constructor <;> simp only [hq 1 (by decide)]) rfl (fun ad3 he3 => ?_)
  have hf : zfr [1, 2, 3, 4, 5, 6] h0 (hz (hz (hz h0 2) 3) 4) := zfr_hz hf (by decide)
  refine z_putRF (j := 4) (ty := (.array .int)) (sh1 := [(1, .inr (.inr (1, [4, 5, 6, 1, 1, 0]))), (2, .inl 6), (3, .inl 6), (4, .inl 48)]) hX hin dX1_init_25 fl_18 tyX1_ok nmX1 rfl rfl (by decide +kernel) (fun _ => ⟨rfl, rfl⟩) 0 rfl (by decide) rfl ?_
  refine z_aload_n hX dX1_init_28 0 rfl ?_
  refine z_bipush hX dX1_init_29 (by decide +kernel) ?_
  refine z_newaS (i := 5) (N := 48) (lvF := (fun ad => [(0, .ref (ad 1))])) (stF := (fun ad => [.ref (ad 1)])) (k1 := 4) (n1 := 108) (sh1 := [(1, .inr (.inr (1, [4, 5, 6, 1, 1, 0]))), (2, .inl 6), (3, .inl 6), (4, .inl 48), (5, .inl 48)]) hX dX1_init_31 (by decide +kernel) rfl (by decide) (by decide +kernel) ⟨by decide, by decide⟩ rfl rfl rfl rfl (fun ad9 hq => by constructor <;> simp only [hq 1 (by decide)]) rfl (fun ad4 he4 => ?_)
  have hf : zfr [1, 2, 3, 4, 5, 6] h0 (hz (hz (hz (hz h0 2) 3) 4) 5) := zfr_hz hf (by decide)
  refine z_putRF (j := 5) (ty := (.array .int)) (sh1 := [(1, .inr (.inr (1, [4, 5, 6, 7, 1, 0]))), (2, .inl 6), (3, .inl 6), (4, .inl 48), (5, .inl 48)]) hX hin dX1_init_33 fl_21 tyX1_ok nmX1 rfl rfl (by decide +kernel) (fun _ => ⟨rfl, rfl⟩) 0 rfl (by decide) rfl ?_
  refine z_aload_n hX dX1_init_36 0 rfl ?_
  refine z_bipush hX dX1_init_37 (by decide +kernel) ?_
  refine z_newaS (i := 6) (N := 48) (lvF := (fun ad => [(0, .ref (ad 1))])) (stF := (fun ad => [.ref (ad 1)])) (k1 := 5) (n1 := 156) (sh1 := [(1, .inr (.inr (1, [4, 5, 6, 7, 1, 0]))), (2, .inl 6), (3, .inl 6), (4, .inl 48), (5, .inl 48), (6, .inl 48)]) hX dX1_init_39 (by decide +kernel) rfl (by decide) (by decide +kernel) ⟨by decide, by decide⟩ rfl rfl rfl rfl (fun ad9 hq => by constructor <;> simp only [hq 1 (by decide)]) rfl (fun ad5 he5 => ?_)
  have hf : zfr [1, 2, 3, 4, 5, 6] h0 (hz (hz (hz (hz (hz h0 2) 3) 4) 5) 6) := zfr_hz hf (by decide)
  refine z_putRF (j := 6) (ty := (.array .int)) (sh1 := [(1, .inr (.inr (1, [4, 5, 6, 7, 8, 0]))), (2, .inl 6), (3, .inl 6), (4, .inl 48), (5, .inl 48), (6, .inl 48)]) hX hin dX1_init_41 fl_24 tyX1_ok nmX1 rfl rfl (by decide +kernel) (fun _ => ⟨rfl, rfl⟩) 0 rfl (by decide) rfl ?_
  refine z_aload_n hX dX1_init_44 0 rfl ?_
  refine z_iconst hX dX1_init_45 ?_
  refine z_putI hX dX1_init_46 fl_27 pu_X1_5 0 rfl rfl ?_
  have hf : zfr [1, 2, 3, 4, 5, 6] h0 (hs (hz (hz (hz (hz (hz h0 2) 3) 4) 5) 6) 1 5 0) := zfr_hs hf (by decide)
  obtain rfl := Option.some.inj hr
  exact hQ ad5 _ _ dX1_init_49 (fun j hj => by rw [he5 j (fun hm => hj ((by decide : ∀ x ∈ [6], x ∈ [2, 3, 4, 5, 6]) j hm)), he4 j (fun hm => hj ((by decide : ∀ x ∈ [5], x ∈ [2, 3, 4, 5, 6]) j hm)), he3 j (fun hm => hj ((by decide : ∀ x ∈ [4], x ∈ [2, 3, 4, 5, 6]) j hm)), he2 j (fun hm => hj ((by decide : ∀ x ∈ [3], x ∈ [2, 3, 4, 5, 6]) j hm)), he1 j (fun hm => hj ((by decide : ∀ x ∈ [2], x ∈ [2, 3, 4, 5, 6]) j hm))]) hf

def fX0_init (h : HS) : Option HS := (fJ7_fill_53178 (-1) (hz h 8)).bind fun r2 => some r2
set_option maxRecDepth 100000 in
set_option maxHeartbeats 4000000 in
theorem mX0_init {G : ZG} {l0 : Launch} {ad : Nat → Nat} {h0 : HS} {o : HS} (hr : fX0_init h0 = some o) : ZMk G l0 yX0_init wsX0_init ({ frames := 1, cells := 1, slots := 64, locals := 23 }) [.ref (ad 7), .ref (ad 1)] [(7, .inr (.inr (0, [1, 1])))] ad h0 [(7, .inr (.inr (0, [3, 10]))), (8, .inl 64)] [8] [7, 8] o := by
  refine ZMk.of (cc := cX0_init) (maxL := 2) (ret := none) (own := RX0) (lv0 := [(0, .ref (ad 7)), (1, .ref (ad 1))]) (by decide) rfl rfl rfl rfl (Nat.le_of_ble_eq_true rfl) rfl ?_
  intro X hX hin hQ
  have hf : zfr [7, 8] h0 h0 := zfr_rf
  have fl_9 : zFld wsX0_init RX0 9 0 RX0 TX0 2 1 := ⟨by decide +kernel, by decide +kernel, by decide, rfl⟩
  have fl_15 : zFld wsX0_init RX0 15 0 RX0 TX0 2 0 := ⟨by decide +kernel, by decide +kernel, by decide, rfl⟩
  unfold fX0_init at hr
  refine z_aload_n hX dX0_init_0 0 rfl ?_
  refine z_objInit hX dX0_init_1 (by decide +kernel) (by decide +kernel) (by decide +kernel) (by decide) (Nat.le_of_ble_eq_true rfl) ?_
  refine z_aload_n hX dX0_init_4 0 rfl ?_
  refine z_bipush hX dX0_init_5 (by decide +kernel) ?_
  refine z_newaS (i := 8) (N := 64) (lvF := (fun ad => [(0, .ref (ad 7)), (1, .ref (ad 1))])) (stF := (fun ad => [.ref (ad 7)])) (k1 := 1) (n1 := 64) (sh1 := [(7, .inr (.inr (0, [1, 1]))), (8, .inl 64)]) hX dX0_init_7 (by decide +kernel) rfl (by decide) (by decide +kernel) ⟨by decide, by decide⟩ rfl rfl rfl rfl (fun ad9 hq => by constructor <;> simp only [hq 1 (by decide), hq 7 (by decide)]) rfl (fun ad1 he1 => ?_)
  have hf : zfr [7, 8] h0 (hz h0 8) := zfr_hz hf (by decide)
  refine z_putRF (j := 8) (ty := (.array .int)) (sh1 := [(7, .inr (.inr (0, [1, 10]))), (8, .inl 64)]) hX hin dX0_init_9 fl_9 tyX0_ok nmX0 rfl rfl (by decide +kernel) (fun _ => ⟨rfl, rfl⟩) 0 rfl (by decide) rfl ?_
  refine z_aload_n hX dX0_init_12 0 rfl ?_
  refine z_aload_n hX dX0_init_13 1 rfl ?_
  refine z_putRF (j := 1) (ty := (.object "BoardNotation$Kinds")) (sh1 := [(7, .inr (.inr (0, [3, 10]))), (8, .inl 64)]) hX hin dX0_init_14 fl_15 tyX0_ok nmX0 rfl rfl (by decide +kernel) (fun _ => ⟨rfl, rfl⟩) 0 rfl (by decide) rfl ?_
  refine z_aload_n hX dX0_init_17 0 rfl ?_
  refine z_getR (j := 8) hX dX0_init_18 fl_9 0 rfl rfl ?_
  refine z_iconst hX dX0_init_21 ?_
  obtain ⟨r2, hc2, hr⟩ := z_bind hr
  refine z_callS_v (As := [.ref (ad1 8), .int (iI (-1))]) (k1 := 1) (n1 := 64) (nA := 2) hX (mJ7_fill_53178 hc2) dX0_init_22 gX0_init_J7_fill_53178 rfl ⟨by decide, by decide, by decide +kernel⟩ ⟨by decide, by decide⟩ ⟨by decide, by decide⟩ rfl rfl (Nat.le_of_ble_eq_true rfl) (by decide +kernel) rfl rfl (fun hg2 => ?_)
  have hf : zfr [7, 8] h0 r2 := zfr_tr hf (by decide) hg2
  obtain rfl := Option.some.inj hr
  exact hQ ad1 _ _ dX0_init_25 (fun j hj => by rw [he1 j (fun hm => hj ((by decide : ∀ x ∈ [8], x ∈ [8]) j hm))]) hf

def fX4_init (h : HS) : Option HS := (fX4_occupy (-1) (-1) (-1) 0 (hs (hz (hz (hz (hz (hz (hz (hz (hz h 10) 11) 12) 13) 14) 15) 16) 17) 9 8 0)).bind fun r9 => some r9.2
set_option maxRecDepth 100000 in
set_option maxHeartbeats 4000000 in
theorem mX4_init {G : ZG} {l0 : Launch} {ad : Nat → Nat} {h0 : HS} {o : HS} (hr : fX4_init h0 = some o) : ZMk G l0 yX4_init wsX4_init ({ frames := 1, cells := 8, slots := 1600, locals := 24 }) [.ref (ad 9)] [(9, .inr (.inr (4, [1, 1, 1, 1, 1, 1, 1, 1, 0])))] ad h0 [(9, .inr (.inr (4, [12, 13, 14, 15, 16, 17, 18, 19, 0]))), (10, .inl 200), (11, .inl 200), (12, .inl 200), (13, .inl 200), (14, .inl 200), (15, .inl 200), (16, .inl 200), (17, .inl 200)] [10, 11, 12, 13, 14, 15, 16, 17] [9, 10, 11, 12, 13, 14, 15, 16, 17] o := by
  refine ZMk.of (cc := cX4_init) (maxL := 1) (ret := none) (own := RX4) (lv0 := [(0, .ref (ad 9))]) (by decide) rfl rfl rfl rfl (Nat.le_of_ble_eq_true rfl) rfl ?_
  intro X hX hin hQ
  have hf : zfr [9, 10, 11, 12, 13, 14, 15, 16, 17] h0 h0 := zfr_rf
  have fl_9 : zFld wsX4_init RX4 9 4 RX4 TX4 9 0 := ⟨by decide +kernel, by decide +kernel, by decide, rfl⟩
  have fl_15 : zFld wsX4_init RX4 15 4 RX4 TX4 9 1 := ⟨by decide +kernel, by decide +kernel, by decide, rfl⟩
  have fl_18 : zFld wsX4_init RX4 18 4 RX4 TX4 9 2 := ⟨by decide +kernel, by decide +kernel, by decide, rfl⟩
  have fl_21 : zFld wsX4_init RX4 21 4 RX4 TX4 9 3 := ⟨by decide +kernel, by decide +kernel, by decide, rfl⟩
  have fl_24 : zFld wsX4_init RX4 24 4 RX4 TX4 9 4 := ⟨by decide +kernel, by decide +kernel, by decide, rfl⟩
  have fl_27 : zFld wsX4_init RX4 27 4 RX4 TX4 9 5 := ⟨by decide +kernel, by decide +kernel, by decide, rfl⟩
  have fl_30 : zFld wsX4_init RX4 30 4 RX4 TX4 9 6 := ⟨by decide +kernel, by decide +kernel, by decide, rfl⟩
  have fl_33 : zFld wsX4_init RX4 33 4 RX4 TX4 9 7 := ⟨by decide +kernel, by decide +kernel, by decide, rfl⟩
  have fl_36 : zFld wsX4_init RX4 36 4 RX4 TX4 9 8 := ⟨by decide +kernel, by decide +kernel, by decide, rfl⟩
  have pu_X4_8 : zPut TX4 9 8 tyX4 .int := ⟨tyX4_ok, nmX4, rfl, by decide +kernel⟩
  unfold fX4_init at hr
  refine z_aload_n hX dX4_init_0 0 rfl ?_
  refine z_objInit hX dX4_init_1 (by decide +kernel) (by decide +kernel) (by decide +kernel) (by decide) (Nat.le_of_ble_eq_true rfl) ?_
  refine z_aload_n hX dX4_init_4 0 rfl ?_
  refine z_sipush hX dX4_init_5 (by decide +kernel) ?_
  refine z_newaS (i := 10) (N := 200) (lvF := (fun ad => [(0, .ref (ad 9))])) (stF := (fun ad => [.ref (ad 9)])) (k1 := 1) (n1 := 200) (sh1 := [(9, .inr (.inr (4, [1, 1, 1, 1, 1, 1, 1, 1, 0]))), (10, .inl 200)]) hX dX4_init_8 (by decide +kernel) rfl (by decide) (by decide +kernel) ⟨by decide, by decide⟩ rfl rfl rfl rfl (fun ad9 hq => by constructor <;> simp only [hq 9 (by decide)]) rfl (fun ad1 he1 => ?_)
  have hf : zfr [9, 10, 11, 12, 13, 14, 15, 16, 17] h0 (hz h0 10) := zfr_hz hf (by decide)
  refine z_putRF (j := 10) (ty := (.array .int)) (sh1 := [(9, .inr (.inr (4, [12, 1, 1, 1, 1, 1, 1, 1, 0]))), (10, .inl 200)]) hX hin dX4_init_10 fl_9 tyX4_ok nmX4 rfl rfl (by decide +kernel) (fun _ => ⟨rfl, rfl⟩) 0 rfl (by decide) rfl ?_
  refine z_aload_n hX dX4_init_13 0 rfl ?_
  refine z_sipush hX dX4_init_14 (by decide +kernel) ?_
  refine z_newaS (i := 11) (N := 200) (lvF := (fun ad => [(0, .ref (ad 9))])) (stF := (fun ad => [.ref (ad 9)])) (k1 := 2) (n1 := 400) (sh1 := [(9, .inr (.inr (4, [12, 1, 1, 1, 1, 1, 1, 1, 0]))), (10, .inl 200), (11, .inl 200)]) hX dX4_init_17 (by decide +kernel) rfl (by decide) (by decide +kernel) ⟨by decide, by decide⟩ rfl rfl rfl rfl (fun ad9 hq => by constructor <;> simp only [hq 9 (by decide)]) rfl (fun ad2 he2 => ?_)
  have hf : zfr [9, 10, 11, 12, 13, 14, 15, 16, 17] h0 (hz (hz h0 10) 11) := zfr_hz hf (by decide)
  refine z_putRF (j := 11) (ty := (.array .int)) (sh1 := [(9, .inr (.inr (4, [12, 13, 1, 1, 1, 1, 1, 1, 0]))), (10, .inl 200), (11, .inl 200)]) hX hin dX4_init_19 fl_15 tyX4_ok nmX4 rfl rfl (by decide +kernel) (fun _ => ⟨rfl, rfl⟩) 0 rfl (by decide) rfl ?_
  refine z_aload_n hX dX4_init_22 0 rfl ?_
  refine z_sipush hX dX4_init_23 (by decide +kernel) ?_
  refine z_newaS (i := 12) (N := 200) (lvF := (fun ad => [(0, .ref (ad 9))])) (stF := (fun ad => [.ref (ad 9)])) (k1 := 3) (n1 := 600) (sh1 := [(9, .inr (.inr (4, [12, 13, 1, 1, 1, 1, 1, 1, 0]))), (10, .inl 200), (11, .inl 200), (12, .inl 200)]) hX dX4_init_26 (by decide +kernel) rfl (by decide) (by decide +kernel) ⟨by decide, by decide⟩ rfl rfl rfl rfl (fun ad9 hq => by constructor <;> simp only [hq 9 (by decide)]) rfl (fun ad3 he3 => ?_)
  have hf : zfr [9, 10, 11, 12, 13, 14, 15, 16, 17] h0 (hz (hz (hz h0 10) 11) 12) := zfr_hz hf (by decide)
  refine z_putRF (j := 12) (ty := (.array .int)) (sh1 := [(9, .inr (.inr (4, [12, 13, 14, 1, 1, 1, 1, 1, 0]))), (10, .inl 200), (11, .inl 200), (12, .inl 200)]) hX hin dX4_init_28 fl_18 tyX4_ok nmX4 rfl rfl (by decide +kernel) (fun _ => ⟨rfl, rfl⟩) 0 rfl (by decide) rfl ?_
  refine z_aload_n hX dX4_init_31 0 rfl ?_
  refine z_sipush hX dX4_init_32 (by decide +kernel) ?_
  refine z_newaS (i := 13) (N := 200) (lvF := (fun ad => [(0, .ref (ad 9))])) (stF := (fun ad => [.ref (ad 9)])) (k1 := 4) (n1 := 800) (sh1 := [(9, .inr (.inr (4, [12, 13, 14, 1, 1, 1, 1, 1, 0]))), (10, .inl 200), (11, .inl 200), (12, .inl 200), (13, .inl 200)]) hX dX4_init_35 (by decide +kernel) rfl (by decide) (by decide +kernel) ⟨by decide, by decide⟩ rfl rfl rfl rfl (fun ad9 hq => by constructor <;> simp only [hq 9 (by decide)]) rfl (fun ad4 he4 => ?_)
  have hf : zfr [9, 10, 11, 12, 13, 14, 15, 16, 17] h0 (hz (hz (hz (hz h0 10) 11) 12) 13) := zfr_hz hf (by decide)
  refine z_putRF (j := 13) (ty := (.array .int)) (sh1 := [(9, .inr (.inr (4, [12, 13, 14, 15, 1, 1, 1, 1, 0]))), (10, .inl 200), (11, .inl 200), (12, .inl 200), (13, .inl 200)]) hX hin dX4_init_37 fl_21 tyX4_ok nmX4 rfl rfl (by decide +kernel) (fun _ => ⟨rfl, rfl⟩) 0 rfl (by decide) rfl ?_
  refine z_aload_n hX dX4_init_40 0 rfl ?_
  refine z_sipush hX dX4_init_41 (by decide +kernel) ?_
  refine z_newaS (i := 14) (N := 200) (lvF := (fun ad => [(0, .ref (ad 9))])) (stF := (fun ad => [.ref (ad 9)])) (k1 := 5) (n1 := 1000) (sh1 := [(9, .inr (.inr (4, [12, 13, 14, 15, 1, 1, 1, 1, 0]))), (10, .inl 200), (11, .inl 200), (12, .inl 200), (13, .inl 200), (14, .inl 200)]) hX dX4_init_44 (by decide +kernel) rfl (by decide) (by decide +kernel) ⟨by decide, by decide⟩ rfl rfl rfl rfl (fun ad9 hq => by constructor <;> simp only [hq 9 (by decide)]) rfl (fun ad5 he5 => ?_)
  have hf : zfr [9, 10, 11, 12, 13, 14, 15, 16, 17] h0 (hz (hz (hz (hz (hz h0 10) 11) 12) 13) 14) := zfr_hz hf (by decide)
  refine z_putRF (j := 14) (ty := (.array .int)) (sh1 := [(9, .inr (.inr (4, [12, 13, 14, 15, 16, 1, 1, 1, 0]))), (10, .inl 200), (11, .inl 200), (12, .inl 200), (13, .inl 200), (14, .inl 200)]) hX hin dX4_init_46 fl_24 tyX4_ok nmX4 rfl rfl (by decide +kernel) (fun _ => ⟨rfl, rfl⟩) 0 rfl (by decide) rfl ?_
  refine z_aload_n hX dX4_init_49 0 rfl ?_
  refine z_sipush hX dX4_init_50 (by decide +kernel) ?_
  refine z_newaS (i := 15) (N := 200) (lvF := (fun ad => [(0, .ref (ad 9))])) (stF := (fun ad => [.ref (ad 9)])) (k1 := 6) (n1 := 1200) (sh1 := [(9, .inr (.inr (4, [12, 13, 14, 15, 16, 1, 1, 1, 0]))), (10, .inl 200), (11, .inl 200), (12, .inl 200), (13, .inl 200), (14, .inl 200), (15, .inl 200)]) hX dX4_init_53 (by decide +kernel) rfl (by decide) (by decide +kernel) ⟨by decide, by decide⟩ rfl rfl rfl rfl (fun ad9 hq => by constructor <;> simp only [hq 9 (by decide)]) rfl (fun ad6 he6 => ?_)
  have hf : zfr [9, 10, 11, 12, 13, 14, 15, 16, 17] h0 (hz (hz (hz (hz (hz (hz h0 10) 11) 12) 13) 14) 15) := zfr_hz hf (by decide)
  refine z_putRF (j := 15) (ty := (.array .int)) (sh1 := [(9, .inr (.inr (4, [12, 13, 14, 15, 16, 17, 1, 1, 0]))), (10, .inl 200), (11, .inl 200), (12, .inl 200), (13, .inl 200), (14, .inl 200), (15, .inl 200)]) hX hin dX4_init_55 fl_27 tyX4_ok nmX4 rfl rfl (by decide +kernel) (fun _ => ⟨rfl, rfl⟩) 0 rfl (by decide) rfl ?_
  refine z_aload_n hX dX4_init_58 0 rfl ?_
  refine z_sipush hX dX4_init_59 (by decide +kernel) ?_
  refine z_newaS (i := 16) (N := 200) (lvF := (fun ad => [(0, .ref (ad 9))])) (stF := (fun ad => [.ref (ad 9)])) (k1 := 7) (n1 := 1400) (sh1 := [(9, .inr (.inr (4, [12, 13, 14, 15, 16, 17, 1, 1, 0]))), (10, .inl 200), (11, .inl 200), (12, .inl 200), (13, .inl 200), (14, .inl 200), (15, .inl 200), (16, .inl 200)]) hX dX4_init_62 (by decide +kernel) rfl (by decide) (by decide +kernel) ⟨by decide, by decide⟩ rfl rfl rfl rfl (fun ad9 hq => by constructor <;> simp only [hq 9 (by decide)]) rfl (fun ad7 he7 => ?_)
  have hf : zfr [9, 10, 11, 12, 13, 14, 15, 16, 17] h0 (hz (hz (hz (hz (hz (hz (hz h0 10) 11) 12) 13) 14) 15) 16) := zfr_hz hf (by decide)
  refine z_putRF (j := 16) (ty := (.array .int)) (sh1 := [(9, .inr (.inr (4, [12, 13, 14, 15, 16, 17, 18, 1, 0]))), (10, .inl 200), (11, .inl 200), (12, .inl 200), (13, .inl 200), (14, .inl 200), (15, .inl 200), (16, .inl 200)]) hX hin dX4_init_64 fl_30 tyX4_ok nmX4 rfl rfl (by decide +kernel) (fun _ => ⟨rfl, rfl⟩) 0 rfl (by decide) rfl ?_
  refine z_aload_n hX dX4_init_67 0 rfl ?_
  refine z_sipush hX dX4_init_68 (by decide +kernel) ?_
  refine z_newaS (i := 17) (N := 200) (lvF := (fun ad => [(0, .ref (ad 9))])) (stF := (fun ad => [.ref (ad 9)])) (k1 := 8) (n1 := 1600) (sh1 := [(9, .inr (.inr (4, [12, 13, 14, 15, 16, 17, 18, 1, 0]))), (10, .inl 200), (11, .inl 200), (12, .inl 200), (13, .inl 200), (14, .inl 200), (15, .inl 200), (16, .inl 200), (17, .inl 200)]) hX dX4_init_71 (by decide +kernel) rfl (by decide) (by decide +kernel) ⟨by decide, by decide⟩ rfl rfl rfl rfl (fun ad9 hq => by constructor <;> simp only [hq 9 (by decide)]) rfl (fun ad8 he8 => ?_)
  have hf : zfr [9, 10, 11, 12, 13, 14, 15, 16, 17] h0 (hz (hz (hz (hz (hz (hz (hz (hz h0 10) 11) 12) 13) 14) 15) 16) 17) := zfr_hz hf (by decide)
  refine z_putRF (j := 17) (ty := (.array .int)) (sh1 := [(9, .inr (.inr (4, [12, 13, 14, 15, 16, 17, 18, 19, 0]))), (10, .inl 200), (11, .inl 200), (12, .inl 200), (13, .inl 200), (14, .inl 200), (15, .inl 200), (16, .inl 200), (17, .inl 200)]) hX hin dX4_init_73 fl_33 tyX4_ok nmX4 rfl rfl (by decide +kernel) (fun _ => ⟨rfl, rfl⟩) 0 rfl (by decide) rfl ?_
  refine z_aload_n hX dX4_init_76 0 rfl ?_
  refine z_iconst hX dX4_init_77 ?_
  refine z_putI hX dX4_init_78 fl_36 pu_X4_8 0 rfl rfl ?_
  have hf : zfr [9, 10, 11, 12, 13, 14, 15, 16, 17] h0 (hs (hz (hz (hz (hz (hz (hz (hz (hz h0 10) 11) 12) 13) 14) 15) 16) 17) 9 8 0) := zfr_hs hf (by decide)
  refine z_aload_n hX dX4_init_81 0 rfl ?_
  refine z_iconst hX dX4_init_82 ?_
  refine z_iconst hX dX4_init_83 ?_
  refine z_iconst hX dX4_init_84 ?_
  refine z_iconst hX dX4_init_85 ?_
  obtain ⟨r9, hc9, hr⟩ := z_bind hr
  refine z_callV_i (As := [.int (iI (-1)), .int (iI (-1)), .int (iI (-1)), .int (iI 0)]) (k1 := 8) (n1 := 1600) (nA := 4) hX (mX4_occupy hc9) dX4_init_86 gX4_init_X4_occupy rfl ⟨rfl, by decide, by decide, by decide +kernel⟩ ⟨by decide, by decide⟩ ⟨by decide, by decide⟩ 0 rfl rfl rfl rfl (Nat.le_of_ble_eq_true rfl) (by decide +kernel) rfl rfl (fun hg9 => ?_)
  have hf : zfr [9, 10, 11, 12, 13, 14, 15, 16, 17] h0 r9.2 := zfr_tr hf (by decide) hg9
  refine z_pop hX dX4_init_89 rfl ?_
  obtain rfl := Option.some.inj hr
  exact hQ ad8 _ _ dX4_init_90 (fun j hj => by rw [he8 j (fun hm => hj ((by decide : ∀ x ∈ [17], x ∈ [10, 11, 12, 13, 14, 15, 16, 17]) j hm)), he7 j (fun hm => hj ((by decide : ∀ x ∈ [16], x ∈ [10, 11, 12, 13, 14, 15, 16, 17]) j hm)), he6 j (fun hm => hj ((by decide : ∀ x ∈ [15], x ∈ [10, 11, 12, 13, 14, 15, 16, 17]) j hm)), he5 j (fun hm => hj ((by decide : ∀ x ∈ [14], x ∈ [10, 11, 12, 13, 14, 15, 16, 17]) j hm)), he4 j (fun hm => hj ((by decide : ∀ x ∈ [13], x ∈ [10, 11, 12, 13, 14, 15, 16, 17]) j hm)), he3 j (fun hm => hj ((by decide : ∀ x ∈ [12], x ∈ [10, 11, 12, 13, 14, 15, 16, 17]) j hm)), he2 j (fun hm => hj ((by decide : ∀ x ∈ [11], x ∈ [10, 11, 12, 13, 14, 15, 16, 17]) j hm)), he1 j (fun hm => hj ((by decide : ∀ x ∈ [10], x ∈ [10, 11, 12, 13, 14, 15, 16, 17]) j hm))]) hf

def fX2_init (h : HS) : Option HS := some (hs (hs (hs (hs (hs (hs (hs (hs h 18 0 (-1)) 18 1 (-1)) 18 2 (-1)) 18 3 (-1)) 18 4 (-1)) 18 5 (-1)) 18 6 (-1)) 18 7 0)
set_option maxRecDepth 100000 in
set_option maxHeartbeats 4000000 in
theorem mX2_init {G : ZG} {l0 : Launch} {ad : Nat → Nat} {h0 : HS} {o : HS} (hr : fX2_init h0 = some o) : ZMk G l0 yX2_init wsX2_init ({ frames := 1, cells := 0, slots := 0, locals := 12 }) [.ref (ad 18)] [(18, .inr (.inr (2, [0, 0, 0, 0, 0, 0, 0, 0])))] ad h0 [(18, .inr (.inr (2, [0, 0, 0, 0, 0, 0, 0, 0])))] [] [18] o := by
  refine ZMk.of (cc := cX2_init) (maxL := 1) (ret := none) (own := RX2) (lv0 := [(0, .ref (ad 18))]) (by decide) rfl rfl rfl rfl (Nat.le_of_ble_eq_true rfl) rfl ?_
  intro X hX hin hQ
  have hf : zfr [18] h0 h0 := zfr_rf
  have fl_9 : zFld wsX2_init RX2 9 2 RX2 TX2 8 0 := ⟨by decide +kernel, by decide +kernel, by decide, rfl⟩
  have fl_15 : zFld wsX2_init RX2 15 2 RX2 TX2 8 1 := ⟨by decide +kernel, by decide +kernel, by decide, rfl⟩
  have fl_18 : zFld wsX2_init RX2 18 2 RX2 TX2 8 2 := ⟨by decide +kernel, by decide +kernel, by decide, rfl⟩
  have fl_21 : zFld wsX2_init RX2 21 2 RX2 TX2 8 3 := ⟨by decide +kernel, by decide +kernel, by decide, rfl⟩
  have fl_24 : zFld wsX2_init RX2 24 2 RX2 TX2 8 4 := ⟨by decide +kernel, by decide +kernel, by decide, rfl⟩
  have fl_27 : zFld wsX2_init RX2 27 2 RX2 TX2 8 5 := ⟨by decide +kernel, by decide +kernel, by decide, rfl⟩
  have fl_30 : zFld wsX2_init RX2 30 2 RX2 TX2 8 6 := ⟨by decide +kernel, by decide +kernel, by decide, rfl⟩
  have fl_33 : zFld wsX2_init RX2 33 2 RX2 TX2 8 7 := ⟨by decide +kernel, by decide +kernel, by decide, rfl⟩
  have pu_X2_0 : zPut TX2 8 0 tyX2 .int := ⟨tyX2_ok, nmX2, rfl, by decide +kernel⟩
  have pu_X2_1 : zPut TX2 8 1 tyX2 .int := ⟨tyX2_ok, nmX2, rfl, by decide +kernel⟩
  have pu_X2_2 : zPut TX2 8 2 tyX2 .int := ⟨tyX2_ok, nmX2, rfl, by decide +kernel⟩
  have pu_X2_3 : zPut TX2 8 3 tyX2 .int := ⟨tyX2_ok, nmX2, rfl, by decide +kernel⟩
  have pu_X2_4 : zPut TX2 8 4 tyX2 .int := ⟨tyX2_ok, nmX2, rfl, by decide +kernel⟩
  have pu_X2_5 : zPut TX2 8 5 tyX2 .int := ⟨tyX2_ok, nmX2, rfl, by decide +kernel⟩
  have pu_X2_6 : zPut TX2 8 6 tyX2 .int := ⟨tyX2_ok, nmX2, rfl, by decide +kernel⟩
  have pu_X2_7 : zPut TX2 8 7 tyX2 .boolean := ⟨tyX2_ok, nmX2, rfl, by decide +kernel⟩
  unfold fX2_init at hr
  refine z_aload_n hX dX2_init_0 0 rfl ?_
  refine z_objInit hX dX2_init_1 (by decide +kernel) (by decide +kernel) (by decide +kernel) (by decide) (Nat.le_of_ble_eq_true rfl) ?_
  refine z_aload_n hX dX2_init_4 0 rfl ?_
  refine z_iconst hX dX2_init_5 ?_
  refine z_putI hX dX2_init_6 fl_9 pu_X2_0 0 rfl rfl ?_
  have hf : zfr [18] h0 (hs h0 18 0 (-1)) := zfr_hs hf (by decide)
  refine z_aload_n hX dX2_init_9 0 rfl ?_
  refine z_iconst hX dX2_init_10 ?_
  refine z_putI hX dX2_init_11 fl_15 pu_X2_1 0 rfl rfl ?_
  have hf : zfr [18] h0 (hs (hs h0 18 0 (-1)) 18 1 (-1)) := zfr_hs hf (by decide)
  refine z_aload_n hX dX2_init_14 0 rfl ?_
  refine z_iconst hX dX2_init_15 ?_
  refine z_putI hX dX2_init_16 fl_18 pu_X2_2 0 rfl rfl ?_
  have hf : zfr [18] h0 (hs (hs (hs h0 18 0 (-1)) 18 1 (-1)) 18 2 (-1)) := zfr_hs hf (by decide)
  refine z_aload_n hX dX2_init_19 0 rfl ?_
  refine z_iconst hX dX2_init_20 ?_
  refine z_putI hX dX2_init_21 fl_21 pu_X2_3 0 rfl rfl ?_
  have hf : zfr [18] h0 (hs (hs (hs (hs h0 18 0 (-1)) 18 1 (-1)) 18 2 (-1)) 18 3 (-1)) := zfr_hs hf (by decide)
  refine z_aload_n hX dX2_init_24 0 rfl ?_
  refine z_iconst hX dX2_init_25 ?_
  refine z_putI hX dX2_init_26 fl_24 pu_X2_4 0 rfl rfl ?_
  have hf : zfr [18] h0 (hs (hs (hs (hs (hs h0 18 0 (-1)) 18 1 (-1)) 18 2 (-1)) 18 3 (-1)) 18 4 (-1)) := zfr_hs hf (by decide)
  refine z_aload_n hX dX2_init_29 0 rfl ?_
  refine z_iconst hX dX2_init_30 ?_
  refine z_putI hX dX2_init_31 fl_27 pu_X2_5 0 rfl rfl ?_
  have hf : zfr [18] h0 (hs (hs (hs (hs (hs (hs h0 18 0 (-1)) 18 1 (-1)) 18 2 (-1)) 18 3 (-1)) 18 4 (-1)) 18 5 (-1)) := zfr_hs hf (by decide)
  refine z_aload_n hX dX2_init_34 0 rfl ?_
  refine z_iconst hX dX2_init_35 ?_
  refine z_putI hX dX2_init_36 fl_30 pu_X2_6 0 rfl rfl ?_
  have hf : zfr [18] h0 (hs (hs (hs (hs (hs (hs (hs h0 18 0 (-1)) 18 1 (-1)) 18 2 (-1)) 18 3 (-1)) 18 4 (-1)) 18 5 (-1)) 18 6 (-1)) := zfr_hs hf (by decide)
  refine z_aload_n hX dX2_init_39 0 rfl ?_
  refine z_iconst hX dX2_init_40 ?_
  refine z_putZ (B := some ()) (o := ()) hX dX2_init_41 fl_33 pu_X2_7 0 rfl rfl rfl (fun _ => ?_)
  have hf : zfr [18] h0 (hs (hs (hs (hs (hs (hs (hs (hs h0 18 0 (-1)) 18 1 (-1)) 18 2 (-1)) 18 3 (-1)) 18 4 (-1)) 18 5 (-1)) 18 6 (-1)) 18 7 0) := zfr_hs hf (by decide)
  obtain rfl := Option.some.inj hr
  exact hQ ad _ _ dX2_init_44 (fun _ _ => rfl) hf

def fX3_init (h : HS) : Option HS := some (hs (hs (hz h 20) 19 1 0) 19 2 0)
set_option maxRecDepth 100000 in
set_option maxHeartbeats 4000000 in
theorem mX3_init {G : ZG} {l0 : Launch} {ad : Nat → Nat} {h0 : HS} {o : HS} (hr : fX3_init h0 = some o) : ZMk G l0 yX3_init wsX3_init ({ frames := 1, cells := 1, slots := 2000, locals := 12 }) [.ref (ad 19)] [(19, .inr (.inr (3, [1, 0, 0])))] ad h0 [(19, .inr (.inr (3, [22, 0, 0]))), (20, .inl 2000)] [20] [19, 20] o := by
  refine ZMk.of (cc := cX3_init) (maxL := 1) (ret := none) (own := RX3) (lv0 := [(0, .ref (ad 19))]) (by decide) rfl rfl rfl rfl (Nat.le_of_ble_eq_true rfl) rfl ?_
  intro X hX hin hQ
  have hf : zfr [19, 20] h0 h0 := zfr_rf
  have fl_9 : zFld wsX3_init RX3 9 3 RX3 TX3 3 0 := ⟨by decide +kernel, by decide +kernel, by decide, rfl⟩
  have fl_15 : zFld wsX3_init RX3 15 3 RX3 TX3 3 1 := ⟨by decide +kernel, by decide +kernel, by decide, rfl⟩
  have fl_19 : zFld wsX3_init RX3 19 3 RX3 TX3 3 2 := ⟨by decide +kernel, by decide +kernel, by decide, rfl⟩
  have pu_X3_1 : zPut TX3 3 1 tyX3 .int := ⟨tyX3_ok, nmX3, rfl, by decide +kernel⟩
  have pu_X3_2 : zPut TX3 3 2 tyX3 .boolean := ⟨tyX3_ok, nmX3, rfl, by decide +kernel⟩
  unfold fX3_init at hr
  refine z_aload_n hX dX3_init_0 0 rfl ?_
  refine z_objInit hX dX3_init_1 (by decide +kernel) (by decide +kernel) (by decide +kernel) (by decide) (Nat.le_of_ble_eq_true rfl) ?_
  refine z_aload_n hX dX3_init_4 0 rfl ?_
  refine z_sipush hX dX3_init_5 (by decide +kernel) ?_
  refine z_newaS (i := 20) (N := 2000) (lvF := (fun ad => [(0, .ref (ad 19))])) (stF := (fun ad => [.ref (ad 19)])) (k1 := 1) (n1 := 2000) (sh1 := [(19, .inr (.inr (3, [1, 0, 0]))), (20, .inl 2000)]) hX dX3_init_8 (by decide +kernel) rfl (by decide) (by decide +kernel) ⟨by decide, by decide⟩ rfl rfl rfl rfl (fun ad9 hq => by constructor <;> simp only [hq 19 (by decide)]) rfl (fun ad1 he1 => ?_)
  have hf : zfr [19, 20] h0 (hz h0 20) := zfr_hz hf (by decide)
  refine z_putRF (j := 20) (ty := (.array .int)) (sh1 := [(19, .inr (.inr (3, [22, 0, 0]))), (20, .inl 2000)]) hX hin dX3_init_10 fl_9 tyX3_ok nmX3 rfl rfl (by decide +kernel) (fun _ => ⟨rfl, rfl⟩) 0 rfl (by decide) rfl ?_
  refine z_aload_n hX dX3_init_13 0 rfl ?_
  refine z_iconst hX dX3_init_14 ?_
  refine z_putI hX dX3_init_15 fl_15 pu_X3_1 0 rfl rfl ?_
  have hf : zfr [19, 20] h0 (hs (hz h0 20) 19 1 0) := zfr_hs hf (by decide)
  refine z_aload_n hX dX3_init_18 0 rfl ?_
  refine z_iconst hX dX3_init_19 ?_
  refine z_putZ (B := some ()) (o := ()) hX dX3_init_20 fl_19 pu_X3_2 0 rfl rfl rfl (fun _ => ?_)
  have hf : zfr [19, 20] h0 (hs (hs (hz h0 20) 19 1 0) 19 2 0) := zfr_hs hf (by decide)
  obtain rfl := Option.some.inj hr
  exact hQ ad1 _ _ dX3_init_23 (fun j hj => by rw [he1 j (fun hm => hj ((by decide : ∀ x ∈ [20], x ∈ [20]) j hm))]) hf

def fX3_init_d (h : HS) : Option HS := some (hs (hs (hz h 22) 21 1 0) 21 2 0)
set_option maxRecDepth 100000 in
set_option maxHeartbeats 4000000 in
theorem mX3_init_d {G : ZG} {l0 : Launch} {ad : Nat → Nat} {h0 : HS} {o : HS} (hr : fX3_init_d h0 = some o) : ZMk G l0 yX3_init wsX3_init ({ frames := 1, cells := 1, slots := 2000, locals := 12 }) [.ref (ad 21)] [(21, .inr (.inr (3, [1, 0, 0])))] ad h0 [(21, .inr (.inr (3, [24, 0, 0]))), (22, .inl 2000)] [22] [21, 22] o := by
  refine ZMk.of (cc := cX3_init) (maxL := 1) (ret := none) (own := RX3) (lv0 := [(0, .ref (ad 21))]) (by decide) rfl rfl rfl rfl (Nat.le_of_ble_eq_true rfl) rfl ?_
  intro X hX hin hQ
  have hf : zfr [21, 22] h0 h0 := zfr_rf
  have fl_9 : zFld wsX3_init RX3 9 3 RX3 TX3 3 0 := ⟨by decide +kernel, by decide +kernel, by decide, rfl⟩
  have fl_15 : zFld wsX3_init RX3 15 3 RX3 TX3 3 1 := ⟨by decide +kernel, by decide +kernel, by decide, rfl⟩
  have fl_19 : zFld wsX3_init RX3 19 3 RX3 TX3 3 2 := ⟨by decide +kernel, by decide +kernel, by decide, rfl⟩
  have pu_X3_1 : zPut TX3 3 1 tyX3 .int := ⟨tyX3_ok, nmX3, rfl, by decide +kernel⟩
  have pu_X3_2 : zPut TX3 3 2 tyX3 .boolean := ⟨tyX3_ok, nmX3, rfl, by decide +kernel⟩
  unfold fX3_init_d at hr
  refine z_aload_n hX dX3_init_0 0 rfl ?_
  refine z_objInit hX dX3_init_1 (by decide +kernel) (by decide +kernel) (by decide +kernel) (by decide) (Nat.le_of_ble_eq_true rfl) ?_
  refine z_aload_n hX dX3_init_4 0 rfl ?_
  refine z_sipush hX dX3_init_5 (by decide +kernel) ?_
  refine z_newaS (i := 22) (N := 2000) (lvF := (fun ad => [(0, .ref (ad 21))])) (stF := (fun ad => [.ref (ad 21)])) (k1 := 1) (n1 := 2000) (sh1 := [(21, .inr (.inr (3, [1, 0, 0]))), (22, .inl 2000)]) hX dX3_init_8 (by decide +kernel) rfl (by decide) (by decide +kernel) ⟨by decide, by decide⟩ rfl rfl rfl rfl (fun ad9 hq => by constructor <;> simp only [hq 21 (by decide)]) rfl (fun ad1 he1 => ?_)
  have hf : zfr [21, 22] h0 (hz h0 22) := zfr_hz hf (by decide)
  refine z_putRF (j := 22) (ty := (.array .int)) (sh1 := [(21, .inr (.inr (3, [24, 0, 0]))), (22, .inl 2000)]) hX hin dX3_init_10 fl_9 tyX3_ok nmX3 rfl rfl (by decide +kernel) (fun _ => ⟨rfl, rfl⟩) 0 rfl (by decide) rfl ?_
  refine z_aload_n hX dX3_init_13 0 rfl ?_
  refine z_iconst hX dX3_init_14 ?_
  refine z_putI hX dX3_init_15 fl_15 pu_X3_1 0 rfl rfl ?_
  have hf : zfr [21, 22] h0 (hs (hz h0 22) 21 1 0) := zfr_hs hf (by decide)
  refine z_aload_n hX dX3_init_18 0 rfl ?_
  refine z_iconst hX dX3_init_19 ?_
  refine z_putZ (B := some ()) (o := ()) hX dX3_init_20 fl_19 pu_X3_2 0 rfl rfl rfl (fun _ => ?_)
  have hf : zfr [21, 22] h0 (hs (hs (hz h0 22) 21 1 0) 21 2 0) := zfr_hs hf (by decide)
  obtain rfl := Option.some.inj hr
  exact hQ ad1 _ _ dX3_init_23 (fun j hj => by rw [he1 j (fun hm => hj ((by decide : ∀ x ∈ [22], x ∈ [22]) j hm))]) hf

def fX5_init (h : HS) : Option HS := (fX1_init (hz h 1)).bind fun r2 => (fX0_init (hz r2 7)).bind fun r4 => (fX4_init (hz r4 9)).bind fun r6 => (fX2_init (hz r6 18)).bind fun r8 => (fX3_init (hz (hz (hz r8 23) 24) 19)).bind fun r12 => (fX3_init_d (hz r12 21)).bind fun r14 => some (hs (hs (hs (hs (hs (hs (hs (hs r14 0 8 0) 0 9 0) 0 10 0) 0 11 (-1)) 0 12 (-1)) 0 13 (-1)) 0 14 (-1)) 0 15 (-1))
set_option maxRecDepth 100000 in
set_option maxHeartbeats 4000000 in
theorem mX5_init {G : ZG} {l0 : Launch} {ad : Nat → Nat} {h0 : HS} {o : HS} (hr : fX5_init h0 = some o) : ZMk G l0 yX5_init wsX5_init ({ frames := 2, cells := 24, slots := 8051, locals := 44 }) [.ref (ad 0)] [(0, .inr (.inr (5, [1, 1, 1, 1, 1, 1, 1, 1, 0, 0, 0, 0, 0, 0, 0, 0])))] ad h0 [(0, .inr (.inr (5, [3, 9, 11, 20, 25, 26, 21, 23, 0, 0, 0, 0, 0, 0, 0, 0]))), (1, .inr (.inr (1, [4, 5, 6, 7, 8, 0]))), (2, .inl 6), (3, .inl 6), (4, .inl 48), (5, .inl 48), (6, .inl 48), (7, .inr (.inr (0, [3, 10]))), (8, .inl 64), (9, .inr (.inr (4, [12, 13, 14, 15, 16, 17, 18, 19, 0]))), (10, .inl 200), (11, .inl 200), (12, .inl 200), (13, .inl 200), (14, .inl 200), (15, .inl 200), (16, .inl 200), (17, .inl 200), (18, .inr (.inr (2, [0, 0, 0, 0, 0, 0, 0, 0]))), (23, .inl 200), (24, .inl 2000), (19, .inr (.inr (3, [22, 0, 0]))), (20, .inl 2000), (21, .inr (.inr (3, [24, 0, 0]))), (22, .inl 2000)] [1, 2, 3, 4, 5, 6, 7, 8, 9, 10, 11, 12, 13, 14, 15, 16, 17, 18, 19, 20, 21, 22, 23, 24] [0, 1, 2, 3, 4, 5, 6, 7, 8, 9, 10, 11, 12, 13, 14, 15, 16, 17, 18, 19, 20, 21, 22, 23, 24] o := by
  refine ZMk.of (cc := cX5_init) (maxL := 1) (ret := none) (own := RX5) (lv0 := [(0, .ref (ad 0))]) (by decide) rfl rfl rfl rfl (Nat.le_of_ble_eq_true rfl) rfl ?_
  intro X hX hin hQ
  have hf : zfr [0, 1, 2, 3, 4, 5, 6, 7, 8, 9, 10, 11, 12, 13, 14, 15, 16, 17, 18, 19, 20, 21, 22, 23, 24] h0 h0 := zfr_rf
  have fl_12 : zFld wsX5_init RX5 12 5 RX5 TX5 16 0 := ⟨by decide +kernel, by decide +kernel, by decide, rfl⟩
  have fl_21 : zFld wsX5_init RX5 21 5 RX5 TX5 16 1 := ⟨by decide +kernel, by decide +kernel, by decide, rfl⟩
  have fl_28 : zFld wsX5_init RX5 28 5 RX5 TX5 16 2 := ⟨by decide +kernel, by decide +kernel, by decide, rfl⟩
  have fl_35 : zFld wsX5_init RX5 35 5 RX5 TX5 16 3 := ⟨by decide +kernel, by decide +kernel, by decide, rfl⟩
  have fl_39 : zFld wsX5_init RX5 39 5 RX5 TX5 16 4 := ⟨by decide +kernel, by decide +kernel, by decide, rfl⟩
  have fl_43 : zFld wsX5_init RX5 43 5 RX5 TX5 16 5 := ⟨by decide +kernel, by decide +kernel, by decide, rfl⟩
  have fl_49 : zFld wsX5_init RX5 49 5 RX5 TX5 16 6 := ⟨by decide +kernel, by decide +kernel, by decide, rfl⟩
  have fl_53 : zFld wsX5_init RX5 53 5 RX5 TX5 16 7 := ⟨by decide +kernel, by decide +kernel, by decide, rfl⟩
  have fl_56 : zFld wsX5_init RX5 56 5 RX5 TX5 16 8 := ⟨by decide +kernel, by decide +kernel, by decide, rfl⟩
  have fl_60 : zFld wsX5_init RX5 60 5 RX5 TX5 16 9 := ⟨by decide +kernel, by decide +kernel, by decide, rfl⟩
  have fl_63 : zFld wsX5_init RX5 63 5 RX5 TX5 16 10 := ⟨by decide +kernel, by decide +kernel, by decide, rfl⟩
  have fl_67 : zFld wsX5_init RX5 67 5 RX5 TX5 16 11 := ⟨by decide +kernel, by decide +kernel, by decide, rfl⟩
  have fl_70 : zFld wsX5_init RX5 70 5 RX5 TX5 16 12 := ⟨by decide +kernel, by decide +kernel, by decide, rfl⟩
  have fl_73 : zFld wsX5_init RX5 73 5 RX5 TX5 16 13 := ⟨by decide +kernel, by decide +kernel, by decide, rfl⟩
  have fl_76 : zFld wsX5_init RX5 76 5 RX5 TX5 16 14 := ⟨by decide +kernel, by decide +kernel, by decide, rfl⟩
  have fl_79 : zFld wsX5_init RX5 79 5 RX5 TX5 16 15 := ⟨by decide +kernel, by decide +kernel, by decide, rfl⟩
  have pu_X5_6 : zPut TX5 16 6 tyX5 (.object "BoardNotation$Text") := ⟨tyX5_ok, nmX5, rfl, by decide +kernel⟩
  have pu_X5_7 : zPut TX5 16 7 tyX5 (.object "BoardNotation$Text") := ⟨tyX5_ok, nmX5, rfl, by decide +kernel⟩
  have pu_X5_8 : zPut TX5 16 8 tyX5 .int := ⟨tyX5_ok, nmX5, rfl, by decide +kernel⟩
  have pu_X5_9 : zPut TX5 16 9 tyX5 .int := ⟨tyX5_ok, nmX5, rfl, by decide +kernel⟩
  have pu_X5_10 : zPut TX5 16 10 tyX5 .boolean := ⟨tyX5_ok, nmX5, rfl, by decide +kernel⟩
  have pu_X5_11 : zPut TX5 16 11 tyX5 .int := ⟨tyX5_ok, nmX5, rfl, by decide +kernel⟩
  have pu_X5_12 : zPut TX5 16 12 tyX5 .int := ⟨tyX5_ok, nmX5, rfl, by decide +kernel⟩
  have pu_X5_13 : zPut TX5 16 13 tyX5 .int := ⟨tyX5_ok, nmX5, rfl, by decide +kernel⟩
  have pu_X5_14 : zPut TX5 16 14 tyX5 .int := ⟨tyX5_ok, nmX5, rfl, by decide +kernel⟩
  have pu_X5_15 : zPut TX5 16 15 tyX5 .int := ⟨tyX5_ok, nmX5, rfl, by decide +kernel⟩
  unfold fX5_init at hr
  refine z_aload_n hX dX5_init_0 0 rfl ?_
  refine z_objInit hX dX5_init_1 (by decide +kernel) (by decide +kernel) (by decide +kernel) (by decide) (Nat.le_of_ble_eq_true rfl) ?_
  refine z_aload_n hX dX5_init_4 0 rfl ?_
  refine z_new (i := 1) (ci := 1) (C := RX1) (T := TX1) (N := 6) (ty := tyX1) (fs := [1, 1, 1, 1, 1, 0]) (lvF := (fun ad => [(0, .ref (ad 0))])) (stF := (fun ad => [.ref (ad 0)])) (k1 := 1) (n1 := 6) (sh1 := [(0, .inr (.inr (5, [1, 1, 1, 1, 1, 1, 1, 1, 0, 0, 0, 0, 0, 0, 0, 0]))), (1, .inr (.inr (1, [1, 1, 1, 1, 1, 0])))]) hX dX5_init_5 (by decide +kernel) tyX1_ok (by decide +kernel) (by decide +kernel) (by decide +kernel) rfl (fun ad9 j hj => by rcases (show j = 0 ∨ j = 1 ∨ j = 2 ∨ j = 3 ∨ j = 4 ∨ j = 5 by omega) with rfl | rfl | rfl | rfl | rfl | rfl <;> rfl) (by decide) (by decide +kernel) ⟨by decide, by decide⟩ rfl rfl rfl rfl (fun ad9 hq => by constructor <;> simp only [hq 0 (by decide)]) rfl (fun ad1 he1 => ?_)
  have hf : zfr [0, 1, 2, 3, 4, 5, 6, 7, 8, 9, 10, 11, 12, 13, 14, 15, 16, 17, 18, 19, 20, 21, 22, 23, 24] h0 (hz h0 1) := zfr_hz hf (by decide)
  refine z_dup hX dX5_init_8 rfl ?_
  obtain ⟨r2, hc2, hr⟩ := z_bind hr
  refine z_callIN_k (rest := [(0, .inr (.inr (5, [1, 1, 1, 1, 1, 1, 1, 1, 0, 0, 0, 0, 0, 0, 0, 0])))]) (shc := [(1, .inr (.inr (1, [1, 1, 1, 1, 1, 0])))]) (sh1 := [(1, .inr (.inr (1, [4, 5, 6, 7, 8, 0]))), (2, .inl 6), (3, .inl 6), (4, .inl 48), (5, .inl 48), (6, .inl 48)]) (sh2 := [(0, .inr (.inr (5, [1, 1, 1, 1, 1, 1, 1, 1, 0, 0, 0, 0, 0, 0, 0, 0]))), (1, .inr (.inr (1, [4, 5, 6, 7, 8, 0]))), (2, .inl 6), (3, .inl 6), (4, .inl 48), (5, .inl 48), (6, .inl 48)]) (As := []) (b := 1) (lvF := (fun ad => [(0, .ref (ad 0))])) (stF := (fun ad => [.ref (ad 1), .ref (ad 0)])) (k1 := 6) (n1 := 162) (nA := 0) hX (mX1_init hc2) dX5_init_9 ggX5_init_X1_init rfl (fun _ hn => hn.2.2.2.2.2.1) (by decide +kernel) (by decide +kernel) rfl ⟨by decide, by decide, by decide +kernel⟩ ⟨by decide, by decide⟩ ⟨by decide, by decide⟩ rfl rfl (Nat.le_of_ble_eq_true rfl) rfl (by decide) (by decide +kernel) (by decide) rfl rfl rfl rfl rfl (fun ad9 hq => by constructor <;> simp only [hq 0 (by decide), hq 1 (by decide)]) (fun ad2 he2 hg2 => ?_)
  have hf : zfr [0, 1, 2, 3, 4, 5, 6, 7, 8, 9, 10, 11, 12, 13, 14, 15, 16, 17, 18, 19, 20, 21, 22, 23, 24] h0 r2 := zfr_tr hf (by decide) hg2
  refine z_putRF (j := 1) (ty := (.object "BoardNotation$Kinds")) (sh1 := [(0, .inr (.inr (5, [3, 1, 1, 1, 1, 1, 1, 1, 0, 0, 0, 0, 0, 0, 0, 0]))), (1, .inr (.inr (1, [4, 5, 6, 7, 8, 0]))), (2, .inl 6), (3, .inl 6), (4, .inl 48), (5, .inl 48), (6, .inl 48)]) hX hin dX5_init_12 fl_12 tyX5_ok nmX5 rfl rfl (by decide +kernel) (fun _ => ⟨rfl, rfl⟩) 0 rfl (by decide) rfl ?_
  refine z_aload_n hX dX5_init_15 0 rfl ?_
  refine z_new (i := 7) (ci := 0) (C := RX0) (T := TX0) (N := 2) (ty := tyX0) (fs := [1, 1]) (lvF := (fun ad => [(0, .ref (ad 0))])) (stF := (fun ad => [.ref (ad 0)])) (k1 := 7) (n1 := 164) (sh1 := [(0, .inr (.inr (5, [3, 1, 1, 1, 1, 1, 1, 1, 0, 0, 0, 0, 0, 0, 0, 0]))), (1, .inr (.inr (1, [4, 5, 6, 7, 8, 0]))), (2, .inl 6), (3, .inl 6), (4, .inl 48), (5, .inl 48), (6, .inl 48), (7, .inr (.inr (0, [1, 1])))]) hX dX5_init_16 (by decide +kernel) tyX0_ok (by decide +kernel) (by decide +kernel) (by decide +kernel) rfl (fun ad9 j hj => by rcases (show j = 0 ∨ j = 1 by omega) with rfl | rfl <;> rfl) (by decide) (by decide +kernel) ⟨by decide, by decide⟩ rfl rfl rfl rfl (fun ad9 hq => by constructor <;> simp only [hq 0 (by decide)]) rfl (fun ad3 he3 => ?_)
  have hf : zfr [0, 1, 2, 3, 4, 5, 6, 7, 8, 9, 10, 11, 12, 13, 14, 15, 16, 17, 18, 19, 20, 21, 22, 23, 24] h0 (hz r2 7) := zfr_hz hf (by decide)
  refine z_dup hX dX5_init_19 rfl ?_
  refine z_aload_n hX dX5_init_20 0 rfl ?_
  refine z_getR (j := 1) hX dX5_init_21 fl_12 0 rfl rfl ?_
  obtain ⟨r4, hc4, hr⟩ := z_bind hr
  refine z_callI_k (rest := [(0, .inr (.inr (5, [3, 1, 1, 1, 1, 1, 1, 1, 0, 0, 0, 0, 0, 0, 0, 0]))), (1, .inr (.inr (1, [4, 5, 6, 7, 8, 0]))), (2, .inl 6), (3, .inl 6), (4, .inl 48), (5, .inl 48), (6, .inl 48)]) (shc := [(7, .inr (.inr (0, [1, 1])))]) (sh1 := [(7, .inr (.inr (0, [3, 10]))), (8, .inl 64)]) (sh2 := [(0, .inr (.inr (5, [3, 1, 1, 1, 1, 1, 1, 1, 0, 0, 0, 0, 0, 0, 0, 0]))), (1, .inr (.inr (1, [4, 5, 6, 7, 8, 0]))), (2, .inl 6), (3, .inl 6), (4, .inl 48), (5, .inl 48), (6, .inl 48), (7, .inr (.inr (0, [3, 10]))), (8, .inl 64)]) (As := [.ref (ad3 1)]) (b := 7) (lvF := (fun ad => [(0, .ref (ad 0))])) (stF := (fun ad => [.ref (ad 7), .ref (ad 0)])) (k1 := 8) (n1 := 228) (nA := 1) hX (mX0_init hc4) dX5_init_24 ggX5_init_X0_init rfl (by decide +kernel) (by decide +kernel) (by decide +kernel) rfl ⟨by decide, by decide, by decide +kernel⟩ ⟨by decide, by decide⟩ ⟨by decide, by decide⟩ rfl rfl (Nat.le_of_ble_eq_true rfl) rfl (by decide) (by decide +kernel) (by decide) rfl rfl rfl rfl rfl (fun ad9 hq => by constructor <;> simp only [hq 0 (by decide), hq 7 (by decide)]) (fun ad4 he4 hg4 => ?_)
  have hf : zfr [0, 1, 2, 3, 4, 5, 6, 7, 8, 9, 10, 11, 12, 13, 14, 15, 16, 17, 18, 19, 20, 21, 22, 23, 24] h0 r4 := zfr_tr hf (by decide) hg4
  refine z_putRF (j := 7) (ty := (.object "BoardNotation$Board")) (sh1 := [(0, .inr (.inr (5, [3, 9, 1, 1, 1, 1, 1, 1, 0, 0, 0, 0, 0, 0, 0, 0]))), (1, .inr (.inr (1, [4, 5, 6, 7, 8, 0]))), (2, .inl 6), (3, .inl 6), (4, .inl 48), (5, .inl 48), (6, .inl 48), (7, .inr (.inr (0, [3, 10]))), (8, .inl 64)]) hX hin dX5_init_27 fl_21 tyX5_ok nmX5 rfl rfl (by decide +kernel) (fun _ => ⟨rfl, rfl⟩) 0 rfl (by decide) rfl ?_
  refine z_aload_n hX dX5_init_30 0 rfl ?_
  refine z_new (i := 9) (ci := 4) (C := RX4) (T := TX4) (N := 9) (ty := tyX4) (fs := [1, 1, 1, 1, 1, 1, 1, 1, 0]) (lvF := (fun ad => [(0, .ref (ad 0))])) (stF := (fun ad => [.ref (ad 0)])) (k1 := 9) (n1 := 237) (sh1 := [(0, .inr (.inr (5, [3, 9, 1, 1, 1, 1, 1, 1, 0, 0, 0, 0, 0, 0, 0, 0]))), (1, .inr (.inr (1, [4, 5, 6, 7, 8, 0]))), (2, .inl 6), (3, .inl 6), (4, .inl 48), (5, .inl 48), (6, .inl 48), (7, .inr (.inr (0, [3, 10]))), (8, .inl 64), (9, .inr (.inr (4, [1, 1, 1, 1, 1, 1, 1, 1, 0])))]) hX dX5_init_31 (by decide +kernel) tyX4_ok (by decide +kernel) (by decide +kernel) (by decide +kernel) rfl (fun ad9 j hj => by rcases (show j = 0 ∨ j = 1 ∨ j = 2 ∨ j = 3 ∨ j = 4 ∨ j = 5 ∨ j = 6 ∨ j = 7 ∨ j = 8 by omega) with rfl | rfl | rfl | rfl | rfl | rfl | rfl | rfl | rfl <;> rfl) (by decide) (by decide +kernel) ⟨by decide, by decide⟩ rfl rfl rfl rfl (fun ad9 hq => by constructor <;> simp only [hq 0 (by decide)]) rfl (fun ad5 he5 => ?_)
  have hf : zfr [0, 1, 2, 3, 4, 5, 6, 7, 8, 9, 10, 11, 12, 13, 14, 15, 16, 17, 18, 19, 20, 21, 22, 23, 24] h0 (hz r4 9) := zfr_hz hf (by decide)
  refine z_dup hX dX5_init_34 rfl ?_
  obtain ⟨r6, hc6, hr⟩ := z_bind hr
  refine z_callI_k (rest := [(0, .inr (.inr (5, [3, 9, 1, 1, 1, 1, 1, 1, 0, 0, 0, 0, 0, 0, 0, 0]))), (1, .inr (.inr (1, [4, 5, 6, 7, 8, 0]))), (2, .inl 6), (3, .inl 6), (4, .inl 48), (5, .inl 48), (6, .inl 48), (7, .inr (.inr (0, [3, 10]))), (8, .inl 64)]) (shc := [(9, .inr (.inr (4, [1, 1, 1, 1, 1, 1, 1, 1, 0])))]) (sh1 := [(9, .inr (.inr (4, [12, 13, 14, 15, 16, 17, 18, 19, 0]))), (10, .inl 200), (11, .inl 200), (12, .inl 200), (13, .inl 200), (14, .inl 200), (15, .inl 200), (16, .inl 200), (17, .inl 200)]) (sh2 := [(0, .inr (.inr (5, [3, 9, 1, 1, 1, 1, 1, 1, 0, 0, 0, 0, 0, 0, 0, 0]))), (1, .inr (.inr (1, [4, 5, 6, 7, 8, 0]))), (2, .inl 6), (3, .inl 6), (4, .inl 48), (5, .inl 48), (6, .inl 48), (7, .inr (.inr (0, [3, 10]))), (8, .inl 64), (9, .inr (.inr (4, [12, 13, 14, 15, 16, 17, 18, 19, 0]))), (10, .inl 200), (11, .inl 200), (12, .inl 200), (13, .inl 200), (14, .inl 200), (15, .inl 200), (16, .inl 200), (17, .inl 200)]) (As := []) (b := 9) (lvF := (fun ad => [(0, .ref (ad 0))])) (stF := (fun ad => [.ref (ad 9), .ref (ad 0)])) (k1 := 17) (n1 := 1837) (nA := 0) hX (mX4_init hc6) dX5_init_35 ggX5_init_X4_init rfl (by decide +kernel) (by decide +kernel) (by decide +kernel) rfl ⟨by decide, by decide, by decide +kernel⟩ ⟨by decide, by decide⟩ ⟨by decide, by decide⟩ rfl rfl (Nat.le_of_ble_eq_true rfl) rfl (by decide) (by decide +kernel) (by decide) rfl rfl rfl rfl rfl (fun ad9 hq => by constructor <;> simp only [hq 0 (by decide), hq 9 (by decide)]) (fun ad6 he6 hg6 => ?_)
  have hf : zfr [0, 1, 2, 3, 4, 5, 6, 7, 8, 9, 10, 11, 12, 13, 14, 15, 16, 17, 18, 19, 20, 21, 22, 23, 24] h0 r6 := zfr_tr hf (by decide) hg6
  refine z_putRF (j := 9) (ty := (.object "BoardNotation$Tree")) (sh1 := [(0, .inr (.inr (5, [3, 9, 11, 1, 1, 1, 1, 1, 0, 0, 0, 0, 0, 0, 0, 0]))), (1, .inr (.inr (1, [4, 5, 6, 7, 8, 0]))), (2, .inl 6), (3, .inl 6), (4, .inl 48), (5, .inl 48), (6, .inl 48), (7, .inr (.inr (0, [3, 10]))), (8, .inl 64), (9, .inr (.inr (4, [12, 13, 14, 15, 16, 17, 18, 19, 0]))), (10, .inl 200), (11, .inl 200), (12, .inl 200), (13, .inl 200), (14, .inl 200), (15, .inl 200), (16, .inl 200), (17, .inl 200)]) hX hin dX5_init_38 fl_28 tyX5_ok nmX5 rfl rfl (by decide +kernel) (fun _ => ⟨rfl, rfl⟩) 0 rfl (by decide) rfl ?_
  refine z_aload_n hX dX5_init_41 0 rfl ?_
  refine z_new (i := 18) (ci := 2) (C := RX2) (T := TX2) (N := 8) (ty := tyX2) (fs := [0, 0, 0, 0, 0, 0, 0, 0]) (lvF := (fun ad => [(0, .ref (ad 0))])) (stF := (fun ad => [.ref (ad 0)])) (k1 := 18) (n1 := 1845) (sh1 := [(0, .inr (.inr (5, [3, 9, 11, 1, 1, 1, 1, 1, 0, 0, 0, 0, 0, 0, 0, 0]))), (1, .inr (.inr (1, [4, 5, 6, 7, 8, 0]))), (2, .inl 6), (3, .inl 6), (4, .inl 48), (5, .inl 48), (6, .inl 48), (7, .inr (.inr (0, [3, 10]))), (8, .inl 64), (9, .inr (.inr (4, [12, 13, 14, 15, 16, 17, 18, 19, 0]))), (10, .inl 200), (11, .inl 200), (12, .inl 200), (13, .inl 200), (14, .inl 200), (15, .inl 200), (16, .inl 200), (17, .inl 200), (18, .inr (.inr (2, [0, 0, 0, 0, 0, 0, 0, 0])))]) hX dX5_init_42 (by decide +kernel) tyX2_ok (by decide +kernel) (by decide +kernel) (by decide +kernel) rfl (fun ad9 j hj => by rcases (show j = 0 ∨ j = 1 ∨ j = 2 ∨ j = 3 ∨ j = 4 ∨ j = 5 ∨ j = 6 ∨ j = 7 by omega) with rfl | rfl | rfl | rfl | rfl | rfl | rfl | rfl <;> rfl) (by decide) (by decide +kernel) ⟨by decide, by decide⟩ rfl rfl rfl rfl (fun ad9 hq => by constructor <;> simp only [hq 0 (by decide)]) rfl (fun ad7 he7 => ?_)
  have hf : zfr [0, 1, 2, 3, 4, 5, 6, 7, 8, 9, 10, 11, 12, 13, 14, 15, 16, 17, 18, 19, 20, 21, 22, 23, 24] h0 (hz r6 18) := zfr_hz hf (by decide)
  refine z_dup hX dX5_init_45 rfl ?_
  obtain ⟨r8, hc8, hr⟩ := z_bind hr
  refine z_callIN_k (rest := [(0, .inr (.inr (5, [3, 9, 11, 1, 1, 1, 1, 1, 0, 0, 0, 0, 0, 0, 0, 0]))), (1, .inr (.inr (1, [4, 5, 6, 7, 8, 0]))), (2, .inl 6), (3, .inl 6), (4, .inl 48), (5, .inl 48), (6, .inl 48), (7, .inr (.inr (0, [3, 10]))), (8, .inl 64), (9, .inr (.inr (4, [12, 13, 14, 15, 16, 17, 18, 19, 0]))), (10, .inl 200), (11, .inl 200), (12, .inl 200), (13, .inl 200), (14, .inl 200), (15, .inl 200), (16, .inl 200), (17, .inl 200)]) (shc := [(18, .inr (.inr (2, [0, 0, 0, 0, 0, 0, 0, 0])))]) (sh1 := [(18, .inr (.inr (2, [0, 0, 0, 0, 0, 0, 0, 0])))]) (sh2 := [(0, .inr (.inr (5, [3, 9, 11, 1, 1, 1, 1, 1, 0, 0, 0, 0, 0, 0, 0, 0]))), (1, .inr (.inr (1, [4, 5, 6, 7, 8, 0]))), (2, .inl 6), (3, .inl 6), (4, .inl 48), (5, .inl 48), (6, .inl 48), (7, .inr (.inr (0, [3, 10]))), (8, .inl 64), (9, .inr (.inr (4, [12, 13, 14, 15, 16, 17, 18, 19, 0]))), (10, .inl 200), (11, .inl 200), (12, .inl 200), (13, .inl 200), (14, .inl 200), (15, .inl 200), (16, .inl 200), (17, .inl 200), (18, .inr (.inr (2, [0, 0, 0, 0, 0, 0, 0, 0])))]) (As := []) (b := 18) (lvF := (fun ad => [(0, .ref (ad 0))])) (stF := (fun ad => [.ref (ad 18), .ref (ad 0)])) (k1 := 18) (n1 := 1845) (nA := 0) hX (mX2_init hc8) dX5_init_46 ggX5_init_X2_init rfl (fun _ hn => hn.2.2.2.2.2.2.1) (by decide +kernel) (by decide +kernel) rfl ⟨by decide, by decide, by decide +kernel⟩ ⟨by decide, by decide⟩ ⟨by decide, by decide⟩ rfl rfl (Nat.le_of_ble_eq_true rfl) rfl (by decide) (by decide +kernel) (by decide) rfl rfl rfl rfl rfl (fun ad9 hq => by constructor <;> simp only [hq 0 (by decide), hq 18 (by decide)]) (fun ad8 he8 hg8 => ?_)
  have hf : zfr [0, 1, 2, 3, 4, 5, 6, 7, 8, 9, 10, 11, 12, 13, 14, 15, 16, 17, 18, 19, 20, 21, 22, 23, 24] h0 r8 := zfr_tr hf (by decide) hg8
  refine z_putRF (j := 18) (ty := (.object "BoardNotation$ShortForm")) (sh1 := [(0, .inr (.inr (5, [3, 9, 11, 20, 1, 1, 1, 1, 0, 0, 0, 0, 0, 0, 0, 0]))), (1, .inr (.inr (1, [4, 5, 6, 7, 8, 0]))), (2, .inl 6), (3, .inl 6), (4, .inl 48), (5, .inl 48), (6, .inl 48), (7, .inr (.inr (0, [3, 10]))), (8, .inl 64), (9, .inr (.inr (4, [12, 13, 14, 15, 16, 17, 18, 19, 0]))), (10, .inl 200), (11, .inl 200), (12, .inl 200), (13, .inl 200), (14, .inl 200), (15, .inl 200), (16, .inl 200), (17, .inl 200), (18, .inr (.inr (2, [0, 0, 0, 0, 0, 0, 0, 0])))]) hX hin dX5_init_49 fl_35 tyX5_ok nmX5 rfl rfl (by decide +kernel) (fun _ => ⟨rfl, rfl⟩) 0 rfl (by decide) rfl ?_
  refine z_aload_n hX dX5_init_52 0 rfl ?_
  refine z_sipush hX dX5_init_53 (by decide +kernel) ?_
  refine z_newaS (i := 23) (N := 200) (lvF := (fun ad => [(0, .ref (ad 0))])) (stF := (fun ad => [.ref (ad 0)])) (k1 := 19) (n1 := 2045) (sh1 := [(0, .inr (.inr (5, [3, 9, 11, 20, 1, 1, 1, 1, 0, 0, 0, 0, 0, 0, 0, 0]))), (1, .inr (.inr (1, [4, 5, 6, 7, 8, 0]))), (2, .inl 6), (3, .inl 6), (4, .inl 48), (5, .inl 48), (6, .inl 48), (7, .inr (.inr (0, [3, 10]))), (8, .inl 64), (9, .inr (.inr (4, [12, 13, 14, 15, 16, 17, 18, 19, 0]))), (10, .inl 200), (11, .inl 200), (12, .inl 200), (13, .inl 200), (14, .inl 200), (15, .inl 200), (16, .inl 200), (17, .inl 200), (18, .inr (.inr (2, [0, 0, 0, 0, 0, 0, 0, 0]))), (23, .inl 200)]) hX dX5_init_56 (by decide +kernel) rfl (by decide) (by decide +kernel) ⟨by decide, by decide⟩ rfl rfl rfl rfl (fun ad9 hq => by constructor <;> simp only [hq 0 (by decide)]) rfl (fun ad9 he9 => ?_)
  have hf : zfr [0, 1, 2, 3, 4, 5, 6, 7, 8, 9, 10, 11, 12, 13, 14, 15, 16, 17, 18, 19, 20, 21, 22, 23, 24] h0 (hz r8 23) := zfr_hz hf (by decide)
  refine z_putRF (j := 23) (ty := (.array .int)) (sh1 := [(0, .inr (.inr (5, [3, 9, 11, 20, 25, 1, 1, 1, 0, 0, 0, 0, 0, 0, 0, 0]))), (1, .inr (.inr (1, [4, 5, 6, 7, 8, 0]))), (2, .inl 6), (3, .inl 6), (4, .inl 48), (5, .inl 48), (6, .inl 48), (7, .inr (.inr (0, [3, 10]))), (8, .inl 64), (9, .inr (.inr (4, [12, 13, 14, 15, 16, 17, 18, 19, 0]))), (10, .inl 200), (11, .inl 200), (12, .inl 200), (13, .inl 200), (14, .inl 200), (15, .inl 200), (16, .inl 200), (17, .inl 200), (18, .inr (.inr (2, [0, 0, 0, 0, 0, 0, 0, 0]))), (23, .inl 200)]) hX hin dX5_init_58 fl_39 tyX5_ok nmX5 rfl rfl (by decide +kernel) (fun _ => ⟨rfl, rfl⟩) 0 rfl (by decide) rfl ?_
  refine z_aload_n hX dX5_init_61 0 rfl ?_
  refine z_sipush hX dX5_init_62 (by decide +kernel) ?_
  refine z_newaS (i := 24) (N := 2000) (lvF := (fun ad => [(0, .ref (ad 0))])) (stF := (fun ad => [.ref (ad 0)])) (k1 := 20) (n1 := 4045) (sh1 := [(0, .inr (.inr (5, [3, 9, 11, 20, 25, 1, 1, 1, 0, 0, 0, 0, 0, 0, 0, 0]))), (1, .inr (.inr (1, [4, 5, 6, 7, 8, 0]))), (2, .inl 6), (3, .inl 6), (4, .inl 48), (5, .inl 48), (6, .inl 48), (7, .inr (.inr (0, [3, 10]))), (8, .inl 64), (9, .inr (.inr (4, [12, 13, 14, 15, 16, 17, 18, 19, 0]))), (10, .inl 200), (11, .inl 200), (12, .inl 200), (13, .inl 200), (14, .inl 200), (15, .inl 200), (16, .inl 200), (17, .inl 200), (18, .inr (.inr (2, [0, 0, 0, 0, 0, 0, 0, 0]))), (23, .inl 200), (24, .inl 2000)]) hX dX5_init_65 (by decide +kernel) rfl (by decide) (by decide +kernel) ⟨by decide, by decide⟩ rfl rfl rfl rfl (fun ad9 hq => by constructor <;> simp only [hq 0 (by decide)]) rfl (fun ad10 he10 => ?_)
  have hf : zfr [0, 1, 2, 3, 4, 5, 6, 7, 8, 9, 10, 11, 12, 13, 14, 15, 16, 17, 18, 19, 20, 21, 22, 23, 24] h0 (hz (hz r8 23) 24) := zfr_hz hf (by decide)
  refine z_putRF (j := 24) (ty := (.array .int)) (sh1 := [(0, .inr (.inr (5, [3, 9, 11, 20, 25, 26, 1, 1, 0, 0, 0, 0, 0, 0, 0, 0]))), (1, .inr (.inr (1, [4, 5, 6, 7, 8, 0]))), (2, .inl 6), (3, .inl 6), (4, .inl 48), (5, .inl 48), (6, .inl 48), (7, .inr (.inr (0, [3, 10]))), (8, .inl 64), (9, .inr (.inr (4, [12, 13, 14, 15, 16, 17, 18, 19, 0]))), (10, .inl 200), (11, .inl 200), (12, .inl 200), (13, .inl 200), (14, .inl 200), (15, .inl 200), (16, .inl 200), (17, .inl 200), (18, .inr (.inr (2, [0, 0, 0, 0, 0, 0, 0, 0]))), (23, .inl 200), (24, .inl 2000)]) hX hin dX5_init_67 fl_43 tyX5_ok nmX5 rfl rfl (by decide +kernel) (fun _ => ⟨rfl, rfl⟩) 0 rfl (by decide) rfl ?_
  refine z_aload_n hX dX5_init_70 0 rfl ?_
  refine z_new (i := 19) (ci := 3) (C := RX3) (T := TX3) (N := 3) (ty := tyX3) (fs := [1, 0, 0]) (lvF := (fun ad => [(0, .ref (ad 0))])) (stF := (fun ad => [.ref (ad 0)])) (k1 := 21) (n1 := 4048) (sh1 := [(0, .inr (.inr (5, [3, 9, 11, 20, 25, 26, 1, 1, 0, 0, 0, 0, 0, 0, 0, 0]))), (1, .inr (.inr (1, [4, 5, 6, 7, 8, 0]))), (2, .inl 6), (3, .inl 6), (4, .inl 48), (5, .inl 48), (6, .inl 48), (7, .inr (.inr (0, [3, 10]))), (8, .inl 64), (9, .inr (.inr (4, [12, 13, 14, 15, 16, 17, 18, 19, 0]))), (10, .inl 200), (11, .inl 200), (12, .inl 200), (13, .inl 200), (14, .inl 200), (15, .inl 200), (16, .inl 200), (17, .inl 200), (18, .inr (.inr (2, [0, 0, 0, 0, 0, 0, 0, 0]))), (23, .inl 200), (24, .inl 2000), (19, .inr (.inr (3, [1, 0, 0])))]) hX dX5_init_71 (by decide +kernel) tyX3_ok (by decide +kernel) (by decide +kernel) (by decide +kernel) rfl (fun ad9 j hj => by rcases (show j = 0 ∨ j = 1 ∨ j = 2 by omega) with rfl | rfl | rfl <;> rfl) (by decide) (by decide +kernel) ⟨by decide, by decide⟩ rfl rfl rfl rfl (fun ad9 hq => by constructor <;> simp only [hq 0 (by decide)]) rfl (fun ad11 he11 => ?_)
  have hf : zfr [0, 1, 2, 3, 4, 5, 6, 7, 8, 9, 10, 11, 12, 13, 14, 15, 16, 17, 18, 19, 20, 21, 22, 23, 24] h0 (hz (hz (hz r8 23) 24) 19) := zfr_hz hf (by decide)
  refine z_dup hX dX5_init_74 rfl ?_
  obtain ⟨r12, hc12, hr⟩ := z_bind hr
  refine z_callIN_k (rest := [(0, .inr (.inr (5, [3, 9, 11, 20, 25, 26, 1, 1, 0, 0, 0, 0, 0, 0, 0, 0]))), (1, .inr (.inr (1, [4, 5, 6, 7, 8, 0]))), (2, .inl 6), (3, .inl 6), (4, .inl 48), (5, .inl 48), (6, .inl 48), (7, .inr (.inr (0, [3, 10]))), (8, .inl 64), (9, .inr (.inr (4, [12, 13, 14, 15, 16, 17, 18, 19, 0]))), (10, .inl 200), (11, .inl 200), (12, .inl 200), (13, .inl 200), (14, .inl 200), (15, .inl 200), (16, .inl 200), (17, .inl 200), (18, .inr (.inr (2, [0, 0, 0, 0, 0, 0, 0, 0]))), (23, .inl 200), (24, .inl 2000)]) (shc := [(19, .inr (.inr (3, [1, 0, 0])))]) (sh1 := [(19, .inr (.inr (3, [22, 0, 0]))), (20, .inl 2000)]) (sh2 := [(0, .inr (.inr (5, [3, 9, 11, 20, 25, 26, 1, 1, 0, 0, 0, 0, 0, 0, 0, 0]))), (1, .inr (.inr (1, [4, 5, 6, 7, 8, 0]))), (2, .inl 6), (3, .inl 6), (4, .inl 48), (5, .inl 48), (6, .inl 48), (7, .inr (.inr (0, [3, 10]))), (8, .inl 64), (9, .inr (.inr (4, [12, 13, 14, 15, 16, 17, 18, 19, 0]))), (10, .inl 200), (11, .inl 200), (12, .inl 200), (13, .inl 200), (14, .inl 200), (15, .inl 200), (16, .inl 200), (17, .inl 200), (18, .inr (.inr (2, [0, 0, 0, 0, 0, 0, 0, 0]))), (23, .inl 200), (24, .inl 2000), (19, .inr (.inr (3, [22, 0, 0]))), (20, .inl 2000)]) (As := []) (b := 19) (lvF := (fun ad => [(0, .ref (ad 0))])) (stF := (fun ad => [.ref (ad 19), .ref (ad 0)])) (k1 := 22) (n1 := 6048) (nA := 0) hX (mX3_init hc12) dX5_init_75 ggX5_init_X3_init rfl (fun _ hn => hn.2.2.2.2.2.2.2.1) (by decide +kernel) (by decide +kernel) rfl ⟨by decide, by decide, by decide +kernel⟩ ⟨by decide, by decide⟩ ⟨by decide, by decide⟩ rfl rfl (Nat.le_of_ble_eq_true rfl) rfl (by decide) (by decide +kernel) (by decide) rfl rfl rfl rfl rfl (fun ad9 hq => by constructor <;> simp only [hq 0 (by decide), hq 19 (by decide)]) (fun ad12 he12 hg12 => ?_)
  have hf : zfr [0, 1, 2, 3, 4, 5, 6, 7, 8, 9, 10, 11, 12, 13, 14, 15, 16, 17, 18, 19, 20, 21, 22, 23, 24] h0 r12 := zfr_tr hf (by decide) hg12
  refine z_putRn (j := 19) (D := "BoardNotation$Text") (sh1 := [(0, .inr (.inr (5, [3, 9, 11, 20, 25, 26, 21, 1, 0, 0, 0, 0, 0, 0, 0, 0]))), (1, .inr (.inr (1, [4, 5, 6, 7, 8, 0]))), (2, .inl 6), (3, .inl 6), (4, .inl 48), (5, .inl 48), (6, .inl 48), (7, .inr (.inr (0, [3, 10]))), (8, .inl 64), (9, .inr (.inr (4, [12, 13, 14, 15, 16, 17, 18, 19, 0]))), (10, .inl 200), (11, .inl 200), (12, .inl 200), (13, .inl 200), (14, .inl 200), (15, .inl 200), (16, .inl 200), (17, .inl 200), (18, .inr (.inr (2, [0, 0, 0, 0, 0, 0, 0, 0]))), (23, .inl 200), (24, .inl 2000), (19, .inr (.inr (3, [22, 0, 0]))), (20, .inl 2000)]) hX dX5_init_78 fl_49 pu_X5_6 0 rfl (by decide) rfl ?_
  refine z_aload_n hX dX5_init_81 0 rfl ?_
  refine z_new (i := 21) (ci := 3) (C := RX3) (T := TX3) (N := 3) (ty := tyX3) (fs := [1, 0, 0]) (lvF := (fun ad => [(0, .ref (ad 0))])) (stF := (fun ad => [.ref (ad 0)])) (k1 := 23) (n1 := 6051) (sh1 := [(0, .inr (.inr (5, [3, 9, 11, 20, 25, 26, 21, 1, 0, 0, 0, 0, 0, 0, 0, 0]))), (1, .inr (.inr (1, [4, 5, 6, 7, 8, 0]))), (2, .inl 6), (3, .inl 6), (4, .inl 48), (5, .inl 48), (6, .inl 48), (7, .inr (.inr (0, [3, 10]))), (8, .inl 64), (9, .inr (.inr (4, [12, 13, 14, 15, 16, 17, 18, 19, 0]))), (10, .inl 200), (11, .inl 200), (12, .inl 200), (13, .inl 200), (14, .inl 200), (15, .inl 200), (16, .inl 200), (17, .inl 200), (18, .inr (.inr (2, [0, 0, 0, 0, 0, 0, 0, 0]))), (23, .inl 200), (24, .inl 2000), (19, .inr (.inr (3, [22, 0, 0]))), (20, .inl 2000), (21, .inr (.inr (3, [1, 0, 0])))]) hX dX5_init_82 (by decide +kernel) tyX3_ok (by decide +kernel) (by decide +kernel) (by decide +kernel) rfl (fun ad9 j hj => by rcases (show j = 0 ∨ j = 1 ∨ j = 2 by omega) with rfl | rfl | rfl <;> rfl) (by decide) (by decide +kernel) ⟨by decide, by decide⟩ rfl rfl rfl rfl (fun ad9 hq => by constructor <;> simp only [hq 0 (by decide)]) rfl (fun ad13 he13 => ?_)
  have hf : zfr [0, 1, 2, 3, 4, 5, 6, 7, 8, 9, 10, 11, 12, 13, 14, 15, 16, 17, 18, 19, 20, 21, 22, 23, 24] h0 (hz r12 21) := zfr_hz hf (by decide)
  refine z_dup hX dX5_init_85 rfl ?_
  obtain ⟨r14, hc14, hr⟩ := z_bind hr
  refine z_callIN_k (rest := [(0, .inr (.inr (5, [3, 9, 11, 20, 25, 26, 21, 1, 0, 0, 0, 0, 0, 0, 0, 0]))), (1, .inr (.inr (1, [4, 5, 6, 7, 8, 0]))), (2, .inl 6), (3, .inl 6), (4, .inl 48), (5, .inl 48), (6, .inl 48), (7, .inr (.inr (0, [3, 10]))), (8, .inl 64), (9, .inr (.inr (4, [12, 13, 14, 15, 16, 17, 18, 19, 0]))), (10, .inl 200), (11, .inl 200), (12, .inl 200), (13, .inl 200), (14, .inl 200), (15, .inl 200), (16, .inl 200), (17, .inl 200), (18, .inr (.inr (2, [0, 0, 0, 0, 0, 0, 0, 0]))), (23, .inl 200), (24, .inl 2000), (19, .inr (.inr (3, [22, 0, 0]))), (20, .inl 2000)]) (shc := [(21, .inr (.inr (3, [1, 0, 0])))]) (sh1 := [(21, .inr (.inr (3, [24, 0, 0]))), (22, .inl 2000)]) (sh2 := [(0, .inr (.inr (5, [3, 9, 11, 20, 25, 26, 21, 1, 0, 0, 0, 0, 0, 0, 0, 0]))), (1, .inr (.inr (1, [4, 5, 6, 7, 8, 0]))), (2, .inl 6), (3, .inl 6), (4, .inl 48), (5, .inl 48), (6, .inl 48), (7, .inr (.inr (0, [3, 10]))), (8, .inl 64), (9, .inr (.inr (4, [12, 13, 14, 15, 16, 17, 18, 19, 0]))), (10, .inl 200), (11, .inl 200), (12, .inl 200), (13, .inl 200), (14, .inl 200), (15, .inl 200), (16, .inl 200), (17, .inl 200), (18, .inr (.inr (2, [0, 0, 0, 0, 0, 0, 0, 0]))), (23, .inl 200), (24, .inl 2000), (19, .inr (.inr (3, [22, 0, 0]))), (20, .inl 2000), (21, .inr (.inr (3, [24, 0, 0]))), (22, .inl 2000)]) (As := []) (b := 21) (lvF := (fun ad => [(0, .ref (ad 0))])) (stF := (fun ad => [.ref (ad 21), .ref (ad 0)])) (k1 := 24) (n1 := 8051) (nA := 0) hX (mX3_init_d hc14) dX5_init_86 ggX5_init_X3_init rfl (fun _ hn => hn.2.2.2.2.2.2.2.1) (by decide +kernel) (by decide +kernel) rfl ⟨by decide, by decide, by decide +kernel⟩ ⟨by decide, by decide⟩ ⟨by decide, by decide⟩ rfl rfl (Nat.le_of_ble_eq_true rfl) rfl (by decide) (by decide +kernel) (by decide) rfl rfl rfl rfl rfl (fun ad9 hq => by constructor <;> simp only [hq 0 (by decide), hq 21 (by decide)]) (fun ad14 he14 hg14 => ?_)
  have hf : zfr [0, 1, 2, 3, 4, 5, 6, 7, 8, 9, 10, 11, 12, 13, 14, 15, 16, 17, 18, 19, 20, 21, 22, 23, 24] h0 r14 := zfr_tr hf (by decide) hg14
  refine z_putRn (j := 21) (D := "BoardNotation$Text") (sh1 := [(0, .inr (.inr (5, [3, 9, 11, 20, 25, 26, 21, 23, 0, 0, 0, 0, 0, 0, 0, 0]))), (1, .inr (.inr (1, [4, 5, 6, 7, 8, 0]))), (2, .inl 6), (3, .inl 6), (4, .inl 48), (5, .inl 48), (6, .inl 48), (7, .inr (.inr (0, [3, 10]))), (8, .inl 64), (9, .inr (.inr (4, [12, 13, 14, 15, 16, 17, 18, 19, 0]))), (10, .inl 200), (11, .inl 200), (12, .inl 200), (13, .inl 200), (14, .inl 200), (15, .inl 200), (16, .inl 200), (17, .inl 200), (18, .inr (.inr (2, [0, 0, 0, 0, 0, 0, 0, 0]))), (23, .inl 200), (24, .inl 2000), (19, .inr (.inr (3, [22, 0, 0]))), (20, .inl 2000), (21, .inr (.inr (3, [24, 0, 0]))), (22, .inl 2000)]) hX dX5_init_89 fl_53 pu_X5_7 0 rfl (by decide) rfl ?_
  refine z_aload_n hX dX5_init_92 0 rfl ?_
  refine z_iconst hX dX5_init_93 ?_
  refine z_putI hX dX5_init_94 fl_56 pu_X5_8 0 rfl rfl ?_
  have hf : zfr [0, 1, 2, 3, 4, 5, 6, 7, 8, 9, 10, 11, 12, 13, 14, 15, 16, 17, 18, 19, 20, 21, 22, 23, 24] h0 (hs r14 0 8 0) := zfr_hs hf (by decide)
  refine z_aload_n hX dX5_init_97 0 rfl ?_
  refine z_iconst hX dX5_init_98 ?_
  refine z_putI hX dX5_init_99 fl_60 pu_X5_9 0 rfl rfl ?_
  have hf : zfr [0, 1, 2, 3, 4, 5, 6, 7, 8, 9, 10, 11, 12, 13, 14, 15, 16, 17, 18, 19, 20, 21, 22, 23, 24] h0 (hs (hs r14 0 8 0) 0 9 0) := zfr_hs hf (by decide)
  refine z_aload_n hX dX5_init_102 0 rfl ?_
  refine z_iconst hX dX5_init_103 ?_
  refine z_putZ (B := some ()) (o := ()) hX dX5_init_104 fl_63 pu_X5_10 0 rfl rfl rfl (fun _ => ?_)
  have hf : zfr [0, 1, 2, 3, 4, 5, 6, 7, 8, 9, 10, 11, 12, 13, 14, 15, 16, 17, 18, 19, 20, 21, 22, 23, 24] h0 (hs (hs (hs r14 0 8 0) 0 9 0) 0 10 0) := zfr_hs hf (by decide)
  refine z_aload_n hX dX5_init_107 0 rfl ?_
  refine z_iconst hX dX5_init_108 ?_
  refine z_putI hX dX5_init_109 fl_67 pu_X5_11 0 rfl rfl ?_
  have hf : zfr [0, 1, 2, 3, 4, 5, 6, 7, 8, 9, 10, 11, 12, 13, 14, 15, 16, 17, 18, 19, 20, 21, 22, 23, 24] h0 (hs (hs (hs (hs r14 0 8 0) 0 9 0) 0 10 0) 0 11 (-1)) := zfr_hs hf (by decide)
  refine z_aload_n hX dX5_init_112 0 rfl ?_
  refine z_iconst hX dX5_init_113 ?_
  refine z_putI hX dX5_init_114 fl_70 pu_X5_12 0 rfl rfl ?_
  have hf : zfr [0, 1, 2, 3, 4, 5, 6, 7, 8, 9, 10, 11, 12, 13, 14, 15, 16, 17, 18, 19, 20, 21, 22, 23, 24] h0 (hs (hs (hs (hs (hs r14 0 8 0) 0 9 0) 0 10 0) 0 11 (-1)) 0 12 (-1)) := zfr_hs hf (by decide)
  refine z_aload_n hX dX5_init_117 0 rfl ?_
  refine z_iconst hX dX5_init_118 ?_
  refine z_putI hX dX5_init_119 fl_73 pu_X5_13 0 rfl rfl ?_
  have hf : zfr [0, 1, 2, 3, 4, 5, 6, 7, 8, 9, 10, 11, 12, 13, 14, 15, 16, 17, 18, 19, 20, 21, 22, 23, 24] h0 (hs (hs (hs (hs (hs (hs r14 0 8 0) 0 9 0) 0 10 0) 0 11 (-1)) 0 12 (-1)) 0 13 (-1)) := zfr_hs hf (by decide)
  refine z_aload_n hX dX5_init_122 0 rfl ?_
  refine z_iconst hX dX5_init_123 ?_
  refine z_putI hX dX5_init_124 fl_76 pu_X5_14 0 rfl rfl ?_
  have hf : zfr [0, 1, 2, 3, 4, 5, 6, 7, 8, 9, 10, 11, 12, 13, 14, 15, 16, 17, 18, 19, 20, 21, 22, 23, 24] h0 (hs (hs (hs (hs (hs (hs (hs r14 0 8 0) 0 9 0) 0 10 0) 0 11 (-1)) 0 12 (-1)) 0 13 (-1)) 0 14 (-1)) := zfr_hs hf (by decide)
  refine z_aload_n hX dX5_init_127 0 rfl ?_
  refine z_iconst hX dX5_init_128 ?_
  refine z_putI hX dX5_init_129 fl_79 pu_X5_15 0 rfl rfl ?_
  have hf : zfr [0, 1, 2, 3, 4, 5, 6, 7, 8, 9, 10, 11, 12, 13, 14, 15, 16, 17, 18, 19, 20, 21, 22, 23, 24] h0 (hs (hs (hs (hs (hs (hs (hs (hs r14 0 8 0) 0 9 0) 0 10 0) 0 11 (-1)) 0 12 (-1)) 0 13 (-1)) 0 14 (-1)) 0 15 (-1)) := zfr_hs hf (by decide)
  obtain rfl := Option.some.inj hr
  exact hQ ad14 _ _ dX5_init_132 (fun j hj => by rw [he14 j (fun hm => hj ((by decide : ∀ x ∈ [22], x ∈ [1, 2, 3, 4, 5, 6, 7, 8, 9, 10, 11, 12, 13, 14, 15, 16, 17, 18, 19, 20, 21, 22, 23, 24]) j hm)), he13 j (fun hm => hj ((by decide : ∀ x ∈ [21], x ∈ [1, 2, 3, 4, 5, 6, 7, 8, 9, 10, 11, 12, 13, 14, 15, 16, 17, 18, 19, 20, 21, 22, 23, 24]) j hm)), he12 j (fun hm => hj ((by decide : ∀ x ∈ [20], x ∈ [1, 2, 3, 4, 5, 6, 7, 8, 9, 10, 11, 12, 13, 14, 15, 16, 17, 18, 19, 20, 21, 22, 23, 24]) j hm)), he11 j (fun hm => hj ((by decide : ∀ x ∈ [19], x ∈ [1, 2, 3, 4, 5, 6, 7, 8, 9, 10, 11, 12, 13, 14, 15, 16, 17, 18, 19, 20, 21, 22, 23, 24]) j hm)), he10 j (fun hm => hj ((by decide : ∀ x ∈ [24], x ∈ [1, 2, 3, 4, 5, 6, 7, 8, 9, 10, 11, 12, 13, 14, 15, 16, 17, 18, 19, 20, 21, 22, 23, 24]) j hm)), he9 j (fun hm => hj ((by decide : ∀ x ∈ [23], x ∈ [1, 2, 3, 4, 5, 6, 7, 8, 9, 10, 11, 12, 13, 14, 15, 16, 17, 18, 19, 20, 21, 22, 23, 24]) j hm)), he8 j (fun hm => hj ((by decide : ∀ x ∈ [], x ∈ [1, 2, 3, 4, 5, 6, 7, 8, 9, 10, 11, 12, 13, 14, 15, 16, 17, 18, 19, 20, 21, 22, 23, 24]) j hm)), he7 j (fun hm => hj ((by decide : ∀ x ∈ [18], x ∈ [1, 2, 3, 4, 5, 6, 7, 8, 9, 10, 11, 12, 13, 14, 15, 16, 17, 18, 19, 20, 21, 22, 23, 24]) j hm)), he6 j (fun hm => hj ((by decide : ∀ x ∈ [10, 11, 12, 13, 14, 15, 16, 17], x ∈ [1, 2, 3, 4, 5, 6, 7, 8, 9, 10, 11, 12, 13, 14, 15, 16, 17, 18, 19, 20, 21, 22, 23, 24]) j hm)), he5 j (fun hm => hj ((by decide : ∀ x ∈ [9], x ∈ [1, 2, 3, 4, 5, 6, 7, 8, 9, 10, 11, 12, 13, 14, 15, 16, 17, 18, 19, 20, 21, 22, 23, 24]) j hm)), he4 j (fun hm => hj ((by decide : ∀ x ∈ [8], x ∈ [1, 2, 3, 4, 5, 6, 7, 8, 9, 10, 11, 12, 13, 14, 15, 16, 17, 18, 19, 20, 21, 22, 23, 24]) j hm)), he3 j (fun hm => hj ((by decide : ∀ x ∈ [7], x ∈ [1, 2, 3, 4, 5, 6, 7, 8, 9, 10, 11, 12, 13, 14, 15, 16, 17, 18, 19, 20, 21, 22, 23, 24]) j hm)), he2 j (fun hm => hj ((by decide : ∀ x ∈ [2, 3, 4, 5, 6], x ∈ [1, 2, 3, 4, 5, 6, 7, 8, 9, 10, 11, 12, 13, 14, 15, 16, 17, 18, 19, 20, 21, 22, 23, 24]) j hm)), he1 j (fun hm => hj ((by decide : ∀ x ∈ [1], x ∈ [1, 2, 3, 4, 5, 6, 7, 8, 9, 10, 11, 12, 13, 14, 15, 16, 17, 18, 19, 20, 21, 22, 23, 24]) j hm))]) hf

def fX6_init_L164 : Nat → Int → HS → Option HS
  | 0, _, _ => none
  | nf + 1, x1, h => if (3 : Int) ≤ wr x1 then some h else if (0 : Int) ≤ x1 ∧ x1 < 1000 then fX6_init_L164 nf (x1 + 1) (hs h 37 x1 (-1)) else none
def fX6_init_L128 : Nat → Int → HS → Option HS
  | 0, _, _ => none
  | nf + 1, x1, h => if (64 : Int) ≤ wr x1 then if (0 : Int) ≤ 0 ∧ (0 : Int) ≤ 0 ∧ (0 : Int) ≤ 64 ∧ (0 : Int) + 64 ≤ 64 ∧ (0 : Int) + 64 ≤ 64 then fX6_init_L164 zF 0 (hcp h 34 0 35 0 64) else none else if (0 : Int) ≤ x1 ∧ x1 < 64 then fX6_init_L128 nf (x1 + 1) (hs h 34 x1 (-1)) else none
def fX6_init (h : HS) : Option HS := fX6_init_L128 zF 0 (hz (hz (hz (hs (hs (hs (hz (hz (hz (hs (hz (hz (hz (hz (hz (hz h 31) 32) 33) 34) 35) 36) 30 8 1) 37) 38) 39) 30 14 (-1)) 30 15 (-1)) 30 16 (-1)) 40) 41) 42)
set_option maxRecDepth 100000 in
set_option maxHeartbeats 4000000 in
theorem mX6_init {G : ZG} {l0 : Launch} {ad : Nat → Nat} {h0 : HS} {o : HS} (hr : fX6_init h0 = some o) : ZMk G l0 yX6_init wsX6_init ({ frames := 1, cells := 12, slots := 47548, locals := 40 }) [.ref (ad 30)] [(30, .inr (.inr (6, [0, 0, 1, 1, 1, 1, 1, 1, 0, 0, 1, 1, 1, 0, 0, 0, 0, 1, 0, 0, 0, 0, 1, 0, 0, 1])))] ad h0 [(30, .inr (.inr (6, [0, 0, 33, 34, 35, 36, 37, 38, 0, 0, 39, 40, 41, 0, 0, 0, 0, 42, 0, 0, 0, 0, 43, 0, 0, 44]))), (31, .inl 6), (32, .inl 6), (33, .inl 144), (34, .inl 64), (35, .inl 64), (36, .inl 64), (37, .inl 1000), (38, .inl 40000), (39, .inl 2000), (40, .inl 200), (41, .inl 2000), (42, .inl 2000)] [31, 32, 33, 34, 35, 36, 37, 38, 39, 40, 41, 42] [30, 31, 32, 33, 34, 35, 36, 37, 38, 39, 40, 41, 42] o := by
  refine ZMk.of (cc := cX6_init) (maxL := 2) (ret := none) (own := RX6) (lv0 := [(0, .ref (ad 30))]) (by decide) rfl rfl rfl rfl (Nat.le_of_ble_eq_true rfl) rfl ?_
  intro X hX hin hQ
  have hf : zfr [30, 31, 32, 33, 34, 35, 36, 37, 38, 39, 40, 41, 42] h0 h0 := zfr_rf
  have fl_9 : zFld wsX6_init RX6 9 6 RX6 TX6 26 2 := ⟨by decide +kernel, by decide +kernel, by decide, rfl⟩
  have fl_13 : zFld wsX6_init RX6 13 6 RX6 TX6 26 3 := ⟨by decide +kernel, by decide +kernel, by decide, rfl⟩
  have fl_16 : zFld wsX6_init RX6 16 6 RX6 TX6 26 4 := ⟨by decide +kernel, by decide +kernel, by decide, rfl⟩
  have fl_19 : zFld wsX6_init RX6 19 6 RX6 TX6 26 5 := ⟨by decide +kernel, by decide +kernel, by decide, rfl⟩
  have fl_22 : zFld wsX6_init RX6 22 6 RX6 TX6 26 6 := ⟨by decide +kernel, by decide +kernel, by decide, rfl⟩
  have fl_25 : zFld wsX6_init RX6 25 6 RX6 TX6 26 7 := ⟨by decide +kernel, by decide +kernel, by decide, rfl⟩
  have fl_28 : zFld wsX6_init RX6 28 6 RX6 TX6 26 8 := ⟨by decide +kernel, by decide +kernel, by decide, rfl⟩
  have fl_32 : zFld wsX6_init RX6 32 6 RX6 TX6 26 10 := ⟨by decide +kernel, by decide +kernel, by decide, rfl⟩
  have fl_36 : zFld wsX6_init RX6 36 6 RX6 TX6 26 11 := ⟨by decide +kernel, by decide +kernel, by decide, rfl⟩
  have fl_39 : zFld wsX6_init RX6 39 6 RX6 TX6 26 12 := ⟨by decide +kernel, by decide +kernel, by decide, rfl⟩
  have fl_42 : zFld wsX6_init RX6 42 6 RX6 TX6 26 14 := ⟨by decide +kernel, by decide +kernel, by decide, rfl⟩
  have fl_45 : zFld wsX6_init RX6 45 6 RX6 TX6 26 15 := ⟨by decide +kernel, by decide +kernel, by decide, rfl⟩
  have fl_48 : zFld wsX6_init RX6 48 6 RX6 TX6 26 16 := ⟨by decide +kernel, by decide +kernel, by decide, rfl⟩
  have fl_51 : zFld wsX6_init RX6 51 6 RX6 TX6 26 17 := ⟨by decide +kernel, by decide +kernel, by decide, rfl⟩
  have fl_54 : zFld wsX6_init RX6 54 6 RX6 TX6 26 22 := ⟨by decide +kernel, by decide +kernel, by decide, rfl⟩
  have fl_57 : zFld wsX6_init RX6 57 6 RX6 TX6 26 25 := ⟨by decide +kernel, by decide +kernel, by decide, rfl⟩
  have pu_X6_8 : zPut TX6 26 8 tyX6 .int := ⟨tyX6_ok, nmX6, rfl, by decide +kernel⟩
  have pu_X6_14 : zPut TX6 26 14 tyX6 .int := ⟨tyX6_ok, nmX6, rfl, by decide +kernel⟩
  have pu_X6_15 : zPut TX6 26 15 tyX6 .int := ⟨tyX6_ok, nmX6, rfl, by decide +kernel⟩
  have pu_X6_16 : zPut TX6 26 16 tyX6 .int := ⟨tyX6_ok, nmX6, rfl, by decide +kernel⟩
  unfold fX6_init at hr
  refine z_aload_n hX dX6_init_0 0 rfl ?_
  refine z_objInit hX dX6_init_1 (by decide +kernel) (by decide +kernel) (by decide +kernel) (by decide) (Nat.le_of_ble_eq_true rfl) ?_
  refine z_aload_n hX dX6_init_4 0 rfl ?_
  refine z_bipush hX dX6_init_5 (by decide +kernel) ?_
  refine z_newaS (i := 31) (N := 6) (lvF := (fun ad => [(0, .ref (ad 30))])) (stF := (fun ad => [.ref (ad 30)])) (k1 := 1) (n1 := 6) (sh1 := [(30, .inr (.inr (6, [0, 0, 1, 1, 1, 1, 1, 1, 0, 0, 1, 1, 1, 0, 0, 0, 0, 1, 0, 0, 0, 0, 1, 0, 0, 1]))), (31, .inl 6)]) hX dX6_init_7 (by decide +kernel) rfl (by decide) (by decide +kernel) ⟨by decide, by decide⟩ rfl rfl rfl rfl (fun ad9 hq => by constructor <;> simp only [hq 30 (by decide)]) rfl (fun ad1 he1 => ?_)
  have hf : zfr [30, 31, 32, 33, 34, 35, 36, 37, 38, 39, 40, 41, 42] h0 (hz h0 31) := zfr_hz hf (by decide)
  refine z_putRF (j := 31) (ty := (.array .int)) (sh1 := [(30, .inr (.inr (6, [0, 0, 33, 1, 1, 1, 1, 1, 0, 0, 1, 1, 1, 0, 0, 0, 0, 1, 0, 0, 0, 0, 1, 0, 0, 1]))), (31, .inl 6)]) hX hin dX6_init_9 fl_9 tyX6_ok nmX6 rfl rfl (by decide +kernel) (fun _ => ⟨rfl, rfl⟩) 0 rfl (by decide) rfl ?_
  refine z_aload_n hX dX6_init_12 0 rfl ?_
  refine z_bipush hX dX6_init_13 (by decide +kernel) ?_
  refine z_newaS (i := 32) (N := 6) (lvF := (fun ad => [(0, .ref (ad 30))])) (stF := (fun ad => [.ref (ad 30)])) (k1 := 2) (n1 := 12) (sh1 := [(30, .inr (.inr (6, [0, 0, 33, 1, 1, 1, 1, 1, 0, 0, 1, 1, 1, 0, 0, 0, 0, 1, 0, 0, 0, 0, 1, 0, 0, 1]))), (31, .inl 6), (32, .inl 6)]) hX dX6_init_15 (by decide +kernel) rfl (by decide) (by decide +kernel) ⟨by decide, by decide⟩ rfl rfl rfl rfl (fun ad9 hq => by constructor <;> simp only [hq 30 (by decide)]) rfl (fun ad2 he2 => ?_)
  have hf : zfr [30, 31, 32, 33, 34, 35, 36, 37, 38, 39, 40, 41, 42] h0 (hz (hz h0 31) 32) := zfr_hz hf (by decide)
  refine z_putRF (j := 32) (ty := (.array .int)) (sh1 := [(30, .inr (.inr (6, [0, 0, 33, 34, 1, 1, 1, 1, 0, 0, 1, 1, 1, 0, 0, 0, 0, 1, 0, 0, 0, 0, 1, 0, 0, 1]))), (31, .inl 6), (32, .inl 6)]) hX hin dX6_init_17 fl_13 tyX6_ok nmX6 rfl rfl (by decide +kernel) (fun _ => ⟨rfl, rfl⟩) 0 rfl (by decide) rfl ?_
  refine z_aload_n hX dX6_init_20 0 rfl ?_
  refine z_sipush hX dX6_init_21 (by decide +kernel) ?_
  refine z_newaS (i := 33) (N := 144) (lvF := (fun ad => [(0, .ref (ad 30))])) (stF := (fun ad => [.ref (ad 30)])) (k1 := 3) (n1 := 156) (sh1 := [(30, .inr (.inr (6, [0, 0, 33, 34, 1, 1, 1, 1, 0, 0, 1, 1, 1, 0, 0, 0, 0, 1, 0, 0, 0, 0, 1, 0, 0, 1]))), (31, .inl 6), (32, .inl 6), (33, .inl 144)]) hX dX6_init_24 (by decide +kernel) rfl (by decide) (by decide +kernel) ⟨by decide, by decide⟩ rfl rfl rfl rfl (fun ad9 hq => by constructor <;> simp only [hq 30 (by decide)]) rfl (fun ad3 he3 => ?_)
  have hf : zfr [30, 31, 32, 33, 34, 35, 36, 37, 38, 39, 40, 41, 42] h0 (hz (hz (hz h0 31) 32) 33) := zfr_hz hf (by decide)
  refine z_putRF (j := 33) (ty := (.array .int)) (sh1 := [(30, .inr (.inr (6, [0, 0, 33, 34, 35, 1, 1, 1, 0, 0, 1, 1, 1, 0, 0, 0, 0, 1, 0, 0, 0, 0, 1, 0, 0, 1]))), (31, .inl 6), (32, .inl 6), (33, .inl 144)]) hX hin dX6_init_26 fl_16 tyX6_ok nmX6 rfl rfl (by decide +kernel) (fun _ => ⟨rfl, rfl⟩) 0 rfl (by decide) rfl ?_
  refine z_aload_n hX dX6_init_29 0 rfl ?_
  refine z_bipush hX dX6_init_30 (by decide +kernel) ?_
  refine z_newaS (i := 34) (N := 64) (lvF := (fun ad => [(0, .ref (ad 30))])) (stF := (fun ad => [.ref (ad 30)])) (k1 := 4) (n1 := 220) (sh1 := [(30, .inr (.inr (6, [0, 0, 33, 34, 35, 1, 1, 1, 0, 0, 1, 1, 1, 0, 0, 0, 0, 1, 0, 0, 0, 0, 1, 0, 0, 1]))), (31, .inl 6), (32, .inl 6), (33, .inl 144), (34, .inl 64)]) hX dX6_init_32 (by decide +kernel) rfl (by decide) (by decide +kernel) ⟨by decide, by decide⟩ rfl rfl rfl rfl (fun ad9 hq => by constructor <;> simp only [hq 30 (by decide)]) rfl (fun ad4 he4 => ?_)
  have hf : zfr [30, 31, 32, 33, 34, 35, 36, 37, 38, 39, 40, 41, 42] h0 (hz (hz (hz (hz h0 31) 32) 33) 34) := zfr_hz hf (by decide)
  refine z_putRF (j := 34) (ty := (.array .int)) (sh1 := [(30, .inr (.inr (6, [0, 0, 33, 34, 35, 36, 1, 1, 0, 0, 1, 1, 1, 0, 0, 0, 0, 1, 0, 0, 0, 0, 1, 0, 0, 1]))), (31, .inl 6), (32, .inl 6), (33, .inl 144), (34, .inl 64)]) hX hin dX6_init_34 fl_19 tyX6_ok nmX6 rfl rfl (by decide +kernel) (fun _ => ⟨rfl, rfl⟩) 0 rfl (by decide) rfl ?_
  refine z_aload_n hX dX6_init_37 0 rfl ?_
  refine z_bipush hX dX6_init_38 (by decide +kernel) ?_
  refine z_newaS (i := 35) (N := 64) (lvF := (fun ad => [(0, .ref (ad 30))])) (stF := (fun ad => [.ref (ad 30)])) (k1 := 5) (n1 := 284) (sh1 := [(30, .inr (.inr (6, [0, 0, 33, 34, 35, 36, 1, 1, 0, 0, 1, 1, 1, 0, 0, 0, 0, 1, 0, 0, 0, 0, 1, 0, 0, 1]))), (31, .inl 6), (32, .inl 6), (33, .inl 144), (34, .inl 64), (35, .inl 64)]) hX dX6_init_40 (by decide +kernel) rfl (by decide) (by decide +kernel) ⟨by decide, by decide⟩ rfl rfl rfl rfl (fun ad9 hq => by constructor <;> simp only [hq 30 (by decide)]) rfl (fun ad5 he5 => ?_)
  have hf : zfr [30, 31, 32, 33, 34, 35, 36, 37, 38, 39, 40, 41, 42] h0 (hz (hz (hz (hz (hz h0 31) 32) 33) 34) 35) := zfr_hz hf (by decide)
  refine z_putRF (j := 35) (ty := (.array .int)) (sh1 := [(30, .inr (.inr (6, [0, 0, 33, 34, 35, 36, 37, 1, 0, 0, 1, 1, 1, 0, 0, 0, 0, 1, 0, 0, 0, 0, 1, 0, 0, 1]))), (31, .inl 6), (32, .inl 6), (33, .inl 144), (34, .inl 64), (35, .inl 64)]) hX hin dX6_init_42 fl_22 tyX6_ok nmX6 rfl rfl (by decide +kernel) (fun _ => ⟨rfl, rfl⟩) 0 rfl (by decide) rfl ?_
  refine z_aload_n hX dX6_init_45 0 rfl ?_
  refine z_bipush hX dX6_init_46 (by decide +kernel) ?_
  refine z_newaS (i := 36) (N := 64) (lvF := (fun ad => [(0, .ref (ad 30))])) (stF := (fun ad => [.ref (ad 30)])) (k1 := 6) (n1 := 348) (sh1 := [(30, .inr (.inr (6, [0, 0, 33, 34, 35, 36, 37, 1, 0, 0, 1, 1, 1, 0, 0, 0, 0, 1, 0, 0, 0, 0, 1, 0, 0, 1]))), (31, .inl 6), (32, .inl 6), (33, .inl 144), (34, .inl 64), (35, .inl 64), (36, .inl 64)]) hX dX6_init_48 (by decide +kernel) rfl (by decide) (by decide +kernel) ⟨by decide, by decide⟩ rfl rfl rfl rfl (fun ad9 hq => by constructor <;> simp only [hq 30 (by decide)]) rfl (fun ad6 he6 => ?_)
  have hf : zfr [30, 31, 32, 33, 34, 35, 36, 37, 38, 39, 40, 41, 42] h0 (hz (hz (hz (hz (hz (hz h0 31) 32) 33) 34) 35) 36) := zfr_hz hf (by decide)
  refine z_putRF (j := 36) (ty := (.array .int)) (sh1 := [(30, .inr (.inr (6, [0, 0, 33, 34, 35, 36, 37, 38, 0, 0, 1, 1, 1, 0, 0, 0, 0, 1, 0, 0, 0, 0, 1, 0, 0, 1]))), (31, .inl 6), (32, .inl 6), (33, .inl 144), (34, .inl 64), (35, .inl 64), (36, .inl 64)]) hX hin dX6_init_50 fl_25 tyX6_ok nmX6 rfl rfl (by decide +kernel) (fun _ => ⟨rfl, rfl⟩) 0 rfl (by decide) rfl ?_
  refine z_aload_n hX dX6_init_53 0 rfl ?_
  refine z_iconst hX dX6_init_54 ?_
  refine z_putI hX dX6_init_55 fl_28 pu_X6_8 0 rfl rfl ?_
  have hf : zfr [30, 31, 32, 33, 34, 35, 36, 37, 38, 39, 40, 41, 42] h0 (hs (hz (hz (hz (hz (hz (hz h0 31) 32) 33) 34) 35) 36) 30 8 1) := zfr_hs hf (by decide)
  refine z_aload_n hX dX6_init_58 0 rfl ?_
  refine z_sipush hX dX6_init_59 (by decide +kernel) ?_
  refine z_newaS (i := 37) (N := 1000) (lvF := (fun ad => [(0, .ref (ad 30))])) (stF := (fun ad => [.ref (ad 30)])) (k1 := 7) (n1 := 1348) (sh1 := [(30, .inr (.inr (6, [0, 0, 33, 34, 35, 36, 37, 38, 0, 0, 1, 1, 1, 0, 0, 0, 0, 1, 0, 0, 0, 0, 1, 0, 0, 1]))), (31, .inl 6), (32, .inl 6), (33, .inl 144), (34, .inl 64), (35, .inl 64), (36, .inl 64), (37, .inl 1000)]) hX dX6_init_62 (by decide +kernel) rfl (by decide) (by decide +kernel) ⟨by decide, by decide⟩ rfl rfl rfl rfl (fun ad9 hq => by constructor <;> simp only [hq 30 (by decide)]) rfl (fun ad7 he7 => ?_)
  have hf : zfr [30, 31, 32, 33, 34, 35, 36, 37, 38, 39, 40, 41, 42] h0 (hz (hs (hz (hz (hz (hz (hz (hz h0 31) 32) 33) 34) 35) 36) 30 8 1) 37) := zfr_hz hf (by decide)
  refine z_putRF (j := 37) (ty := (.array .int)) (sh1 := [(30, .inr (.inr (6, [0, 0, 33, 34, 35, 36, 37, 38, 0, 0, 39, 1, 1, 0, 0, 0, 0, 1, 0, 0, 0, 0, 1, 0, 0, 1]))), (31, .inl 6), (32, .inl 6), (33, .inl 144), (34, .inl 64), (35, .inl 64), (36, .inl 64), (37, .inl 1000)]) hX hin dX6_init_64 fl_32 tyX6_ok nmX6 rfl rfl (by decide +kernel) (fun _ => ⟨rfl, rfl⟩) 0 rfl (by decide) rfl ?_
  refine z_aload_n hX dX6_init_67 0 rfl ?_
  refine z_ldc (v := 40000) hX dX6_init_68 (by decide +kernel) ?_
  refine z_newaS (i := 38) (N := 40000) (lvF := (fun ad => [(0, .ref (ad 30))])) (stF := (fun ad => [.ref (ad 30)])) (k1 := 8) (n1 := 41348) (sh1 := [(30, .inr (.inr (6, [0, 0, 33, 34, 35, 36, 37, 38, 0, 0, 39, 1, 1, 0, 0, 0, 0, 1, 0, 0, 0, 0, 1, 0, 0, 1]))), (31, .inl 6), (32, .inl 6), (33, .inl 144), (34, .inl 64), (35, .inl 64), (36, .inl 64), (37, .inl 1000), (38, .inl 40000)]) hX dX6_init_70 (by decide +kernel) rfl (by decide) (by decide +kernel) ⟨by decide, by decide⟩ rfl rfl rfl rfl (fun ad9 hq => by constructor <;> simp only [hq 30 (by decide)]) rfl (fun ad8 he8 => ?_)
  have hf : zfr [30, 31, 32, 33, 34, 35, 36, 37, 38, 39, 40, 41, 42] h0 (hz (hz (hs (hz (hz (hz (hz (hz (hz h0 31) 32) 33) 34) 35) 36) 30 8 1) 37) 38) := zfr_hz hf (by decide)
  refine z_putRF (j := 38) (ty := (.array .int)) (sh1 := [(30, .inr (.inr (6, [0, 0, 33, 34, 35, 36, 37, 38, 0, 0, 39, 40, 1, 0, 0, 0, 0, 1, 0, 0, 0, 0, 1, 0, 0, 1]))), (31, .inl 6), (32, .inl 6), (33, .inl 144), (34, .inl 64), (35, .inl 64), (36, .inl 64), (37, .inl 1000), (38, .inl 40000)]) hX hin dX6_init_72 fl_36 tyX6_ok nmX6 rfl rfl (by decide +kernel) (fun _ => ⟨rfl, rfl⟩) 0 rfl (by decide) rfl ?_
  refine z_aload_n hX dX6_init_75 0 rfl ?_
  refine z_sipush hX dX6_init_76 (by decide +kernel) ?_
  refine z_newaS (i := 39) (N := 2000) (lvF := (fun ad => [(0, .ref (ad 30))])) (stF := (fun ad => [.ref (ad 30)])) (k1 := 9) (n1 := 43348) (sh1 := [(30, .inr (.inr (6, [0, 0, 33, 34, 35, 36, 37, 38, 0, 0, 39, 40, 1, 0, 0, 0, 0, 1, 0, 0, 0, 0, 1, 0, 0, 1]))), (31, .inl 6), (32, .inl 6), (33, .inl 144), (34, .inl 64), (35, .inl 64), (36, .inl 64), (37, .inl 1000), (38, .inl 40000), (39, .inl 2000)]) hX dX6_init_79 (by decide +kernel) rfl (by decide) (by decide +kernel) ⟨by decide, by decide⟩ rfl rfl rfl rfl (fun ad9 hq => by constructor <;> simp only [hq 30 (by decide)]) rfl (fun ad9 he9 => ?_)
  have hf : zfr [30, 31, 32, 33, 34, 35, 36, 37, 38, 39, 40, 41, 42] h0 (hz (hz (hz (hs (hz (hz (hz (hz (hz (hz h0 31) 32) 33) 34) 35) 36) 30 8 1) 37) 38) 39) := zfr_hz hf (by decide)
  refine z_putRF (j := 39) (ty := (.array .int)) (sh1 := [(30, .inr (.inr (6, [0, 0, 33, 34, 35, 36, 37, 38, 0, 0, 39, 40, 41, 0, 0, 0, 0, 1, 0, 0, 0, 0, 1, 0, 0, 1]))), (31, .inl 6), (32, .inl 6), (33, .inl 144), (34, .inl 64), (35, .inl 64), (36, .inl 64), (37, .inl 1000), (38, .inl 40000), (39, .inl 2000)]) hX hin dX6_init_81 fl_39 tyX6_ok nmX6 rfl rfl (by decide +kernel) (fun _ => ⟨rfl, rfl⟩) 0 rfl (by decide) rfl ?_
  refine z_aload_n hX dX6_init_84 0 rfl ?_
  refine z_iconst hX dX6_init_85 ?_
  refine z_putI hX dX6_init_86 fl_42 pu_X6_14 0 rfl rfl ?_
  have hf : zfr [30, 31, 32, 33, 34, 35, 36, 37, 38, 39, 40, 41, 42] h0 (hs (hz (hz (hz (hs (hz (hz (hz (hz (hz (hz h0 31) 32) 33) 34) 35) 36) 30 8 1) 37) 38) 39) 30 14 (-1)) := zfr_hs hf (by decide)
  refine z_aload_n hX dX6_init_89 0 rfl ?_
  refine z_iconst hX dX6_init_90 ?_
  refine z_putI hX dX6_init_91 fl_45 pu_X6_15 0 rfl rfl ?_
  have hf : zfr [30, 31, 32, 33, 34, 35, 36, 37, 38, 39, 40, 41, 42] h0 (hs (hs (hz (hz (hz (hs (hz (hz (hz (hz (hz (hz h0 31) 32) 33) 34) 35) 36) 30 8 1) 37) 38) 39) 30 14 (-1)) 30 15 (-1)) := zfr_hs hf (by decide)
  refine z_aload_n hX dX6_init_94 0 rfl ?_
  refine z_iconst hX dX6_init_95 ?_
  refine z_putI hX dX6_init_96 fl_48 pu_X6_16 0 rfl rfl ?_
  have hf : zfr [30, 31, 32, 33, 34, 35, 36, 37, 38, 39, 40, 41, 42] h0 (hs (hs (hs (hz (hz (hz (hs (hz (hz (hz (hz (hz (hz h0 31) 32) 33) 34) 35) 36) 30 8 1) 37) 38) 39) 30 14 (-1)) 30 15 (-1)) 30 16 (-1)) := zfr_hs hf (by decide)
  refine z_aload_n hX dX6_init_99 0 rfl ?_
  refine z_sipush hX dX6_init_100 (by decide +kernel) ?_
  refine z_newaS (i := 40) (N := 200) (lvF := (fun ad => [(0, .ref (ad 30))])) (stF := (fun ad => [.ref (ad 30)])) (k1 := 10) (n1 := 43548) (sh1 := [(30, .inr (.inr (6, [0, 0, 33, 34, 35, 36, 37, 38, 0, 0, 39, 40, 41, 0, 0, 0, 0, 1, 0, 0, 0, 0, 1, 0, 0, 1]))), (31, .inl 6), (32, .inl 6), (33, .inl 144), (34, .inl 64), (35, .inl 64), (36, .inl 64), (37, .inl 1000), (38, .inl 40000), (39, .inl 2000), (40, .inl 200)]) hX dX6_init_103 (by decide +kernel) rfl (by decide) (by decide +kernel) ⟨by decide, by decide⟩ rfl rfl rfl rfl (fun ad9 hq => by constructor <;> simp only [hq 30 (by decide)]) rfl (fun ad10 he10 => ?_)
  have hf : zfr [30, 31, 32, 33, 34, 35, 36, 37, 38, 39, 40, 41, 42] h0 (hz (hs (hs (hs (hz (hz (hz (hs (hz (hz (hz (hz (hz (hz h0 31) 32) 33) 34) 35) 36) 30 8 1) 37) 38) 39) 30 14 (-1)) 30 15 (-1)) 30 16 (-1)) 40) := zfr_hz hf (by decide)
  refine z_putRF (j := 40) (ty := (.array .int)) (sh1 := [(30, .inr (.inr (6, [0, 0, 33, 34, 35, 36, 37, 38, 0, 0, 39, 40, 41, 0, 0, 0, 0, 42, 0, 0, 0, 0, 1, 0, 0, 1]))), (31, .inl 6), (32, .inl 6), (33, .inl 144), (34, .inl 64), (35, .inl 64), (36, .inl 64), (37, .inl 1000), (38, .inl 40000), (39, .inl 2000), (40, .inl 200)]) hX hin dX6_init_105 fl_51 tyX6_ok nmX6 rfl rfl (by decide +kernel) (fun _ => ⟨rfl, rfl⟩) 0 rfl (by decide) rfl ?_
  refine z_aload_n hX dX6_init_108 0 rfl ?_
  refine z_sipush hX dX6_init_109 (by decide +kernel) ?_
  refine z_newaS (i := 41) (N := 2000) (lvF := (fun ad => [(0, .ref (ad 30))])) (stF := (fun ad => [.ref (ad 30)])) (k1 := 11) (n1 := 45548) (sh1 := [(30, .inr (.inr (6, [0, 0, 33, 34, 35, 36, 37, 38, 0, 0, 39, 40, 41, 0, 0, 0, 0, 42, 0, 0, 0, 0, 1, 0, 0, 1]))), (31, .inl 6), (32, .inl 6), (33, .inl 144), (34, .inl 64), (35, .inl 64), (36, .inl 64), (37, .inl 1000), (38, .inl 40000), (39, .inl 2000), (40, .inl 200), (41, .inl 2000)]) hX dX6_init_112 (by decide +kernel) rfl (by decide) (by decide +kernel) ⟨by decide, by decide⟩ rfl rfl rfl rfl (fun ad9 hq => by constructor <;> simp only [hq 30 (by decide)]) rfl (fun ad11 he11 => ?_)
  have hf : zfr [30, 31, 32, 33, 34, 35, 36, 37, 38, 39, 40, 41, 42] h0 (hz (hz (hs (hs (hs (hz (hz (hz (hs (hz (hz (hz (hz (hz (hz h0 31) 32) 33) 34) 35) 36) 30 8 1) 37) 38) 39) 30 14 (-1)) 30 15 (-1)) 30 16 (-1)) 40) 41) := zfr_hz hf (by decide)
  refine z_putRF (j := 41) (ty := (.array .int)) (sh1 := [(30, .inr (.inr (6, [0, 0, 33, 34, 35, 36, 37, 38, 0, 0, 39, 40, 41, 0, 0, 0, 0, 42, 0, 0, 0, 0, 43, 0, 0, 1]))), (31, .inl 6), (32, .inl 6), (33, .inl 144), (34, .inl 64), (35, .inl 64), (36, .inl 64), (37, .inl 1000), (38, .inl 40000), (39, .inl 2000), (40, .inl 200), (41, .inl 2000)]) hX hin dX6_init_114 fl_54 tyX6_ok nmX6 rfl rfl (by decide +kernel) (fun _ => ⟨rfl, rfl⟩) 0 rfl (by decide) rfl ?_
  refine z_aload_n hX dX6_init_117 0 rfl ?_
  refine z_sipush hX dX6_init_118 (by decide +kernel) ?_
  refine z_newaS (i := 42) (N := 2000) (lvF := (fun ad => [(0, .ref (ad 30))])) (stF := (fun ad => [.ref (ad 30)])) (k1 := 12) (n1 := 47548) (sh1 := [(30, .inr (.inr (6, [0, 0, 33, 34, 35, 36, 37, 38, 0, 0, 39, 40, 41, 0, 0, 0, 0, 42, 0, 0, 0, 0, 43, 0, 0, 1]))), (31, .inl 6), (32, .inl 6), (33, .inl 144), (34, .inl 64), (35, .inl 64), (36, .inl 64), (37, .inl 1000), (38, .inl 40000), (39, .inl 2000), (40, .inl 200), (41, .inl 2000), (42, .inl 2000)]) hX dX6_init_121 (by decide +kernel) rfl (by decide) (by decide +kernel) ⟨by decide, by decide⟩ rfl rfl rfl rfl (fun ad9 hq => by constructor <;> simp only [hq 30 (by decide)]) rfl (fun ad12 he12 => ?_)
  have hf : zfr [30, 31, 32, 33, 34, 35, 36, 37, 38, 39, 40, 41, 42] h0 (hz (hz (hz (hs (hs (hs (hz (hz (hz (hs (hz (hz (hz (hz (hz (hz h0 31) 32) 33) 34) 35) 36) 30 8 1) 37) 38) 39) 30 14 (-1)) 30 15 (-1)) 30 16 (-1)) 40) 41) 42) := zfr_hz hf (by decide)
  refine z_putRF (j := 42) (ty := (.array .int)) (sh1 := [(30, .inr (.inr (6, [0, 0, 33, 34, 35, 36, 37, 38, 0, 0, 39, 40, 41, 0, 0, 0, 0, 42, 0, 0, 0, 0, 43, 0, 0, 44]))), (31, .inl 6), (32, .inl 6), (33, .inl 144), (34, .inl 64), (35, .inl 64), (36, .inl 64), (37, .inl 1000), (38, .inl 40000), (39, .inl 2000), (40, .inl 200), (41, .inl 2000), (42, .inl 2000)]) hX hin dX6_init_123 fl_57 tyX6_ok nmX6 rfl rfl (by decide +kernel) (fun _ => ⟨rfl, rfl⟩) 0 rfl (by decide) rfl ?_
  refine z_iconst hX dX6_init_126 ?_
  refine z_istore_n (lv1 := [(1, .int (iI 0)), (0, .ref (ad12 30))]) hX dX6_init_127 (by decide) rfl ?_
  have B128 : ∀ (nf : Nat) (x1 : Int) (h : HS), zfr [30, 31, 32, 33, 34, 35, 36, 37, 38, 39, 40, 41, 42] h0 h → fX6_init_L128 nf x1 h = some o → ZW G X [(30, .inr (.inr (6, [0, 0, 33, 34, 35, 36, 37, 38, 0, 0, 39, 40, 41, 0, 0, 0, 0, 42, 0, 0, 0, 0, 43, 0, 0, 44]))), (31, .inl 6), (32, .inl 6), (33, .inl 144), (34, .inl 64), (35, .inl 64), (36, .inl 64), (37, .inl 1000), (38, .inl 40000), (39, .inl 2000), (40, .inl 200), (41, .inl 2000), (42, .inl 2000)] ad12 h 12 47548 [(0, .ref (ad12 30)), (1, .int (iI x1))] 128 [] := by
    intro nf
    induction nf with
    | zero => intro x1 h hf hr; exact z_none hr
    | succ nf ih128 =>
      intro x1 h hf hr
      unfold fX6_init_L128 at hr
      refine z_iload_n hX dX6_init_128 1 rfl ?_
      refine z_bipush hX dX6_init_129 (by decide +kernel) ?_
      refine z_icmp_ge (tgt := 147) hX dX6_init_131 (by decide) rfl (wr_of (by decide) (by decide)) hr (fun hr => ?_) (fun hr => ?_)
      · refine z_aload_n hX dX6_init_147 0 rfl ?_
        refine z_getR (j := 34) hX dX6_init_148 fl_19 0 rfl rfl ?_
        refine z_iconst hX dX6_init_151 ?_
        refine z_aload_n hX dX6_init_152 0 rfl ?_
        refine z_getR (j := 35) hX dX6_init_153 fl_22 0 rfl rfl ?_
        refine z_iconst hX dX6_init_156 ?_
        refine z_bipush hX dX6_init_157 (by decide +kernel) ?_
        refine z_copyi (b0 := 64) (b1 := 64) hX dX6_init_159 4 5 rfl rfl (by decide) (by decide) rfl rfl (by decide +kernel) (by decide +kernel) (by decide +kernel) (by decide +kernel) (by decide) (by decide +kernel) hr (fun hr => ?_)
        have hf : zfr [30, 31, 32, 33, 34, 35, 36, 37, 38, 39, 40, 41, 42] h0 (hcp h 34 0 35 0 64) := zfr_hcp hf (by decide)
        refine z_iconst hX dX6_init_162 ?_
        refine z_istore_n (lv1 := [(1, .int (iI 0)), (0, .ref (ad12 30))]) hX dX6_init_163 (by decide) rfl ?_
        have B164 : ∀ (nf : Nat) (x1 : Int) (h : HS), zfr [30, 31, 32, 33, 34, 35, 36, 37, 38, 39, 40, 41, 42] h0 h → fX6_init_L164 nf x1 h = some o → ZW G X [(30, .inr (.inr (6, [0, 0, 33, 34, 35, 36, 37, 38, 0, 0, 39, 40, 41, 0, 0, 0, 0, 42, 0, 0, 0, 0, 43, 0, 0, 44]))), (31, .inl 6), (32, .inl 6), (33, .inl 144), (34, .inl 64), (35, .inl 64), (36, .inl 64), (37, .inl 1000), (38, .inl 40000), (39, .inl 2000), (40, .inl 200), (41, .inl 2000), (42, .inl 2000)] ad12 h 12 47548 [(0, .ref (ad12 30)), (1, .int (iI x1))] 164 [] := by
          intro nf
          induction nf with
          | zero => intro x1 h hf hr; exact z_none hr
          | succ nf ih164 =>
            intro x1 h hf hr
            unfold fX6_init_L164 at hr
            refine z_iload_n hX dX6_init_164 1 rfl ?_
            refine z_iconst hX dX6_init_165 ?_
            refine z_icmp_ge (tgt := 182) hX dX6_init_166 (by decide) rfl (wr_of (by decide) (by decide)) hr (fun hr => ?_) (fun hr => ?_)
            · obtain rfl := Option.some.inj hr
              exact hQ ad12 _ _ dX6_init_182 (fun j hj => by rw [he12 j (fun hm => hj ((by decide : ∀ x ∈ [42], x ∈ [31, 32, 33, 34, 35, 36, 37, 38, 39, 40, 41, 42]) j hm)), he11 j (fun hm => hj ((by decide : ∀ x ∈ [41], x ∈ [31, 32, 33, 34, 35, 36, 37, 38, 39, 40, 41, 42]) j hm)), he10 j (fun hm => hj ((by decide : ∀ x ∈ [40], x ∈ [31, 32, 33, 34, 35, 36, 37, 38, 39, 40, 41, 42]) j hm)), he9 j (fun hm => hj ((by decide : ∀ x ∈ [39], x ∈ [31, 32, 33, 34, 35, 36, 37, 38, 39, 40, 41, 42]) j hm)), he8 j (fun hm => hj ((by decide : ∀ x ∈ [38], x ∈ [31, 32, 33, 34, 35, 36, 37, 38, 39, 40, 41, 42]) j hm)), he7 j (fun hm => hj ((by decide : ∀ x ∈ [37], x ∈ [31, 32, 33, 34, 35, 36, 37, 38, 39, 40, 41, 42]) j hm)), he6 j (fun hm => hj ((by decide : ∀ x ∈ [36], x ∈ [31, 32, 33, 34, 35, 36, 37, 38, 39, 40, 41, 42]) j hm)), he5 j (fun hm => hj ((by decide : ∀ x ∈ [35], x ∈ [31, 32, 33, 34, 35, 36, 37, 38, 39, 40, 41, 42]) j hm)), he4 j (fun hm => hj ((by decide : ∀ x ∈ [34], x ∈ [31, 32, 33, 34, 35, 36, 37, 38, 39, 40, 41, 42]) j hm)), he3 j (fun hm => hj ((by decide : ∀ x ∈ [33], x ∈ [31, 32, 33, 34, 35, 36, 37, 38, 39, 40, 41, 42]) j hm)), he2 j (fun hm => hj ((by decide : ∀ x ∈ [32], x ∈ [31, 32, 33, 34, 35, 36, 37, 38, 39, 40, 41, 42]) j hm)), he1 j (fun hm => hj ((by decide : ∀ x ∈ [31], x ∈ [31, 32, 33, 34, 35, 36, 37, 38, 39, 40, 41, 42]) j hm))]) hf
            · refine z_aload_n hX dX6_init_169 0 rfl ?_
              refine z_getR (j := 37) hX dX6_init_170 fl_32 0 rfl rfl ?_
              refine z_iload_n hX dX6_init_173 1 rfl ?_
              refine z_iconst hX dX6_init_174 ?_
              refine z_iastore (b := 1000) hX dX6_init_175 7 rfl (by decide) rfl hr (fun hr => ?_)
              have hf : zfr [30, 31, 32, 33, 34, 35, 36, 37, 38, 39, 40, 41, 42] h0 (hs h 37 x1 (-1)) := zfr_hs hf (by decide)
              refine z_iinc (lv1 := [(1, .int (iI (x1 + 1))), (0, .ref (ad12 30))]) hX dX6_init_176 1 rfl (by decide) rfl ?_
              refine z_goto (tgt := 164) hX dX6_init_179 (by decide) ?_
              refine z_lv [1, 0] rfl ?_
              exact ih164 (x1 + 1) (hs h 37 x1 (-1)) hf hr
        refine z_lv [1, 0] rfl ?_
        exact B164 zF 0 (hcp h 34 0 35 0 64) hf hr
      · refine z_aload_n hX dX6_init_134 0 rfl ?_
        refine z_getR (j := 34) hX dX6_init_135 fl_19 0 rfl rfl ?_
        refine z_iload_n hX dX6_init_138 1 rfl ?_
        refine z_iconst hX dX6_init_139 ?_
        refine z_iastore (b := 64) hX dX6_init_140 4 rfl (by decide) rfl hr (fun hr => ?_)
        have hf : zfr [30, 31, 32, 33, 34, 35, 36, 37, 38, 39, 40, 41, 42] h0 (hs h 34 x1 (-1)) := zfr_hs hf (by decide)
        refine z_iinc (lv1 := [(1, .int (iI (x1 + 1))), (0, .ref (ad12 30))]) hX dX6_init_141 1 rfl (by decide) rfl ?_
        refine z_goto (tgt := 128) hX dX6_init_144 (by decide) ?_
        refine z_lv [1, 0] rfl ?_
        exact ih128 (x1 + 1) (hs h 34 x1 (-1)) hf hr
  refine z_lv [1, 0] rfl ?_
  exact B128 zF 0 (hz (hz (hz (hs (hs (hs (hz (hz (hz (hs (hz (hz (hz (hz (hz (hz h0 31) 32) 33) 34) 35) 36) 30 8 1) 37) 38) 39) 30 14 (-1)) 30 15 (-1)) 30 16 (-1)) 40) 41) 42) hf hr

