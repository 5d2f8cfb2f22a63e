def fJ0_coder_7d493 (i0 : Nat) (h : HS) : Option (Int) := if (1 : Int) = 0 then some 1 else if i0 < 16 then some 0 else none
set_option maxRecDepth 100000 in
set_option maxHeartbeats 4000000 in
theorem mJ0_coder_7d493 {G : ZG} {l0 : Launch} {ad : Nat → Nat} {h0 : HS} {i0 : Nat} {o : Int} (hr : fJ0_coder_7d493 i0 h0 = some o) : ZMi G l0 yJ0_coder_7d493 wsJ0_coder_7d493 ({ frames := 0, cells := 0, slots := 0, locals := 0 }) [.ref (G.2.2.2 (1000 + i0))] [] ad h0 [] o h0 := by
  refine ZMi.ofN (cc := cJ0_coder_7d493) (maxL := 1) (ret := (some .byte)) (own := RJ0) (lv0 := [(0, .ref (G.2.2.2 (1000 + i0)))]) (by decide) rfl rfl rfl (Nat.le_of_ble_eq_true rfl) rfl ?_
  intro X hX hQ
  have hf : zfr [] h0 h0 := zfr_rf
  unfold fJ0_coder_7d493 at hr
  refine z_getCS hX dJ0_coder_7d493_0 (by decide +kernel) ?_
  refine z_if_eq (tgt := 13) hX dJ0_coder_7d493_3 (by decide) (wr_of (by decide) (by decide)) hr (fun hr => ?_) (fun hr => ?_)
  · refine z_iconst hX dJ0_coder_7d493_13 ?_
    obtain rfl := Option.some.inj hr
    exact hQ _ _ dJ0_coder_7d493_14 hf rfl
  · refine z_aload_n hX dJ0_coder_7d493_6 0 rfl ?_
    refine z_coder hX dJ0_coder_7d493_7 (by decide +kernel) hr (fun hr => ?_)
    refine z_goto (tgt := 14) hX dJ0_coder_7d493_10 (by decide) ?_
    obtain rfl := Option.some.inj hr
    exact hQ _ _ dJ0_coder_7d493_14 hf rfl

def fJ0_length_8abf5 (i0 : Nat) (h : HS) : Option (Int) := if i0 < 16 then if i0 < 16 then if i0 < 16 then (fJ0_coder_7d493 i0 h).bind fun r1 => some (zshr (zln i0) r1) else none else none else none
set_option maxRecDepth 100000 in
set_option maxHeartbeats 4000000 in
theorem mJ0_length_8abf5 {G : ZG} {l0 : Launch} {ad : Nat → Nat} {h0 : HS} {i0 : Nat} {o : Int} (hr : fJ0_length_8abf5 i0 h0 = some o) : ZMi G l0 yJ0_length_8abf5 wsJ0_length_8abf5 ({ frames := 1, cells := 0, slots := 0, locals := 20 }) [.ref (G.2.2.2 (1000 + i0))] [] ad h0 [] o h0 := by
  refine ZMi.of (cc := cJ0_length_8abf5) (maxL := 1) (ret := (some .int)) (own := RJ0) (lv0 := [(0, .ref (G.2.2.2 (1000 + i0)))]) (by decide) rfl rfl rfl (Nat.le_of_ble_eq_true rfl) rfl ?_
  intro X hX hQ
  have hf : zfr [] h0 h0 := zfr_rf
  unfold fJ0_length_8abf5 at hr
  refine z_aload_n hX dJ0_length_8abf5_0 0 rfl ?_
  refine z_value hX dJ0_length_8abf5_1 (by decide +kernel) hr (fun hr => ?_)
  refine z_blen hX dJ0_length_8abf5_4 hr (fun hr => ?_)
  refine z_aload_n hX dJ0_length_8abf5_5 0 rfl ?_
  obtain ⟨hi16, hr⟩ := z_ifg hr
  obtain ⟨r1, hc1, hr⟩ := z_bind hr
  refine z_callT_i (i := i0) (As := []) (k1 := 0) (n1 := 0) (nA := 0) hX (by omega) (mJ0_coder_7d493 hc1) dJ0_length_8abf5_6 gJ0_length_8abf5_J0_coder_7d493 rfl ⟨rfl, by decide, by decide, by decide +kernel⟩ ⟨by decide, by decide⟩ ⟨by decide, by decide⟩ rfl rfl (Nat.le_of_ble_eq_true rfl) (by decide +kernel) rfl rfl (fun hg1 => ?_)
  refine z_ishr hX dJ0_length_8abf5_9 ?_
  obtain rfl := Option.some.inj hr
  exact hQ _ _ dJ0_length_8abf5_10 hf

def fJ0_isLatin1_aae02 (i0 : Nat) (h : HS) : Option (Int) := if (1 : Int) = 0 then some 0 else if i0 < 16 then if (0 : Int) = 0 then some 1 else some 0 else none
set_option maxRecDepth 100000 in
set_option maxHeartbeats 4000000 in
theorem mJ0_isLatin1_aae02 {G : ZG} {l0 : Launch} {ad : Nat → Nat} {h0 : HS} {i0 : Nat} {o : Int} (hr : fJ0_isLatin1_aae02 i0 h0 = some o) : ZMi G l0 yJ0_isLatin1_aae02 wsJ0_isLatin1_aae02 ({ frames := 0, cells := 0, slots := 0, locals := 0 }) [.ref (G.2.2.2 (1000 + i0))] [] ad h0 [] o h0 := by
  refine ZMi.ofZ (cc := cJ0_isLatin1_aae02) (maxL := 1) (ret := (some .boolean)) (own := RJ0) (lv0 := [(0, .ref (G.2.2.2 (1000 + i0)))]) (by decide) rfl rfl rfl (Nat.le_of_ble_eq_true rfl) rfl ?_
  intro X hX hQ
  have hf : zfr [] h0 h0 := zfr_rf
  unfold fJ0_isLatin1_aae02 at hr
  refine z_getCS hX dJ0_isLatin1_aae02_0 (by decide +kernel) ?_
  refine z_if_eq (tgt := 17) hX dJ0_isLatin1_aae02_3 (by decide) (wr_of (by decide) (by decide)) hr (fun hr => ?_) (fun hr => ?_)
  · refine z_iconst hX dJ0_isLatin1_aae02_17 ?_
    obtain rfl := Option.some.inj hr
    exact hQ _ _ dJ0_isLatin1_aae02_18 hf (Or.inl rfl)
  · refine z_aload_n hX dJ0_isLatin1_aae02_6 0 rfl ?_
    refine z_coder hX dJ0_isLatin1_aae02_7 (by decide +kernel) hr (fun hr => ?_)
    refine z_if_ne (tgt := 17) hX dJ0_isLatin1_aae02_10 (by decide) (wr_of (by decide) (by decide)) hr (fun hr => ?_) (fun hr => ?_)
    · refine z_iconst hX dJ0_isLatin1_aae02_17 ?_
      obtain rfl := Option.some.inj hr
      exact hQ _ _ dJ0_isLatin1_aae02_18 hf (Or.inl rfl)
    · refine z_iconst hX dJ0_isLatin1_aae02_13 ?_
      refine z_goto (tgt := 18) hX dJ0_isLatin1_aae02_14 (by decide) ?_
      obtain rfl := Option.some.inj hr
      exact hQ _ _ dJ0_isLatin1_aae02_18 hf (Or.inr rfl)

def fJ3_checkIndex_8e157_b9 (x0 : Int) (x1 : Int) (h : HS) : Option (Int) := none
def fJ3_checkIndex_8e157 (p1 : Int) (p2 : Int) (h : HS) : Option (Int) := if wr p1 < 0 then fJ3_checkIndex_8e157_b9 p1 p2 h else if wr p1 < wr p2 then some p1 else fJ3_checkIndex_8e157_b9 p1 p2 h
set_option maxRecDepth 100000 in
set_option maxHeartbeats 4000000 in
theorem mJ3_checkIndex_8e157_u {G : ZG} {l0 : Launch} {ad : Nat → Nat} {h0 : HS} {p1 : Int} {p2 : Int} {o : Int} (hr : fJ3_checkIndex_8e157 p1 p2 h0 = some o) : ZMi G l0 yJ3_checkIndex_8e157 wsJ3_checkIndex_8e157 ({ frames := 0, cells := 0, slots := 0, locals := 0 }) [.int (iI p1), .int (iI p2), .null] [] ad h0 [] o h0 := by
  refine ZMi.of (cc := cJ3_checkIndex_8e157) (maxL := 3) (ret := (some .int)) (own := RJ3) (lv0 := [(0, .int (iI p1)), (1, .int (iI p2)), (2, .null)]) (by decide) rfl rfl rfl (Nat.le_of_ble_eq_true rfl) rfl ?_
  intro X hX hQ
  have hf : zfr [] h0 h0 := zfr_rf
  have B9 : ∀ (x0 : Int) (x1 : Int), fJ3_checkIndex_8e157_b9 x0 x1 h0 = some o → ZW G X [] ad h0 0 0 [(0, .int (iI x0)), (1, .int (iI x1)), (2, .null)] 9 [] := by
    intro x0 x1 hr
    unfold fJ3_checkIndex_8e157_b9 at hr
    exact z_none hr
  unfold fJ3_checkIndex_8e157 at hr
  refine z_iload_n hX dJ3_checkIndex_8e157_0 0 rfl ?_
  refine z_if_lt (tgt := 9) hX dJ3_checkIndex_8e157_1 (by decide) rfl hr (fun hr => ?_) (fun hr => ?_)
  · exact B9 p1 p2 hr
  · refine z_iload_n hX dJ3_checkIndex_8e157_4 0 rfl ?_
    refine z_iload_n hX dJ3_checkIndex_8e157_5 1 rfl ?_
    refine z_icmp_lt (tgt := 16) hX dJ3_checkIndex_8e157_6 (by decide) rfl rfl hr (fun hr => ?_) (fun hr => ?_)
    · refine z_iload_n hX dJ3_checkIndex_8e157_16 0 rfl ?_
      obtain rfl := Option.some.inj hr
      exact hQ _ _ dJ3_checkIndex_8e157_17 hf
    · exact B9 p1 p2 hr


set_option maxRecDepth 100000 in
set_option maxHeartbeats 4000000 in
theorem mJ3_checkIndex_8e157_a {G : ZG} {l0 : Launch} {ad : Nat → Nat} {h0 : HS} {p1 : Int} {p2 : Int} {i3 : Nat} {o : Int} (hr : fJ3_checkIndex_8e157 p1 p2 h0 = some o) : ZMi G l0 yJ3_checkIndex_8e157 wsJ3_checkIndex_8e157 ({ frames := 0, cells := 0, slots := 0, locals := 0 }) [.int (iI p1), .int (iI p2), .ref i3] [] ad h0 [] o h0 := by
  refine ZMi.of (cc := cJ3_checkIndex_8e157) (maxL := 3) (ret := (some .int)) (own := RJ3) (lv0 := [(0, .int (iI p1)), (1, .int (iI p2)), (2, .ref i3)]) (by decide) rfl rfl rfl (Nat.le_of_ble_eq_true rfl) rfl ?_
  intro X hX hQ
  have hf : zfr [] h0 h0 := zfr_rf
  have B9 : ∀ (x0 : Int) (x1 : Int), fJ3_checkIndex_8e157_b9 x0 x1 h0 = some o → ZW G X [] ad h0 0 0 [(0, .int (iI x0)), (1, .int (iI x1)), (2, .ref i3)] 9 [] := by
    intro x0 x1 hr
    unfold fJ3_checkIndex_8e157_b9 at hr
    exact z_none hr
  unfold fJ3_checkIndex_8e157 at hr
  refine z_iload_n hX dJ3_checkIndex_8e157_0 0 rfl ?_
  refine z_if_lt (tgt := 9) hX dJ3_checkIndex_8e157_1 (by decide) rfl hr (fun hr => ?_) (fun hr => ?_)
  · exact B9 p1 p2 hr
  · refine z_iload_n hX dJ3_checkIndex_8e157_4 0 rfl ?_
    refine z_iload_n hX dJ3_checkIndex_8e157_5 1 rfl ?_
    refine z_icmp_lt (tgt := 16) hX dJ3_checkIndex_8e157_6 (by decide) rfl rfl hr (fun hr => ?_) (fun hr => ?_)
    · refine z_iload_n hX dJ3_checkIndex_8e157_16 0 rfl ?_
      obtain rfl := Option.some.inj hr
      exact hQ _ _ dJ3_checkIndex_8e157_17 hf
    · exact B9 p1 p2 hr

def fJ0_checkIndex_df160 (p1 : Int) (p2 : Int) (h : HS) : Option (Unit) := (fJ3_checkIndex_8e157 p1 p2 h).bind fun r1 => some ()
set_option maxRecDepth 100000 in
set_option maxHeartbeats 4000000 in
theorem mJ0_checkIndex_df160 {G : ZG} {l0 : Launch} {ad : Nat → Nat} {h0 : HS} {p1 : Int} {p2 : Int} {o : Unit} (hr : fJ0_checkIndex_df160 p1 p2 h0 = some o) : ZMv G l0 yJ0_checkIndex_df160 wsJ0_checkIndex_df160 ({ frames := 1, cells := 0, slots := 0, locals := 22 }) [.int (iI p1), .int (iI p2)] [] ad h0 [] h0 := by
  refine ZMv.of (cc := cJ0_checkIndex_df160) (maxL := 2) (ret := none) (own := RJ0) (lv0 := [(0, .int (iI p1)), (1, .int (iI p2))]) (by decide) rfl rfl rfl (Nat.le_of_ble_eq_true rfl) rfl ?_
  intro X hX hQ
  have hf : zfr [] h0 h0 := zfr_rf
  unfold fJ0_checkIndex_df160 at hr
  refine z_iload_n hX dJ0_checkIndex_df160_0 0 rfl ?_
  refine z_iload_n hX dJ0_checkIndex_df160_1 1 rfl ?_
  refine z_getQ hX dJ0_checkIndex_df160_2 (by decide +kernel) ?_ (fun t0 => ?_)
  · obtain ⟨r1, hc1, hr⟩ := z_bind hr
    refine z_callS_i (As := [.int (iI p1), .int (iI p2), .null]) (k1 := 0) (n1 := 0) (nA := 3) hX (mJ3_checkIndex_8e157_u hc1) dJ0_checkIndex_df160_5 gJ0_checkIndex_df160_J3_checkIndex_8e157 rfl ⟨by decide, by decide, by decide +kernel⟩ ⟨by decide, by decide⟩ ⟨by decide, by decide⟩ rfl rfl (Nat.le_of_ble_eq_true rfl) (by decide +kernel) rfl rfl (fun hg1 => ?_)
    refine z_pop hX dJ0_checkIndex_df160_8 rfl ?_
    obtain rfl := Option.some.inj hr
    exact hQ _ _ dJ0_checkIndex_df160_9 hf
  · obtain ⟨r1, hc1, hr⟩ := z_bind hr
    refine z_callS_i (As := [.int (iI p1), .int (iI p2), .ref t0]) (k1 := 0) (n1 := 0) (nA := 3) hX (mJ3_checkIndex_8e157_a hc1) dJ0_checkIndex_df160_5 gJ0_checkIndex_df160_J3_checkIndex_8e157 rfl ⟨by decide, by decide, by decide +kernel⟩ ⟨by decide, by decide⟩ ⟨by decide, by decide⟩ rfl rfl (Nat.le_of_ble_eq_true rfl) (by decide +kernel) rfl rfl (fun hg1 => ?_)
    refine z_pop hX dJ0_checkIndex_df160_8 rfl ?_
    obtain rfl := Option.some.inj hr
    exact hQ _ _ dJ0_checkIndex_df160_9 hf

def fJ1_charAt_3b067 (i1 : Nat) (p2 : Int) (h : HS) : Option (Int) := if i1 < 16 then (fJ0_checkIndex_df160 p2 (zln i1) h).bind fun r1 => if i1 < 16 ∧ 0 ≤ p2 ∧ p2 < zln i1 then if 0 ≤ (zi2c (zand (zbt i1 p2) 255)) ∧ (zi2c (zand (zbt i1 p2) 255)) < 65536 then some (zi2c (zand (zbt i1 p2) 255)) else none else none else none
set_option maxRecDepth 100000 in
set_option maxHeartbeats 4000000 in
theorem mJ1_charAt_3b067 {G : ZG} {l0 : Launch} {ad : Nat → Nat} {h0 : HS} {i1 : Nat} {p2 : Int} {o : Int} (hr : fJ1_charAt_3b067 i1 p2 h0 = some o) : ZMi G l0 yJ1_charAt_3b067 wsJ1_charAt_3b067 ({ frames := 2, cells := 0, slots := 0, locals := 43 }) [.ref (G.2.2.2 (2000 + i1)), .int (iI p2)] [] ad h0 [] o h0 := by
  refine ZMi.ofN (cc := cJ1_charAt_3b067) (maxL := 2) (ret := (some .char)) (own := RJ1) (lv0 := [(0, .ref (G.2.2.2 (2000 + i1))), (1, .int (iI p2))]) (by decide) rfl rfl rfl (Nat.le_of_ble_eq_true rfl) rfl ?_
  intro X hX hQ
  have hf : zfr [] h0 h0 := zfr_rf
  unfold fJ1_charAt_3b067 at hr
  refine z_iload_n hX dJ1_charAt_3b067_0 1 rfl ?_
  refine z_aload_n hX dJ1_charAt_3b067_1 0 rfl ?_
  refine z_blen hX dJ1_charAt_3b067_2 hr (fun hr => ?_)
  obtain ⟨r1, hc1, hr⟩ := z_bind hr
  refine z_callS_v (As := [.int (iI p2), .int (iI (zln i1))]) (k1 := 0) (n1 := 0) (nA := 2) hX (mJ0_checkIndex_df160 hc1) dJ1_charAt_3b067_3 gJ1_charAt_3b067_J0_checkIndex_df160 rfl ⟨by decide, by decide, by decide +kernel⟩ ⟨by decide, by decide⟩ ⟨by decide, by decide⟩ rfl rfl (Nat.le_of_ble_eq_true rfl) (by decide +kernel) rfl rfl (fun hg1 => ?_)
  refine z_aload_n hX dJ1_charAt_3b067_6 0 rfl ?_
  refine z_iload_n hX dJ1_charAt_3b067_7 1 rfl ?_
  refine z_bald hX dJ1_charAt_3b067_8 hr (fun hr => ?_)
  refine z_sipush hX dJ1_charAt_3b067_9 (by decide +kernel) ?_
  refine z_iand hX dJ1_charAt_3b067_12 ?_
  refine z_i2c hX dJ1_charAt_3b067_13 ?_
  obtain ⟨hz, hr⟩ := z_ifg hr
  obtain rfl := Option.some.inj hr
  exact hQ _ _ dJ1_charAt_3b067_14 hf (z_narC hz)

def fJ0_charAt_5068e (i0 : Nat) (p1 : Int) (h : HS) : Option (Int) := if i0 < 16 then (fJ0_isLatin1_aae02 i0 h).bind fun r1 => if wr r1 = 0 then none else if i0 < 16 then (fJ1_charAt_3b067 i0 p1 h).bind fun r2 => if 0 ≤ r2 ∧ r2 < 65536 then some r2 else none else none else none
set_option maxRecDepth 100000 in
set_option maxHeartbeats 4000000 in
theorem mJ0_charAt_5068e {G : ZG} {l0 : Launch} {ad : Nat → Nat} {h0 : HS} {i0 : Nat} {p1 : Int} {o : Int} (hr : fJ0_charAt_5068e i0 p1 h0 = some o) : ZMi G l0 yJ0_charAt_5068e wsJ0_charAt_5068e ({ frames := 3, cells := 0, slots := 0, locals := 64 }) [.ref (G.2.2.2 (1000 + i0)), .int (iI p1)] [] ad h0 [] o h0 := by
  refine ZMi.ofN (cc := cJ0_charAt_5068e) (maxL := 2) (ret := (some .char)) (own := RJ0) (lv0 := [(0, .ref (G.2.2.2 (1000 + i0))), (1, .int (iI p1))]) (by decide) rfl rfl rfl (Nat.le_of_ble_eq_true rfl) rfl ?_
  intro X hX hQ
  have hf : zfr [] h0 h0 := zfr_rf
  unfold fJ0_charAt_5068e at hr
  refine z_aload_n hX dJ0_charAt_5068e_0 0 rfl ?_
  obtain ⟨hi16, hr⟩ := z_ifg hr
  obtain ⟨r1, hc1, hr⟩ := z_bind hr
  refine z_callT_i (i := i0) (As := []) (k1 := 0) (n1 := 0) (nA := 0) hX (by omega) (mJ0_isLatin1_aae02 hc1) dJ0_charAt_5068e_1 gJ0_charAt_5068e_J0_isLatin1_aae02 rfl ⟨rfl, by decide, by decide, by decide +kernel⟩ ⟨by decide, by decide⟩ ⟨by decide, by decide⟩ rfl rfl (Nat.le_of_ble_eq_true rfl) (by decide +kernel) rfl rfl (fun hg1 => ?_)
  refine z_if_eq (tgt := 16) hX dJ0_charAt_5068e_4 (by decide) rfl hr (fun hr => ?_) (fun hr => ?_)
  · exact z_none hr
  · refine z_aload_n hX dJ0_charAt_5068e_7 0 rfl ?_
    refine z_value hX dJ0_charAt_5068e_8 (by decide +kernel) hr (fun hr => ?_)
    refine z_iload_n hX dJ0_charAt_5068e_11 1 rfl ?_
    obtain ⟨r2, hc2, hr⟩ := z_bind hr
    refine z_callS_i (As := [.ref (G.2.2.2 (2000 + i0)), .int (iI p1)]) (k1 := 0) (n1 := 0) (nA := 2) hX (mJ1_charAt_3b067 hc2) dJ0_charAt_5068e_12 gJ0_charAt_5068e_J1_charAt_3b067 rfl ⟨by decide, by decide, by decide +kernel⟩ ⟨by decide, by decide⟩ ⟨by decide, by decide⟩ rfl rfl (Nat.le_of_ble_eq_true rfl) (by decide +kernel) rfl rfl (fun hg2 => ?_)
    obtain ⟨hz, hr⟩ := z_ifg hr
    obtain rfl := Option.some.inj hr
    exact hQ _ _ dJ0_charAt_5068e_15 hf (z_narC hz)

def fX6_fits (p1 : Int) (p2 : Int) (h : HS) : Option (Int) := if wr p2 = 102 then (fX6_isIn p1 97 104 h).bind fun r1 => if r1 = 0 ∨ r1 = 1 then some r1 else none else if wr p2 = 114 then (fX6_isIn p1 49 56 h).bind fun r2 => if r2 = 0 ∨ r2 = 1 then some r2 else none else if wr p2 = 120 then if wr p1 = (120 : Int) then some 1 else some 0 else if wr p1 = (43 : Int) then some 1 else if wr p1 = (35 : Int) then some 1 else some 0
set_option maxRecDepth 100000 in
set_option maxHeartbeats 4000000 in
theorem mX6_fits {G : ZG} {l0 : Launch} {ad : Nat → Nat} {h0 : HS} {p1 : Int} {p2 : Int} {o : Int} (hr : fX6_fits p1 p2 h0 = some o) : ZMi G l0 yX6_fits wsX6_fits ({ frames := 1, cells := 0, slots := 0, locals := 22 }) [.int (iI p1), .int (iI p2)] [] ad h0 [] o h0 := by
  refine ZMi.ofZ (cc := cX6_fits) (maxL := 2) (ret := (some .boolean)) (own := RX6) (lv0 := [(0, .int (iI p1)), (1, .int (iI p2))]) (by decide) rfl rfl rfl (Nat.le_of_ble_eq_true rfl) rfl ?_
  intro X hX hQ
  have hf : zfr [] h0 h0 := zfr_rf
  unfold fX6_fits at hr
  refine z_iload_n hX dX6_fits_0 1 rfl ?_
  by_cases n102 : wr p2 = 102
  · have hr := z_ifp hr n102
    refine z_lookup (v := 102) (off := 35) (tgt := 36) hX dX6_fits_1 n102 (by decide) (by decide) (by decide) ?_
    refine z_iload_n hX dX6_fits_36 0 rfl ?_
    refine z_bipush hX dX6_fits_37 (by decide +kernel) ?_
    refine z_bipush hX dX6_fits_39 (by decide +kernel) ?_
    obtain ⟨r1, hc1, hr⟩ := z_bind hr
    refine z_callS_i (As := [.int (iI p1), .int (iI 97), .int (iI 104)]) (k1 := 0) (n1 := 0) (nA := 3) hX (mX6_isIn hc1) dX6_fits_41 gX6_fits_X6_isIn rfl ⟨by decide, by decide, by decide +kernel⟩ ⟨by decide, by decide⟩ ⟨by decide, by decide⟩ rfl rfl (Nat.le_of_ble_eq_true rfl) (by decide +kernel) rfl rfl (fun hg1 => ?_)
    obtain ⟨hz, hr⟩ := z_ifg hr
    obtain rfl := Option.some.inj hr
    exact hQ _ _ dX6_fits_44 hf hz
  · have hr := z_ifn hr n102
    by_cases n114 : wr p2 = 114
    · have hr := z_ifp hr n114
      refine z_lookup (v := 114) (off := 44) (tgt := 45) hX dX6_fits_1 n114 (by decide) (by decide) (by decide) ?_
      refine z_iload_n hX dX6_fits_45 0 rfl ?_
      refine z_bipush hX dX6_fits_46 (by decide +kernel) ?_
      refine z_bipush hX dX6_fits_48 (by decide +kernel) ?_
      obtain ⟨r2, hc2, hr⟩ := z_bind hr
      refine z_callS_i (As := [.int (iI p1), .int (iI 49), .int (iI 56)]) (k1 := 0) (n1 := 0) (nA := 3) hX (mX6_isIn hc2) dX6_fits_50 gX6_fits_X6_isIn rfl ⟨by decide, by decide, by decide +kernel⟩ ⟨by decide, by decide⟩ ⟨by decide, by decide⟩ rfl rfl (Nat.le_of_ble_eq_true rfl) (by decide +kernel) rfl rfl (fun hg2 => ?_)
      obtain ⟨hz, hr⟩ := z_ifg hr
      obtain rfl := Option.some.inj hr
      exact hQ _ _ dX6_fits_53 hf hz
    · have hr := z_ifn hr n114
      by_cases n120 : wr p2 = 120
      · have hr := z_ifp hr n120
        refine z_lookup (v := 120) (off := 53) (tgt := 54) hX dX6_fits_1 n120 (by decide) (by decide) (by decide) ?_
        refine z_iload_n hX dX6_fits_54 0 rfl ?_
        refine z_bipush hX dX6_fits_55 (by decide +kernel) ?_
        refine z_icmp_ne (tgt := 64) hX dX6_fits_57 (by decide) rfl (wr_of (by decide) (by decide)) hr (fun hr => ?_) (fun hr => ?_)
        · refine z_iconst hX dX6_fits_64 ?_
          obtain rfl := Option.some.inj hr
          exact hQ _ _ dX6_fits_65 hf (Or.inl rfl)
        · refine z_iconst hX dX6_fits_60 ?_
          refine z_goto (tgt := 65) hX dX6_fits_61 (by decide) ?_
          obtain rfl := Option.some.inj hr
          exact hQ _ _ dX6_fits_65 hf (Or.inr rfl)
      · have hr := z_ifn hr n120
        refine z_lookup (v := wr p2) (off := 65) (tgt := 66) hX dX6_fits_1 rfl (by decide) (by simp only [Op.lookupswitch.offset_cons]; rw [if_neg (fun e => n102 e.symm), if_neg (fun e => n114 e.symm), if_neg (fun e => n120 e.symm)]; rfl) (by decide) ?_
        refine z_iload_n hX dX6_fits_66 0 rfl ?_
        refine z_bipush hX dX6_fits_67 (by decide +kernel) ?_
        refine z_icmp_eq (tgt := 78) hX dX6_fits_69 (by decide) rfl (wr_of (by decide) (by decide)) hr (fun hr => ?_) (fun hr => ?_)
        · refine z_iconst hX dX6_fits_78 ?_
          refine z_goto (tgt := 83) hX dX6_fits_79 (by decide) ?_
          obtain rfl := Option.some.inj hr
          exact hQ _ _ dX6_fits_83 hf (Or.inr rfl)
        · refine z_iload_n hX dX6_fits_72 0 rfl ?_
          refine z_bipush hX dX6_fits_73 (by decide +kernel) ?_
          refine z_icmp_ne (tgt := 82) hX dX6_fits_75 (by decide) rfl (wr_of (by decide) (by decide)) hr (fun hr => ?_) (fun hr => ?_)
          · refine z_iconst hX dX6_fits_82 ?_
            obtain rfl := Option.some.inj hr
            exact hQ _ _ dX6_fits_83 hf (Or.inl rfl)
          · refine z_iconst hX dX6_fits_78 ?_
            refine z_goto (tgt := 83) hX dX6_fits_79 (by decide) ?_
            obtain rfl := Option.some.inj hr
            exact hQ _ _ dX6_fits_83 hf (Or.inr rfl)

def fX6_findForm_b145 (k35 : Int → Int → Int → HS → Option (Int × HS)) (x1 : Int) (x2 : Int) (x3 : Int) (h : HS) : Option (Int × HS) := k35 x1 x2 (x3 + 1) h
def fX6_findForm_b106 (k35 : Int → Int → Int → HS → Option (Int × HS)) (x1 : Int) (x2 : Int) (x3 : Int) (x4 : Int) (x5 : Int) (h : HS) : Option (Int × HS) := if wr x5 = wr x4 then if wr ((x1 + 1) + x4) = wr x2 then fX6_findForm_b145 k35 x1 x2 x3 (hs (hs h 30 21 (zmax (h 30 21) ((x1 + 1) + x5))) 30 18 x3) else fX6_findForm_b145 k35 x1 x2 x3 (hs h 30 21 (zmax (h 30 21) ((x1 + 1) + x5))) else fX6_findForm_b145 k35 x1 x2 x3 (hs h 30 21 (zmax (h 30 21) ((x1 + 1) + x5)))
def fX6_findForm_L56 (k35 : Int → Int → Int → HS → Option (Int × HS)) : Nat → Int → Int → Int → Int → Int → HS → Option (Int × HS)
  | 0, _, _, _, _, _, _ => none
  | nf + 1, x1, x2, x3, x4, x5, h => if wr x4 ≤ wr x5 then fX6_findForm_b106 k35 x1 x2 x3 x4 x5 h else if wr x2 ≤ wr ((x1 + 1) + x5) then fX6_findForm_b106 k35 x1 x2 x3 x4 x5 h else if (0 : Int) ≤ ((x1 + 1) + x5) ∧ ((x1 + 1) + x5) < 2000 then if (0 : Int) ≤ x3 ∧ x3 < 16 then if (Int.toNat x3) < 16 then (fJ0_charAt_5068e (Int.toNat x3) x5 h).bind fun r1 => (fX6_fits (h 39 ((x1 + 1) + x5)) r1 h).bind fun r2 => if wr r2 = 0 then fX6_findForm_b106 k35 x1 x2 x3 x4 x5 h else fX6_findForm_L56 k35 nf x1 x2 x3 x4 (x5 + 1) h else none else none else none
def fX6_findForm_L35 : Nat → Int → Int → Int → HS → Option (Int × HS)
  | 0, _, _, _, _ => none
  | nf + 1, x1, x2, x3, h => if (16 : Int) ≤ wr x3 then if wr (h 30 18) = ((-1) : Int) then some (0, h) else some (1, h) else if (0 : Int) ≤ x3 ∧ x3 < 16 then if (Int.toNat x3) < 16 then (fJ0_length_8abf5 (Int.toNat x3) h).bind fun r3 => fX6_findForm_L56 (fun a0 a1 a2 hh => fX6_findForm_L35 nf a0 a1 a2 hh) zF x1 x2 x3 r3 0 h else none else none
def fX6_findForm (p1 : Int) (p2 : Int) (h : HS) : Option (Int × HS) := if wr p1 = wr p2 then some (0, (hs (hs h 30 18 (-1)) 30 21 p1)) else if (0 : Int) ≤ p1 ∧ p1 < 2000 then (fX6_isIn (((hs (hs h 30 18 (-1)) 30 21 p1)) 39 p1) 65 90 (hs (hs h 30 18 (-1)) 30 21 p1)).bind fun r4 => if wr r4 = 0 then some (0, (hs (hs h 30 18 (-1)) 30 21 p1)) else fX6_findForm_L35 zF p1 p2 0 (hs (hs h 30 18 (-1)) 30 21 p1) else none
set_option maxRecDepth 100000 in
set_option maxHeartbeats 4000000 in
theorem mX6_findForm {G : ZG} {l0 : Launch} {ad : Nat → Nat} {h0 : HS} {p1 : Int} {p2 : Int} {o : Int × HS} (hr : fX6_findForm p1 p2 h0 = some o) : ZMi G l0 yX6_findForm wsX6_findForm ({ frames := 4, cells := 0, slots := 0, locals := 85 }) [.ref (ad 30), .int (iI p1), .int (iI p2)] sh_8 ad h0 [30] o.1 o.2 := by
  refine ZMi.ofZ (cc := cX6_findForm) (maxL := 6) (ret := (some .boolean)) (own := RX6) (lv0 := [(0, .ref (ad 30)), (1, .int (iI p1)), (2, .int (iI p2))]) (by decide) rfl rfl rfl (Nat.le_of_ble_eq_true rfl) rfl ?_
  intro X hX hQ
  have hf : zfr [30] h0 h0 := zfr_rf
  have fl_146 : zFld wsX6_findForm RX6 146 6 RX6 TX6 26 18 := ⟨by decide +kernel, by decide +kernel, by decide, rfl⟩
  have fl_149 : zFld wsX6_findForm RX6 149 6 RX6 TX6 26 21 := ⟨by decide +kernel, by decide +kernel, by decide, rfl⟩
  have fl_39 : zFld wsX6_findForm RX6 39 6 RX6 TX6 26 12 := ⟨by decide +kernel, by decide +kernel, by decide, rfl⟩
  have pu_X6_18 : zPut TX6 26 18 tyX6 .int := ⟨tyX6_ok, nmX6, rfl, by decide +kernel⟩
  have pu_X6_21 : zPut TX6 26 21 tyX6 .int := ⟨tyX6_ok, nmX6, rfl, by decide +kernel⟩
  have B35 : ∀ (nf : Nat) (x1 : Int) (x2 : Int) (x3 : Int) (h : HS), zfr [30] h0 h → fX6_findForm_L35 nf x1 x2 x3 h = some o → ZW G X sh_8 ad h 0 0 [(0, .ref (ad 30)), (1, .int (iI x1)), (2, .int (iI x2)), (3, .int (iI x3))] 35 [] := by
    intro nf
    induction nf with
    | zero => intro x1 x2 x3 h hf hr; exact z_none hr
    | succ n35 ih35 =>
      intro x1 x2 x3 h hf hr
      have B145 : ∀ (x1 : Int) (x2 : Int) (x3 : Int) (h : HS), zfr [30] h0 h → fX6_findForm_b145 (fun a0 a1 a2 hh => fX6_findForm_L35 n35 a0 a1 a2 hh) x1 x2 x3 h = some o → ZW G X sh_8 ad h 0 0 [(0, .ref (ad 30)), (1, .int (iI x1)), (2, .int (iI x2)), (3, .int (iI x3))] 145 [] := by
        intro x1 x2 x3 h hf hr
        unfold fX6_findForm_b145 at hr
        refine z_iinc (lv1 := [(3, .int (iI (x3 + 1))), (0, .ref (ad 30)), (1, .int (iI x1)), (2, .int (iI x2))]) hX dX6_findForm_145 3 rfl (by decide) rfl ?_
        refine z_goto (tgt := 35) hX dX6_findForm_148 (by decide) ?_
        refine z_lv [1, 2, 3, 0] rfl ?_
        exact ih35 x1 x2 (x3 + 1) h hf hr
      have B106 : ∀ (x1 : Int) (x2 : Int) (x3 : Int) (x4 : Int) (x5 : Int) (h : HS), zfr [30] h0 h → fX6_findForm_b106 (fun a0 a1 a2 hh => fX6_findForm_L35 n35 a0 a1 a2 hh) x1 x2 x3 x4 x5 h = some o → ZW G X sh_8 ad h 0 0 [(0, .ref (ad 30)), (1, .int (iI x1)), (2, .int (iI x2)), (3, .int (iI x3)), (4, .int (iI x4)), (5, .int (iI x5))] 106 [] := by
        intro x1 x2 x3 x4 x5 h hf hr
        unfold fX6_findForm_b106 at hr
        refine z_aload_n hX dX6_findForm_106 0 rfl ?_
        refine z_aload_n hX dX6_findForm_107 0 rfl ?_
        refine z_getI hX dX6_findForm_108 fl_149 0 rfl rfl ?_
        refine z_iload_n hX dX6_findForm_111 1 rfl ?_
        refine z_iconst hX dX6_findForm_112 ?_
        refine z_iadd hX dX6_findForm_113 ?_
        refine z_iload hX dX6_findForm_114 5 rfl ?_
        refine z_iadd hX dX6_findForm_116 ?_
        refine z_mmax hX dX6_findForm_117 (by decide +kernel) (by decide +kernel) (by decide +kernel) (by decide +kernel) (by decide) (Nat.le_of_ble_eq_true rfl) (Nat.le_of_ble_eq_true rfl) (Nat.le_of_ble_eq_true rfl) ?_
        refine z_putI hX dX6_findForm_120 fl_149 pu_X6_21 0 rfl rfl ?_
        have hf : zfr [30] h0 (hs h 30 21 (zmax (h 30 21) ((x1 + 1) + x5))) := zfr_hs hf (by decide)
        refine z_iload hX dX6_findForm_123 5 rfl ?_
        refine z_iload hX dX6_findForm_125 4 rfl ?_
        refine z_icmp_ne (tgt := 145) hX dX6_findForm_127 (by decide) rfl rfl hr (fun hr => ?_) (fun hr => ?_)
        · refine z_lv [0, 1, 2, 3] rfl ?_
          exact B145 x1 x2 x3 (hs h 30 21 (zmax (h 30 21) ((x1 + 1) + x5))) hf hr
        · refine z_iload_n hX dX6_findForm_130 1 rfl ?_
          refine z_iconst hX dX6_findForm_131 ?_
          refine z_iadd hX dX6_findForm_132 ?_
          refine z_iload hX dX6_findForm_133 4 rfl ?_
          refine z_iadd hX dX6_findForm_135 ?_
          refine z_iload_n hX dX6_findForm_136 2 rfl ?_
          refine z_icmp_ne (tgt := 145) hX dX6_findForm_137 (by decide) rfl rfl hr (fun hr => ?_) (fun hr => ?_)
          · refine z_lv [0, 1, 2, 3] rfl ?_
            exact B145 x1 x2 x3 (hs h 30 21 (zmax (h 30 21) ((x1 + 1) + x5))) hf hr
          · refine z_aload_n hX dX6_findForm_140 0 rfl ?_
            refine z_iload_n hX dX6_findForm_141 3 rfl ?_
            refine z_putI hX dX6_findForm_142 fl_146 pu_X6_18 0 rfl rfl ?_
            have hf : zfr [30] h0 (hs (hs h 30 21 (zmax (h 30 21) ((x1 + 1) + x5))) 30 18 x3) := zfr_hs hf (by decide)
            refine z_lv [0, 1, 2, 3] rfl ?_
            exact B145 x1 x2 x3 (hs (hs h 30 21 (zmax (h 30 21) ((x1 + 1) + x5))) 30 18 x3) hf hr
      have B56 : ∀ (nf : Nat) (x1 : Int) (x2 : Int) (x3 : Int) (x4 : Int) (x5 : Int) (h : HS), zfr [30] h0 h → fX6_findForm_L56 (fun a0 a1 a2 hh => fX6_findForm_L35 n35 a0 a1 a2 hh) nf x1 x2 x3 x4 x5 h = some o → ZW G X sh_8 ad h 0 0 [(0, .ref (ad 30)), (1, .int (iI x1)), (2, .int (iI x2)), (3, .int (iI x3)), (4, .int (iI x4)), (5, .int (iI x5))] 56 [] := by
        intro nf
        induction nf with
        | zero => intro x1 x2 x3 x4 x5 h hf hr; exact z_none hr
        | succ n56 ih56 =>
          intro x1 x2 x3 x4 x5 h hf hr
          unfold fX6_findForm_L56 at hr
          refine z_iload hX dX6_findForm_56 5 rfl ?_
          refine z_iload hX dX6_findForm_58 4 rfl ?_
          refine z_icmp_ge (tgt := 106) hX dX6_findForm_60 (by decide) rfl rfl hr (fun hr => ?_) (fun hr => ?_)
          · exact B106 x1 x2 x3 x4 x5 h hf hr
          · refine z_iload_n hX dX6_findForm_63 1 rfl ?_
            refine z_iconst hX dX6_findForm_64 ?_
            refine z_iadd hX dX6_findForm_65 ?_
            refine z_iload hX dX6_findForm_66 5 rfl ?_
            refine z_iadd hX dX6_findForm_68 ?_
            refine z_iload_n hX dX6_findForm_69 2 rfl ?_
            refine z_icmp_ge (tgt := 106) hX dX6_findForm_70 (by decide) rfl rfl hr (fun hr => ?_) (fun hr => ?_)
            · exact B106 x1 x2 x3 x4 x5 h hf hr
            · refine z_aload_n hX dX6_findForm_73 0 rfl ?_
              refine z_getR (j := 39) hX dX6_findForm_74 fl_39 0 rfl rfl ?_
              refine z_iload_n hX dX6_findForm_77 1 rfl ?_
              refine z_iconst hX dX6_findForm_78 ?_
              refine z_iadd hX dX6_findForm_79 ?_
              refine z_iload hX dX6_findForm_80 5 rfl ?_
              refine z_iadd hX dX6_findForm_82 ?_
              refine z_iaload (b := 2000) hX dX6_findForm_83 9 rfl (by decide) rfl hr (fun hr => ?_)
              refine z_getF hX dX6_findForm_84 (by decide +kernel) ?_
              refine z_iload_n hX dX6_findForm_87 3 rfl ?_
              refine z_aaldF hX dX6_findForm_88 hr (fun hr => ?_)
              refine z_iload hX dX6_findForm_89 5 rfl ?_
              obtain ⟨hi16, hr⟩ := z_ifg hr
              obtain ⟨r1, hc1, hr⟩ := z_bind hr
              refine z_callT_i (i := (Int.toNat x3)) (As := [.int (iI x5)]) (k1 := 0) (n1 := 0) (nA := 1) hX (by omega) (mJ0_charAt_5068e hc1) dX6_findForm_91 gX6_findForm_J0_charAt_5068e rfl ⟨rfl, by decide, by decide, by decide +kernel⟩ ⟨by decide, by decide⟩ ⟨by decide, by decide⟩ rfl rfl (Nat.le_of_ble_eq_true rfl) (by decide +kernel) rfl rfl (fun hg1 => ?_)
              obtain ⟨r2, hc2, hr⟩ := z_bind hr
              refine z_callS_i (As := [.int (iI (h 39 ((x1 + 1) + x5))), .int (iI r1)]) (k1 := 0) (n1 := 0) (nA := 2) hX (mX6_fits hc2) dX6_findForm_94 gX6_findForm_X6_fits rfl ⟨by decide, by decide, by decide +kernel⟩ ⟨by decide, by decide⟩ ⟨by decide, by decide⟩ rfl rfl (Nat.le_of_ble_eq_true rfl) (by decide +kernel) rfl rfl (fun hg2 => ?_)
              refine z_if_eq (tgt := 106) hX dX6_findForm_97 (by decide) rfl hr (fun hr => ?_) (fun hr => ?_)
              · exact B106 x1 x2 x3 x4 x5 h hf hr
              · refine z_iinc (lv1 := [(5, .int (iI (x5 + 1))), (0, .ref (ad 30)), (1, .int (iI x1)), (2, .int (iI x2)), (3, .int (iI x3)), (4, .int (iI x4))]) hX dX6_findForm_100 5 rfl (by decide) rfl ?_
                refine z_goto (tgt := 56) hX dX6_findForm_103 (by decide) ?_
                refine z_lv [1, 2, 3, 4, 5, 0] rfl ?_
                exact ih56 x1 x2 x3 x4 (x5 + 1) h hf hr
      unfold fX6_findForm_L35 at hr
      refine z_iload_n hX dX6_findForm_35 3 rfl ?_
      refine z_getF hX dX6_findForm_36 (by decide +kernel) ?_
      refine z_flen hX dX6_findForm_39 ?_
      refine z_icmp_ge (tgt := 151) hX dX6_findForm_40 (by decide) rfl (wr_of (by decide) (by decide)) hr (fun hr => ?_) (fun hr => ?_)
      · refine z_aload_n hX dX6_findForm_151 0 rfl ?_
        refine z_getI hX dX6_findForm_152 fl_146 0 rfl rfl ?_
        refine z_iconst hX dX6_findForm_155 ?_
        refine z_icmp_eq (tgt := 163) hX dX6_findForm_156 (by decide) rfl (wr_of (by decide) (by decide)) hr (fun hr => ?_) (fun hr => ?_)
        · refine z_iconst hX dX6_findForm_163 ?_
          obtain rfl := Option.some.inj hr
          exact hQ _ _ dX6_findForm_164 hf (Or.inl rfl)
        · refine z_iconst hX dX6_findForm_159 ?_
          refine z_goto (tgt := 164) hX dX6_findForm_160 (by decide) ?_
          obtain rfl := Option.some.inj hr
          exact hQ _ _ dX6_findForm_164 hf (Or.inr rfl)
      · refine z_getF hX dX6_findForm_43 (by decide +kernel) ?_
        refine z_iload_n hX dX6_findForm_46 3 rfl ?_
        refine z_aaldF hX dX6_findForm_47 hr (fun hr => ?_)
        obtain ⟨hi16, hr⟩ := z_ifg hr
        obtain ⟨r3, hc3, hr⟩ := z_bind hr
        refine z_callT_i (i := (Int.toNat x3)) (As := []) (k1 := 0) (n1 := 0) (nA := 0) hX (by omega) (mJ0_length_8abf5 hc3) dX6_findForm_48 gX6_findForm_J0_length_8abf5 rfl ⟨rfl, by decide, by decide, by decide +kernel⟩ ⟨by decide, by decide⟩ ⟨by decide, by decide⟩ rfl rfl (Nat.le_of_ble_eq_true rfl) (by decide +kernel) rfl rfl (fun hg3 => ?_)
        refine z_istore (lv1 := [(4, .int (iI r3)), (0, .ref (ad 30)), (1, .int (iI x1)), (2, .int (iI x2)), (3, .int (iI x3))]) hX dX6_findForm_51 (by decide) rfl ?_
        refine z_iconst hX dX6_findForm_53 ?_
        refine z_istore (lv1 := [(5, .int (iI 0)), (4, .int (iI r3)), (0, .ref (ad 30)), (1, .int (iI x1)), (2, .int (iI x2)), (3, .int (iI x3))]) hX dX6_findForm_54 (by decide) rfl ?_
        refine z_lv [2, 3, 4, 5, 1, 0] rfl ?_
        exact B56 zF x1 x2 x3 r3 0 h hf hr
  unfold fX6_findForm at hr
  refine z_aload_n hX dX6_findForm_0 0 rfl ?_
  refine z_iconst hX dX6_findForm_1 ?_
  refine z_putI hX dX6_findForm_2 fl_146 pu_X6_18 0 rfl rfl ?_
  have hf : zfr [30] h0 (hs h0 30 18 (-1)) := zfr_hs hf (by decide)
  refine z_aload_n hX dX6_findForm_5 0 rfl ?_
  refine z_iload_n hX dX6_findForm_6 1 rfl ?_
  refine z_putI hX dX6_findForm_7 fl_149 pu_X6_21 0 rfl rfl ?_
  have hf : zfr [30] h0 (hs (hs h0 30 18 (-1)) 30 21 p1) := zfr_hs hf (by decide)
  refine z_iload_n hX dX6_findForm_10 1 rfl ?_
  refine z_iload_n hX dX6_findForm_11 2 rfl ?_
  refine z_icmp_eq (tgt := 31) hX dX6_findForm_12 (by decide) rfl rfl hr (fun hr => ?_) (fun hr => ?_)
  · refine z_iconst hX dX6_findForm_31 ?_
    obtain rfl := Option.some.inj hr
    exact hQ _ _ dX6_findForm_32 hf (Or.inl rfl)
  · refine z_aload_n hX dX6_findForm_15 0 rfl ?_
    refine z_getR (j := 39) hX dX6_findForm_16 fl_39 0 rfl rfl ?_
    refine z_iload_n hX dX6_findForm_19 1 rfl ?_
    refine z_iaload (b := 2000) hX dX6_findForm_20 9 rfl (by decide) rfl hr (fun hr => ?_)
    refine z_bipush hX dX6_findForm_21 (by decide +kernel) ?_
    refine z_bipush hX dX6_findForm_23 (by decide +kernel) ?_
    obtain ⟨r4, hc4, hr⟩ := z_bind hr
    refine z_callS_i (As := [.int (iI (((hs (hs h0 30 18 (-1)) 30 21 p1)) 39 p1)), .int (iI 65), .int (iI 90)]) (k1 := 0) (n1 := 0) (nA := 3) hX (mX6_isIn hc4) dX6_findForm_25 gX6_findForm_X6_isIn rfl ⟨by decide, by decide, by decide +kernel⟩ ⟨by decide, by decide⟩ ⟨by decide, by decide⟩ rfl rfl (Nat.le_of_ble_eq_true rfl) (by decide +kernel) rfl rfl (fun hg4 => ?_)
    refine z_if_ne (tgt := 33) hX dX6_findForm_28 (by decide) rfl hr (fun hr => ?_) (fun hr => ?_)
    · refine z_iconst hX dX6_findForm_33 ?_
      refine z_istore_n (lv1 := [(3, .int (iI 0)), (0, .ref (ad 30)), (1, .int (iI p1)), (2, .int (iI p2))]) hX dX6_findForm_34 (by decide) rfl ?_
      refine z_lv [1, 2, 3, 0] rfl ?_
      exact B35 zF p1 p2 0 (hs (hs h0 30 18 (-1)) 30 21 p1) hf hr
    · refine z_iconst hX dX6_findForm_31 ?_
      obtain rfl := Option.some.inj hr
      exact hQ _ _ dX6_findForm_32 hf (Or.inl rfl)

def fJ1_canEncode_9a6ad (p1 : Int) (h : HS) : Option (Int) := if wr p1 < 0 then some 0 else if (255 : Int) < wr p1 then some 0 else some 1
set_option maxRecDepth 100000 in
set_option maxHeartbeats 4000000 in
theorem mJ1_canEncode_9a6ad {G : ZG} {l0 : Launch} {ad : Nat → Nat} {h0 : HS} {p1 : Int} {o : Int} (hr : fJ1_canEncode_9a6ad p1 h0 = some o) : ZMi G l0 yJ1_canEncode_9a6ad wsJ1_canEncode_9a6ad ({ frames := 0, cells := 0, slots := 0, locals := 0 }) [.int (iI p1)] [] ad h0 [] o h0 := by
  refine ZMi.ofZ (cc := cJ1_canEncode_9a6ad) (maxL := 1) (ret := (some .boolean)) (own := RJ1) (lv0 := [(0, .int (iI p1))]) (by decide) rfl rfl rfl (Nat.le_of_ble_eq_true rfl) rfl ?_
  intro X hX hQ
  have hf : zfr [] h0 h0 := zfr_rf
  unfold fJ1_canEncode_9a6ad at hr
  refine z_iload_n hX dJ1_canEncode_9a6ad_0 0 rfl ?_
  refine z_if_lt (tgt := 15) hX dJ1_canEncode_9a6ad_1 (by decide) rfl hr (fun hr => ?_) (fun hr => ?_)
  · refine z_iconst hX dJ1_canEncode_9a6ad_15 ?_
    obtain rfl := Option.some.inj hr
    exact hQ _ _ dJ1_canEncode_9a6ad_16 hf (Or.inl rfl)
  · refine z_iload_n hX dJ1_canEncode_9a6ad_4 0 rfl ?_
    refine z_sipush hX dJ1_canEncode_9a6ad_5 (by decide +kernel) ?_
    refine z_icmp_gt (tgt := 15) hX dJ1_canEncode_9a6ad_8 (by decide) rfl (wr_of (by decide) (by decide)) hr (fun hr => ?_) (fun hr => ?_)
    · refine z_iconst hX dJ1_canEncode_9a6ad_15 ?_
      obtain rfl := Option.some.inj hr
      exact hQ _ _ dJ1_canEncode_9a6ad_16 hf (Or.inl rfl)
    · refine z_iconst hX dJ1_canEncode_9a6ad_11 ?_
      refine z_goto (tgt := 16) hX dJ1_canEncode_9a6ad_12 (by decide) ?_
      obtain rfl := Option.some.inj hr
      exact hQ _ _ dJ1_canEncode_9a6ad_16 hf (Or.inr rfl)

def fJ1_indexOfChar_4cfef_L7 : Nat → Nat → Int → Int → Int → HS → Option (Int)
  | 0, _, _, _, _, _ => none
  | nf + 1, x0, x3, x4, x5, h => if wr x3 ≤ wr x5 then some (-1) else if x0 < 16 ∧ 0 ≤ x5 ∧ x5 < zln x0 then if wr (zbt x0 x5) = wr x4 then some x5 else fJ1_indexOfChar_4cfef_L7 nf x0 x3 x4 (x5 + 1) h else none
def fJ1_indexOfChar_4cfef (i1 : Nat) (p2 : Int) (p3 : Int) (p4 : Int) (h : HS) : Option (Int) := fJ1_indexOfChar_4cfef_L7 zF i1 p4 (zi2b p2) p3 h
set_option maxRecDepth 100000 in
set_option maxHeartbeats 4000000 in
theorem mJ1_indexOfChar_4cfef {G : ZG} {l0 : Launch} {ad : Nat → Nat} {h0 : HS} {i1 : Nat} {p2 : Int} {p3 : Int} {p4 : Int} {o : Int} (hr : fJ1_indexOfChar_4cfef i1 p2 p3 p4 h0 = some o) : ZMi G l0 yJ1_indexOfChar_4cfef wsJ1_indexOfChar_4cfef ({ frames := 0, cells := 0, slots := 0, locals := 0 }) [.ref (G.2.2.2 (2000 + i1)), .int (iI p2), .int (iI p3), .int (iI p4)] [] ad h0 [] o h0 := by
  refine ZMi.of (cc := cJ1_indexOfChar_4cfef) (maxL := 6) (ret := (some .int)) (own := RJ1) (lv0 := [(0, .ref (G.2.2.2 (2000 + i1))), (1, .int (iI p2)), (2, .int (iI p3)), (3, .int (iI p4))]) (by decide) rfl rfl rfl (Nat.le_of_ble_eq_true rfl) rfl ?_
  intro X hX hQ
  have hf : zfr [] h0 h0 := zfr_rf
  have B7 : ∀ (nf : Nat) (x0 : Nat) (x3 : Int) (x4 : Int) (x5 : Int), fJ1_indexOfChar_4cfef_L7 nf x0 x3 x4 x5 h0 = some o → ZW G X [] ad h0 0 0 [(0, .ref (G.2.2.2 (2000 + x0))), (3, .int (iI x3)), (4, .int (iI x4)), (5, .int (iI x5))] 7 [] := by
    intro nf
    induction nf with
    | zero => intro x0 x3 x4 x5 hr; exact z_none hr
    | succ n7 ih7 =>
      intro x0 x3 x4 x5 hr
      unfold fJ1_indexOfChar_4cfef_L7 at hr
      refine z_iload hX dJ1_indexOfChar_4cfef_7 3 rfl ?_
      refine z_iload_n hX dJ1_indexOfChar_4cfef_9 1 rfl ?_
      refine z_icmp_ge (tgt := 31) hX dJ1_indexOfChar_4cfef_10 (by decide) rfl rfl hr (fun hr => ?_) (fun hr => ?_)
      · refine z_iconst hX dJ1_indexOfChar_4cfef_31 ?_
        obtain rfl := Option.some.inj hr
        exact hQ _ _ dJ1_indexOfChar_4cfef_32 hf
      · refine z_aload_n hX dJ1_indexOfChar_4cfef_13 0 rfl ?_
        refine z_iload hX dJ1_indexOfChar_4cfef_14 3 rfl ?_
        refine z_bald hX dJ1_indexOfChar_4cfef_16 hr (fun hr => ?_)
        refine z_iload hX dJ1_indexOfChar_4cfef_17 2 rfl ?_
        refine z_icmp_ne (tgt := 25) hX dJ1_indexOfChar_4cfef_19 (by decide) rfl rfl hr (fun hr => ?_) (fun hr => ?_)
        · refine z_iinc (lv1 := [(5, .int (iI (x5 + 1))), (0, .ref (G.2.2.2 (2000 + x0))), (3, .int (iI x3)), (4, .int (iI x4))]) hX dJ1_indexOfChar_4cfef_25 3 rfl (by decide) rfl ?_
          refine z_goto (tgt := 7) hX dJ1_indexOfChar_4cfef_28 (by decide) ?_
          refine z_lv [1, 2, 3, 0] rfl ?_
          exact ih7 x0 x3 x4 (x5 + 1) hr
        · refine z_iload hX dJ1_indexOfChar_4cfef_22 3 rfl ?_
          obtain rfl := Option.some.inj hr
          exact hQ _ _ dJ1_indexOfChar_4cfef_24 hf
  unfold fJ1_indexOfChar_4cfef at hr
  refine z_iload_n hX dJ1_indexOfChar_4cfef_0 1 rfl ?_
  refine z_i2b hX dJ1_indexOfChar_4cfef_1 ?_
  refine z_istore (lv1 := [(4, .int (iI (zi2b p2))), (0, .ref (G.2.2.2 (2000 + i1))), (1, .int (iI p2)), (2, .int (iI p3)), (3, .int (iI p4))]) hX dJ1_indexOfChar_4cfef_2 (by decide) rfl ?_
  refine z_iload_n hX dJ1_indexOfChar_4cfef_4 3 rfl ?_
  refine z_istore (lv1 := [(5, .int (iI p3)), (4, .int (iI (zi2b p2))), (0, .ref (G.2.2.2 (2000 + i1))), (1, .int (iI p2)), (2, .int (iI p3)), (3, .int (iI p4))]) hX dJ1_indexOfChar_4cfef_5 (by decide) rfl ?_
  refine z_lv [2, 5, 1, 0] rfl ?_
  exact B7 zF i1 p4 (zi2b p2) p3 hr

def fJ1_indexOf_4cfef (i1 : Nat) (p2 : Int) (p3 : Int) (p4 : Int) (h : HS) : Option (Int) := (fJ1_canEncode_9a6ad p2 h).bind fun r1 => if wr r1 = 0 then some (-1) else if i1 < 16 then if wr (zmax p3 0) < wr (zmin p4 (zln i1)) then (fJ1_indexOfChar_4cfef i1 p2 (zmax p3 0) (zmin p4 (zln i1)) h).bind fun r2 => some r2 else some (-1) else none
set_option maxRecDepth 100000 in
set_option maxHeartbeats 4000000 in
theorem mJ1_indexOf_4cfef {G : ZG} {l0 : Launch} {ad : Nat → Nat} {h0 : HS} {i1 : Nat} {p2 : Int} {p3 : Int} {p4 : Int} {o : Int} (hr : fJ1_indexOf_4cfef i1 p2 p3 p4 h0 = some o) : ZMi G l0 yJ1_indexOf_4cfef wsJ1_indexOf_4cfef ({ frames := 1, cells := 0, slots := 0, locals := 25 }) [.ref (G.2.2.2 (2000 + i1)), .int (iI p2), .int (iI p3), .int (iI p4)] [] ad h0 [] o h0 := by
  refine ZMi.of (cc := cJ1_indexOf_4cfef) (maxL := 4) (ret := (some .int)) (own := RJ1) (lv0 := [(0, .ref (G.2.2.2 (2000 + i1))), (1, .int (iI p2)), (2, .int (iI p3)), (3, .int (iI p4))]) (by decide) rfl rfl rfl (Nat.le_of_ble_eq_true rfl) rfl ?_
  intro X hX hQ
  have hf : zfr [] h0 h0 := zfr_rf
  unfold fJ1_indexOf_4cfef at hr
  refine z_iload_n hX dJ1_indexOf_4cfef_0 1 rfl ?_
  obtain ⟨r1, hc1, hr⟩ := z_bind hr
  refine z_callS_i (As := [.int (iI p2)]) (k1 := 0) (n1 := 0) (nA := 1) hX (mJ1_canEncode_9a6ad hc1) dJ1_indexOf_4cfef_1 gJ1_indexOf_4cfef_J1_canEncode_9a6ad rfl ⟨by decide, by decide, by decide +kernel⟩ ⟨by decide, by decide⟩ ⟨by decide, by decide⟩ rfl rfl (Nat.le_of_ble_eq_true rfl) (by decide +kernel) rfl rfl (fun hg1 => ?_)
  refine z_if_ne (tgt := 9) hX dJ1_indexOf_4cfef_4 (by decide) rfl hr (fun hr => ?_) (fun hr => ?_)
  · refine z_iload_n hX dJ1_indexOf_4cfef_9 2 rfl ?_
    refine z_iconst hX dJ1_indexOf_4cfef_10 ?_
    refine z_mmax hX dJ1_indexOf_4cfef_11 (by decide +kernel) (by decide +kernel) (by decide +kernel) (by decide +kernel) (by decide) (Nat.le_of_ble_eq_true rfl) (Nat.le_of_ble_eq_true rfl) (Nat.le_of_ble_eq_true rfl) ?_
    refine z_istore_n (lv1 := [(2, .int (iI (zmax p3 0))), (0, .ref (G.2.2.2 (2000 + i1))), (1, .int (iI p2)), (3, .int (iI p4))]) hX dJ1_indexOf_4cfef_14 (by decide) rfl ?_
    refine z_iload_n hX dJ1_indexOf_4cfef_15 3 rfl ?_
    refine z_aload_n hX dJ1_indexOf_4cfef_16 1 rfl ?_
    refine z_blen hX dJ1_indexOf_4cfef_17 hr (fun hr => ?_)
    refine z_mmin hX dJ1_indexOf_4cfef_18 (by decide +kernel) (by decide +kernel) (by decide +kernel) (by decide +kernel) (by decide) (Nat.le_of_ble_eq_true rfl) (Nat.le_of_ble_eq_true rfl) (Nat.le_of_ble_eq_true rfl) ?_
    refine z_istore_n (lv1 := [(3, .int (iI (zmin p4 (zln i1)))), (2, .int (iI (zmax p3 0))), (0, .ref (G.2.2.2 (2000 + i1))), (1, .int (iI p2))]) hX dJ1_indexOf_4cfef_21 (by decide) rfl ?_
    refine z_iload_n hX dJ1_indexOf_4cfef_22 1 rfl ?_
    refine z_iload_n hX dJ1_indexOf_4cfef_23 0 rfl ?_
    refine z_icmp_lt (tgt := 29) hX dJ1_indexOf_4cfef_24 (by decide) rfl rfl hr (fun hr => ?_) (fun hr => ?_)
    · refine z_aload_n hX dJ1_indexOf_4cfef_29 2 rfl ?_
      refine z_iload_n hX dJ1_indexOf_4cfef_30 3 rfl ?_
      refine z_iload_n hX dJ1_indexOf_4cfef_31 1 rfl ?_
      refine z_iload_n hX dJ1_indexOf_4cfef_32 0 rfl ?_
      obtain ⟨r2, hc2, hr⟩ := z_bind hr
      refine z_callS_i (As := [.ref (G.2.2.2 (2000 + i1)), .int (iI p2), .int (iI (zmax p3 0)), .int (iI (zmin p4 (zln i1)))]) (k1 := 0) (n1 := 0) (nA := 4) hX (mJ1_indexOfChar_4cfef hc2) dJ1_indexOf_4cfef_33 gJ1_indexOf_4cfef_J1_indexOfChar_4cfef rfl ⟨by decide, by decide, by decide +kernel⟩ ⟨by decide, by decide⟩ ⟨by decide, by decide⟩ rfl rfl (Nat.le_of_ble_eq_true rfl) (by decide +kernel) rfl rfl (fun hg2 => ?_)
      obtain rfl := Option.some.inj hr
      exact hQ _ _ dJ1_indexOf_4cfef_36 hf
    · refine z_iconst hX dJ1_indexOf_4cfef_27 ?_
      obtain rfl := Option.some.inj hr
      exact hQ _ _ dJ1_indexOf_4cfef_28 hf
  · refine z_iconst hX dJ1_indexOf_4cfef_7 ?_
    obtain rfl := Option.some.inj hr
    exact hQ _ _ dJ1_indexOf_4cfef_8 hf

def fJ0_indexOf_7cf53 (i0 : Nat) (p1 : Int) (p2 : Int) (h : HS) : Option (Int) := if i0 < 16 then (fJ0_isLatin1_aae02 i0 h).bind fun r1 => if wr r1 = 0 then none else if i0 < 16 then if i0 < 16 then (fJ0_length_8abf5 i0 h).bind fun r2 => (fJ1_indexOf_4cfef i0 p1 p2 r2 h).bind fun r3 => some r3 else none else none else none
set_option maxRecDepth 100000 in
set_option maxHeartbeats 4000000 in
theorem mJ0_indexOf_7cf53 {G : ZG} {l0 : Launch} {ad : Nat → Nat} {h0 : HS} {i0 : Nat} {p1 : Int} {p2 : Int} {o : Int} (hr : fJ0_indexOf_7cf53 i0 p1 p2 h0 = some o) : ZMi G l0 yJ0_indexOf_7cf53 wsJ0_indexOf_7cf53 ({ frames := 2, cells := 0, slots := 0, locals := 48 }) [.ref (G.2.2.2 (1000 + i0)), .int (iI p1), .int (iI p2)] [] ad h0 [] o h0 := by
  refine ZMi.of (cc := cJ0_indexOf_7cf53) (maxL := 3) (ret := (some .int)) (own := RJ0) (lv0 := [(0, .ref (G.2.2.2 (1000 + i0))), (1, .int (iI p1)), (2, .int (iI p2))]) (by decide) rfl rfl rfl (Nat.le_of_ble_eq_true rfl) rfl ?_
  intro X hX hQ
  have hf : zfr [] h0 h0 := zfr_rf
  unfold fJ0_indexOf_7cf53 at hr
  refine z_aload_n hX dJ0_indexOf_7cf53_0 0 rfl ?_
  obtain ⟨hi16, hr⟩ := z_ifg hr
  obtain ⟨r1, hc1, hr⟩ := z_bind hr
  refine z_callT_i (i := i0) (As := []) (k1 := 0) (n1 := 0) (nA := 0) hX (by omega) (mJ0_isLatin1_aae02 hc1) dJ0_indexOf_7cf53_1 gJ0_indexOf_7cf53_J0_isLatin1_aae02 rfl ⟨rfl, by decide, by decide, by decide +kernel⟩ ⟨by decide, by decide⟩ ⟨by decide, by decide⟩ rfl rfl (Nat.le_of_ble_eq_true rfl) (by decide +kernel) rfl rfl (fun hg1 => ?_)
  refine z_if_eq (tgt := 23) hX dJ0_indexOf_7cf53_4 (by decide) rfl hr (fun hr => ?_) (fun hr => ?_)
  · exact z_none hr
  · refine z_aload_n hX dJ0_indexOf_7cf53_7 0 rfl ?_
    refine z_value hX dJ0_indexOf_7cf53_8 (by decide +kernel) hr (fun hr => ?_)
    refine z_iload_n hX dJ0_indexOf_7cf53_11 1 rfl ?_
    refine z_iload_n hX dJ0_indexOf_7cf53_12 2 rfl ?_
    refine z_aload_n hX dJ0_indexOf_7cf53_13 0 rfl ?_
    obtain ⟨hi16, hr⟩ := z_ifg hr
    obtain ⟨r2, hc2, hr⟩ := z_bind hr
    refine z_callT_i (i := i0) (As := []) (k1 := 0) (n1 := 0) (nA := 0) hX (by omega) (mJ0_length_8abf5 hc2) dJ0_indexOf_7cf53_14 gJ0_indexOf_7cf53_J0_length_8abf5 rfl ⟨rfl, by decide, by decide, by decide +kernel⟩ ⟨by decide, by decide⟩ ⟨by decide, by decide⟩ rfl rfl (Nat.le_of_ble_eq_true rfl) (by decide +kernel) rfl rfl (fun hg2 => ?_)
    obtain ⟨r3, hc3, hr⟩ := z_bind hr
    refine z_callS_i (As := [.ref (G.2.2.2 (2000 + i0)), .int (iI p1), .int (iI p2), .int (iI r2)]) (k1 := 0) (n1 := 0) (nA := 4) hX (mJ1_indexOf_4cfef hc3) dJ0_indexOf_7cf53_17 gJ0_indexOf_7cf53_J1_indexOf_4cfef rfl ⟨by decide, by decide, by decide +kernel⟩ ⟨by decide, by decide⟩ ⟨by decide, by decide⟩ rfl rfl (Nat.le_of_ble_eq_true rfl) (by decide +kernel) rfl rfl (fun hg3 => ?_)
    refine z_goto (tgt := 36) hX dJ0_indexOf_7cf53_20 (by decide) ?_
    obtain rfl := Option.some.inj hr
    exact hQ _ _ dJ0_indexOf_7cf53_36 hf

def fJ0_indexOf_0f7a4 (i0 : Nat) (p1 : Int) (h : HS) : Option (Int) := if i0 < 16 then (fJ0_indexOf_7cf53 i0 p1 0 h).bind fun r1 => some r1 else none
set_option maxRecDepth 100000 in
set_option maxHeartbeats 4000000 in
theorem mJ0_indexOf_0f7a4 {G : ZG} {l0 : Launch} {ad : Nat → Nat} {h0 : HS} {i0 : Nat} {p1 : Int} {o : Int} (hr : fJ0_indexOf_0f7a4 i0 p1 h0 = some o) : ZMi G l0 yJ0_indexOf_0f7a4 wsJ0_indexOf_0f7a4 ({ frames := 3, cells := 0, slots := 0, locals := 70 }) [.ref (G.2.2.2 (1000 + i0)), .int (iI p1)] [] ad h0 [] o h0 := by
  refine ZMi.of (cc := cJ0_indexOf_0f7a4) (maxL := 2) (ret := (some .int)) (own := RJ0) (lv0 := [(0, .ref (G.2.2.2 (1000 + i0))), (1, .int (iI p1))]) (by decide) rfl rfl rfl (Nat.le_of_ble_eq_true rfl) rfl ?_
  intro X hX hQ
  have hf : zfr [] h0 h0 := zfr_rf
  unfold fJ0_indexOf_0f7a4 at hr
  refine z_aload_n hX dJ0_indexOf_0f7a4_0 0 rfl ?_
  refine z_iload_n hX dJ0_indexOf_0f7a4_1 1 rfl ?_
  refine z_iconst hX dJ0_indexOf_0f7a4_2 ?_
  obtain ⟨hi16, hr⟩ := z_ifg hr
  obtain ⟨r1, hc1, hr⟩ := z_bind hr
  refine z_callT_i (i := i0) (As := [.int (iI p1), .int (iI 0)]) (k1 := 0) (n1 := 0) (nA := 2) hX (by omega) (mJ0_indexOf_7cf53 hc1) dJ0_indexOf_0f7a4_3 gJ0_indexOf_0f7a4_J0_indexOf_7cf53 rfl ⟨rfl, by decide, by decide, by decide +kernel⟩ ⟨by decide, by decide⟩ ⟨by decide, by decide⟩ rfl rfl (Nat.le_of_ble_eq_true rfl) (by decide +kernel) rfl rfl (fun hg1 => ?_)
  obtain rfl := Option.some.inj hr
  exact hQ _ _ dJ0_indexOf_0f7a4_6 hf

def fJ1_lastIndexOf_7d655_L18 : Nat → Nat → Int → Int → HS → Option (Int)
  | 0, _, _, _, _ => none
  | nf + 1, x0, x1, x3, h => if wr x3 < 0 then some (-1) else if x0 < 16 ∧ 0 ≤ x3 ∧ x3 < zln x0 then if wr (zbt x0 x3) = wr (zi2b x1) then some x3 else fJ1_lastIndexOf_7d655_L18 nf x0 x1 (x3 + (-1)) h else none
def fJ1_lastIndexOf_7d655 (i1 : Nat) (p2 : Int) (p3 : Int) (h : HS) : Option (Int) := (fJ1_canEncode_9a6ad p2 h).bind fun r1 => if wr r1 = 0 then some (-1) else if i1 < 16 then fJ1_lastIndexOf_7d655_L18 zF i1 p2 (zmin p3 ((zln i1) - 1)) h else none
set_option maxRecDepth 100000 in
set_option maxHeartbeats 4000000 in
theorem mJ1_lastIndexOf_7d655 {G : ZG} {l0 : Launch} {ad : Nat → Nat} {h0 : HS} {i1 : Nat} {p2 : Int} {p3 : Int} {o : Int} (hr : fJ1_lastIndexOf_7d655 i1 p2 p3 h0 = some o) : ZMi G l0 yJ1_lastIndexOf_7d655 wsJ1_lastIndexOf_7d655 ({ frames := 1, cells := 0, slots := 0, locals := 21 }) [.ref (G.2.2.2 (2000 + i1)), .int (iI p2), .int (iI p3)] [] ad h0 [] o h0 := by
  refine ZMi.of (cc := cJ1_lastIndexOf_7d655) (maxL := 4) (ret := (some .int)) (own := RJ1) (lv0 := [(0, .ref (G.2.2.2 (2000 + i1))), (1, .int (iI p2)), (2, .int (iI p3))]) (by decide) rfl rfl rfl (Nat.le_of_ble_eq_true rfl) rfl ?_
  intro X hX hQ
  have hf : zfr [] h0 h0 := zfr_rf
  have B18 : ∀ (nf : Nat) (x0 : Nat) (x1 : Int) (x3 : Int), fJ1_lastIndexOf_7d655_L18 nf x0 x1 x3 h0 = some o → ZW G X [] ad h0 0 0 [(0, .ref (G.2.2.2 (2000 + x0))), (1, .int (iI x1)), (3, .int (iI x3))] 18 [] := by
    intro nf
    induction nf with
    | zero => intro x0 x1 x3 hr; exact z_none hr
    | succ n18 ih18 =>
      intro x0 x1 x3 hr
      unfold fJ1_lastIndexOf_7d655_L18 at hr
      refine z_iload_n hX dJ1_lastIndexOf_7d655_18 2 rfl ?_
      refine z_if_lt (tgt := 38) hX dJ1_lastIndexOf_7d655_19 (by decide) rfl hr (fun hr => ?_) (fun hr => ?_)
      · refine z_iconst hX dJ1_lastIndexOf_7d655_38 ?_
        obtain rfl := Option.some.inj hr
        exact hQ _ _ dJ1_lastIndexOf_7d655_39 hf
      · refine z_aload_n hX dJ1_lastIndexOf_7d655_22 0 rfl ?_
        refine z_iload_n hX dJ1_lastIndexOf_7d655_23 2 rfl ?_
        refine z_bald hX dJ1_lastIndexOf_7d655_24 hr (fun hr => ?_)
        refine z_iload_n hX dJ1_lastIndexOf_7d655_25 1 rfl ?_
        refine z_i2b hX dJ1_lastIndexOf_7d655_26 ?_
        refine z_icmp_ne (tgt := 32) hX dJ1_lastIndexOf_7d655_27 (by decide) rfl rfl hr (fun hr => ?_) (fun hr => ?_)
        · refine z_iinc (lv1 := [(3, .int (iI (x3 + (-1)))), (0, .ref (G.2.2.2 (2000 + x0))), (1, .int (iI x1))]) hX dJ1_lastIndexOf_7d655_32 2 rfl (by decide) rfl ?_
          refine z_goto (tgt := 18) hX dJ1_lastIndexOf_7d655_35 (by decide) ?_
          refine z_lv [1, 2, 0] rfl ?_
          exact ih18 x0 x1 (x3 + (-1)) hr
        · refine z_iload_n hX dJ1_lastIndexOf_7d655_30 2 rfl ?_
          obtain rfl := Option.some.inj hr
          exact hQ _ _ dJ1_lastIndexOf_7d655_31 hf
  unfold fJ1_lastIndexOf_7d655 at hr
  refine z_iload_n hX dJ1_lastIndexOf_7d655_0 1 rfl ?_
  obtain ⟨r1, hc1, hr⟩ := z_bind hr
  refine z_callS_i (As := [.int (iI p2)]) (k1 := 0) (n1 := 0) (nA := 1) hX (mJ1_canEncode_9a6ad hc1) dJ1_lastIndexOf_7d655_1 gJ1_lastIndexOf_7d655_J1_canEncode_9a6ad rfl ⟨by decide, by decide, by decide +kernel⟩ ⟨by decide, by decide⟩ ⟨by decide, by decide⟩ rfl rfl (Nat.le_of_ble_eq_true rfl) (by decide +kernel) rfl rfl (fun hg1 => ?_)
  refine z_if_ne (tgt := 9) hX dJ1_lastIndexOf_7d655_4 (by decide) rfl hr (fun hr => ?_) (fun hr => ?_)
  · refine z_iload_n hX dJ1_lastIndexOf_7d655_9 2 rfl ?_
    refine z_aload_n hX dJ1_lastIndexOf_7d655_10 0 rfl ?_
    refine z_blen hX dJ1_lastIndexOf_7d655_11 hr (fun hr => ?_)
    refine z_iconst hX dJ1_lastIndexOf_7d655_12 ?_
    refine z_isub hX dJ1_lastIndexOf_7d655_13 ?_
    refine z_mmin hX dJ1_lastIndexOf_7d655_14 (by decide +kernel) (by decide +kernel) (by decide +kernel) (by decide +kernel) (by decide) (Nat.le_of_ble_eq_true rfl) (Nat.le_of_ble_eq_true rfl) (Nat.le_of_ble_eq_true rfl) ?_
    refine z_istore_n (lv1 := [(3, .int (iI (zmin p3 ((zln i1) - 1)))), (0, .ref (G.2.2.2 (2000 + i1))), (1, .int (iI p2)), (2, .int (iI p3))]) hX dJ1_lastIndexOf_7d655_17 (by decide) rfl ?_
    refine z_lv [1, 2, 0] rfl ?_
    exact B18 zF i1 p2 (zmin p3 ((zln i1) - 1)) hr
  · refine z_iconst hX dJ1_lastIndexOf_7d655_7 ?_
    obtain rfl := Option.some.inj hr
    exact hQ _ _ dJ1_lastIndexOf_7d655_8 hf

def fJ0_lastIndexOf_7cf53 (i0 : Nat) (p1 : Int) (p2 : Int) (h : HS) : Option (Int) := if i0 < 16 then (fJ0_isLatin1_aae02 i0 h).bind fun r1 => if wr r1 = 0 then none else if i0 < 16 then (fJ1_lastIndexOf_7d655 i0 p1 p2 h).bind fun r2 => some r2 else none else none
set_option maxRecDepth 100000 in
set_option maxHeartbeats 4000000 in
theorem mJ0_lastIndexOf_7cf53 {G : ZG} {l0 : Launch} {ad : Nat → Nat} {h0 : HS} {i0 : Nat} {p1 : Int} {p2 : Int} {o : Int} (hr : fJ0_lastIndexOf_7cf53 i0 p1 p2 h0 = some o) : ZMi G l0 yJ0_lastIndexOf_7cf53 wsJ0_lastIndexOf_7cf53 ({ frames := 2, cells := 0, slots := 0, locals := 44 }) [.ref (G.2.2.2 (1000 + i0)), .int (iI p1), .int (iI p2)] [] ad h0 [] o h0 := by
  refine ZMi.of (cc := cJ0_lastIndexOf_7cf53) (maxL := 3) (ret := (some .int)) (own := RJ0) (lv0 := [(0, .ref (G.2.2.2 (1000 + i0))), (1, .int (iI p1)), (2, .int (iI p2))]) (by decide) rfl rfl rfl (Nat.le_of_ble_eq_true rfl) rfl ?_
  intro X hX hQ
  have hf : zfr [] h0 h0 := zfr_rf
  unfold fJ0_lastIndexOf_7cf53 at hr
  refine z_aload_n hX dJ0_lastIndexOf_7cf53_0 0 rfl ?_
  obtain ⟨hi16, hr⟩ := z_ifg hr
  obtain ⟨r1, hc1, hr⟩ := z_bind hr
  refine z_callT_i (i := i0) (As := []) (k1 := 0) (n1 := 0) (nA := 0) hX (by omega) (mJ0_isLatin1_aae02 hc1) dJ0_lastIndexOf_7cf53_1 gJ0_lastIndexOf_7cf53_J0_isLatin1_aae02 rfl ⟨rfl, by decide, by decide, by decide +kernel⟩ ⟨by decide, by decide⟩ ⟨by decide, by decide⟩ rfl rfl (Nat.le_of_ble_eq_true rfl) (by decide +kernel) rfl rfl (fun hg1 => ?_)
  refine z_if_eq (tgt := 19) hX dJ0_lastIndexOf_7cf53_4 (by decide) rfl hr (fun hr => ?_) (fun hr => ?_)
  · exact z_none hr
  · refine z_aload_n hX dJ0_lastIndexOf_7cf53_7 0 rfl ?_
    refine z_value hX dJ0_lastIndexOf_7cf53_8 (by decide +kernel) hr (fun hr => ?_)
    refine z_iload_n hX dJ0_lastIndexOf_7cf53_11 1 rfl ?_
    refine z_iload_n hX dJ0_lastIndexOf_7cf53_12 2 rfl ?_
    obtain ⟨r2, hc2, hr⟩ := z_bind hr
    refine z_callS_i (As := [.ref (G.2.2.2 (2000 + i0)), .int (iI p1), .int (iI p2)]) (k1 := 0) (n1 := 0) (nA := 3) hX (mJ1_lastIndexOf_7d655 hc2) dJ0_lastIndexOf_7cf53_13 gJ0_lastIndexOf_7cf53_J1_lastIndexOf_7d655 rfl ⟨by decide, by decide, by decide +kernel⟩ ⟨by decide, by decide⟩ ⟨by decide, by decide⟩ rfl rfl (Nat.le_of_ble_eq_true rfl) (by decide +kernel) rfl rfl (fun hg2 => ?_)
    refine z_goto (tgt := 28) hX dJ0_lastIndexOf_7cf53_16 (by decide) ?_
    obtain rfl := Option.some.inj hr
    exact hQ _ _ dJ0_lastIndexOf_7cf53_28 hf

def fJ0_lastIndexOf_0f7a4 (i0 : Nat) (p1 : Int) (h : HS) : Option (Int) := if i0 < 16 then (fJ0_length_8abf5 i0 h).bind fun r1 => if i0 < 16 then (fJ0_lastIndexOf_7cf53 i0 p1 (r1 - 1) h).bind fun r2 => some r2 else none else none
set_option maxRecDepth 100000 in
set_option maxHeartbeats 4000000 in
theorem mJ0_lastIndexOf_0f7a4 {G : ZG} {l0 : Launch} {ad : Nat → Nat} {h0 : HS} {i0 : Nat} {p1 : Int} {o : Int} (hr : fJ0_lastIndexOf_0f7a4 i0 p1 h0 = some o) : ZMi G l0 yJ0_lastIndexOf_0f7a4 wsJ0_lastIndexOf_0f7a4 ({ frames := 3, cells := 0, slots := 0, locals := 66 }) [.ref (G.2.2.2 (1000 + i0)), .int (iI p1)] [] ad h0 [] o h0 := by
  refine ZMi.of (cc := cJ0_lastIndexOf_0f7a4) (maxL := 2) (ret := (some .int)) (own := RJ0) (lv0 := [(0, .ref (G.2.2.2 (1000 + i0))), (1, .int (iI p1))]) (by decide) rfl rfl rfl (Nat.le_of_ble_eq_true rfl) rfl ?_
  intro X hX hQ
  have hf : zfr [] h0 h0 := zfr_rf
  unfold fJ0_lastIndexOf_0f7a4 at hr
  refine z_aload_n hX dJ0_lastIndexOf_0f7a4_0 0 rfl ?_
  refine z_iload_n hX dJ0_lastIndexOf_0f7a4_1 1 rfl ?_
  refine z_aload_n hX dJ0_lastIndexOf_0f7a4_2 0 rfl ?_
  obtain ⟨hi16, hr⟩ := z_ifg hr
  obtain ⟨r1, hc1, hr⟩ := z_bind hr
  refine z_callT_i (i := i0) (As := []) (k1 := 0) (n1 := 0) (nA := 0) hX (by omega) (mJ0_length_8abf5 hc1) dJ0_lastIndexOf_0f7a4_3 gJ0_lastIndexOf_0f7a4_J0_length_8abf5 rfl ⟨rfl, by decide, by decide, by decide +kernel⟩ ⟨by decide, by decide⟩ ⟨by decide, by decide⟩ rfl rfl (Nat.le_of_ble_eq_true rfl) (by decide +kernel) rfl rfl (fun hg1 => ?_)
  refine z_iconst hX dJ0_lastIndexOf_0f7a4_6 ?_
  refine z_isub hX dJ0_lastIndexOf_0f7a4_7 ?_
  obtain ⟨hi16, hr⟩ := z_ifg hr
  obtain ⟨r2, hc2, hr⟩ := z_bind hr
  refine z_callT_i (i := i0) (As := [.int (iI p1), .int (iI (r1 - 1))]) (k1 := 0) (n1 := 0) (nA := 2) hX (by omega) (mJ0_lastIndexOf_7cf53 hc2) dJ0_lastIndexOf_0f7a4_8 gJ0_lastIndexOf_0f7a4_J0_lastIndexOf_7cf53 rfl ⟨rfl, by decide, by decide, by decide +kernel⟩ ⟨by decide, by decide⟩ ⟨by decide, by decide⟩ rfl rfl (Nat.le_of_ble_eq_true rfl) (by decide +kernel) rfl rfl (fun hg2 => ?_)
  obtain rfl := Option.some.inj hr
  exact hQ _ _ dJ0_lastIndexOf_0f7a4_11 hf

def fX6_early (p1 : Int) (p2 : Int) (h : HS) : Option (Int) := if (0 : Int) ≤ (h 30 18) ∧ (h 30 18) < 16 then if (Int.toNat (h 30 18)) < 16 then (fJ0_indexOf_0f7a4 (Int.toNat (h 30 18)) p2 h).bind fun r1 => if (Int.toNat (h 30 18)) < 16 then (fJ0_lastIndexOf_0f7a4 (Int.toNat (h 30 18)) p2 h).bind fun r2 => if wr r1 = wr r2 then some (-1) else if (0 : Int) ≤ ((p1 + 1) + r1) ∧ ((p1 + 1) + r1) < 2000 then some (h 39 ((p1 + 1) + r1)) else none else none else none else none
set_option maxRecDepth 100000 in
set_option maxHeartbeats 4000000 in
theorem mX6_early {G : ZG} {l0 : Launch} {ad : Nat → Nat} {h0 : HS} {p1 : Int} {p2 : Int} {o : Int} (hr : fX6_early p1 p2 h0 = some o) : ZMi G l0 yX6_early wsX6_early ({ frames := 4, cells := 0, slots := 0, locals := 91 }) [.ref (ad 30), .int (iI p1), .int (iI p2)] sh_8 ad h0 [] o h0 := by
  refine ZMi.of (cc := cX6_early) (maxL := 5) (ret := (some .int)) (own := RX6) (lv0 := [(0, .ref (ad 30)), (1, .int (iI p1)), (2, .int (iI p2))]) (by decide) rfl rfl rfl (Nat.le_of_ble_eq_true rfl) rfl ?_
  intro X hX hQ
  have hf : zfr [] h0 h0 := zfr_rf
  have fl_146 : zFld wsX6_early RX6 146 6 RX6 TX6 26 18 := ⟨by decide +kernel, by decide +kernel, by decide, rfl⟩
  have fl_39 : zFld wsX6_early RX6 39 6 RX6 TX6 26 12 := ⟨by decide +kernel, by decide +kernel, by decide, rfl⟩
  unfold fX6_early at hr
  refine z_getF hX dX6_early_0 (by decide +kernel) ?_
  refine z_aload_n hX dX6_early_3 0 rfl ?_
  refine z_getI hX dX6_early_4 fl_146 0 rfl rfl ?_
  refine z_aaldF hX dX6_early_7 hr (fun hr => ?_)
  refine z_astore_n (lv1 := [(3, .ref (G.2.2.2 (1000 + (Int.toNat (h0 30 18))))), (0, .ref (ad 30)), (1, .int (iI p1)), (2, .int (iI p2))]) hX dX6_early_8 (by decide) rfl ?_
  refine z_aload_n hX dX6_early_9 0 rfl ?_
  refine z_iload_n hX dX6_early_10 3 rfl ?_
  obtain ⟨hi16, hr⟩ := z_ifg hr
  obtain ⟨r1, hc1, hr⟩ := z_bind hr
  refine z_callT_i (i := (Int.toNat (h0 30 18))) (As := [.int (iI p2)]) (k1 := 0) (n1 := 0) (nA := 1) hX (by omega) (mJ0_indexOf_0f7a4 hc1) dX6_early_11 gX6_early_J0_indexOf_0f7a4 rfl ⟨rfl, by decide, by decide, by decide +kernel⟩ ⟨by decide, by decide⟩ ⟨by decide, by decide⟩ rfl rfl (Nat.le_of_ble_eq_true rfl) (by decide +kernel) rfl rfl (fun hg1 => ?_)
  refine z_istore (lv1 := [(4, .int (iI r1)), (3, .ref (G.2.2.2 (1000 + (Int.toNat (h0 30 18))))), (0, .ref (ad 30)), (1, .int (iI p1)), (2, .int (iI p2))]) hX dX6_early_14 (by decide) rfl ?_
  refine z_iload hX dX6_early_16 0 rfl ?_
  refine z_aload_n hX dX6_early_18 1 rfl ?_
  refine z_iload_n hX dX6_early_19 4 rfl ?_
  obtain ⟨hi16, hr⟩ := z_ifg hr
  obtain ⟨r2, hc2, hr⟩ := z_bind hr
  refine z_callT_i (i := (Int.toNat (h0 30 18))) (As := [.int (iI p2)]) (k1 := 0) (n1 := 0) (nA := 1) hX (by omega) (mJ0_lastIndexOf_0f7a4 hc2) dX6_early_20 gX6_early_J0_lastIndexOf_0f7a4 rfl ⟨rfl, by decide, by decide, by decide +kernel⟩ ⟨by decide, by decide⟩ ⟨by decide, by decide⟩ rfl rfl (Nat.le_of_ble_eq_true rfl) (by decide +kernel) rfl rfl (fun hg2 => ?_)
  refine z_icmp_ne (tgt := 30) hX dX6_early_23 (by decide) rfl rfl hr (fun hr => ?_) (fun hr => ?_)
  · refine z_aload_n hX dX6_early_30 2 rfl ?_
    refine z_getR (j := 39) hX dX6_early_31 fl_39 0 rfl rfl ?_
    refine z_iload_n hX dX6_early_34 3 rfl ?_
    refine z_iconst hX dX6_early_35 ?_
    refine z_iadd hX dX6_early_36 ?_
    refine z_iload hX dX6_early_37 0 rfl ?_
    refine z_iadd hX dX6_early_39 ?_
    refine z_iaload (b := 2000) hX dX6_early_40 9 rfl (by decide) rfl hr (fun hr => ?_)
    obtain rfl := Option.some.inj hr
    exact hQ _ _ dX6_early_41 hf
  · refine z_iconst hX dX6_early_26 ?_
    refine z_goto (tgt := 41) hX dX6_early_27 (by decide) ?_
    obtain rfl := Option.some.inj hr
    exact hQ _ _ dX6_early_41 hf

def fX6_late (p1 : Int) (p2 : Int) (h : HS) : Option (Int) := if (0 : Int) ≤ (h 30 18) ∧ (h 30 18) < 16 then if (Int.toNat (h 30 18)) < 16 then (fJ0_lastIndexOf_0f7a4 (Int.toNat (h 30 18)) p2 h).bind fun r1 => if 0 ≤ wr r1 then if (0 : Int) ≤ ((p1 + 1) + r1) ∧ ((p1 + 1) + r1) < 2000 then some (h 39 ((p1 + 1) + r1)) else none else some (-1) else none else none
set_option maxRecDepth 100000 in
set_option maxHeartbeats 4000000 in
theorem mX6_late {G : ZG} {l0 : Launch} {ad : Nat → Nat} {h0 : HS} {p1 : Int} {p2 : Int} {o : Int} (hr : fX6_late p1 p2 h0 = some o) : ZMi G l0 yX6_late wsX6_late ({ frames := 4, cells := 0, slots := 0, locals := 87 }) [.ref (ad 30), .int (iI p1), .int (iI p2)] sh_8 ad h0 [] o h0 := by
  refine ZMi.of (cc := cX6_late) (maxL := 4) (ret := (some .int)) (own := RX6) (lv0 := [(0, .ref (ad 30)), (1, .int (iI p1)), (2, .int (iI p2))]) (by decide) rfl rfl rfl (Nat.le_of_ble_eq_true rfl) rfl ?_
  intro X hX hQ
  have hf : zfr [] h0 h0 := zfr_rf
  have fl_146 : zFld wsX6_late RX6 146 6 RX6 TX6 26 18 := ⟨by decide +kernel, by decide +kernel, by decide, rfl⟩
  have fl_39 : zFld wsX6_late RX6 39 6 RX6 TX6 26 12 := ⟨by decide +kernel, by decide +kernel, by decide, rfl⟩
  unfold fX6_late at hr
  refine z_getF hX dX6_late_0 (by decide +kernel) ?_
  refine z_aload_n hX dX6_late_3 0 rfl ?_
  refine z_getI hX dX6_late_4 fl_146 0 rfl rfl ?_
  refine z_aaldF hX dX6_late_7 hr (fun hr => ?_)
  refine z_iload_n hX dX6_late_8 2 rfl ?_
  obtain ⟨hi16, hr⟩ := z_ifg hr
  obtain ⟨r1, hc1, hr⟩ := z_bind hr
  refine z_callT_i (i := (Int.toNat (h0 30 18))) (As := [.int (iI p2)]) (k1 := 0) (n1 := 0) (nA := 1) hX (by omega) (mJ0_lastIndexOf_0f7a4 hc1) dX6_late_9 gX6_late_J0_lastIndexOf_0f7a4 rfl ⟨rfl, by decide, by decide, by decide +kernel⟩ ⟨by decide, by decide⟩ ⟨by decide, by decide⟩ rfl rfl (Nat.le_of_ble_eq_true rfl) (by decide +kernel) rfl rfl (fun hg1 => ?_)
  refine z_istore_n (lv1 := [(3, .int (iI r1)), (0, .ref (ad 30)), (1, .int (iI p1)), (2, .int (iI p2))]) hX dX6_late_12 (by decide) rfl ?_
  refine z_iload_n hX dX6_late_13 0 rfl ?_
  refine z_if_ge (tgt := 21) hX dX6_late_14 (by decide) rfl hr (fun hr => ?_) (fun hr => ?_)
  · refine z_aload_n hX dX6_late_21 1 rfl ?_
    refine z_getR (j := 39) hX dX6_late_22 fl_39 0 rfl rfl ?_
    refine z_iload_n hX dX6_late_25 2 rfl ?_
    refine z_iconst hX dX6_late_26 ?_
    refine z_iadd hX dX6_late_27 ?_
    refine z_iload_n hX dX6_late_28 0 rfl ?_
    refine z_iadd hX dX6_late_29 ?_
    refine z_iaload (b := 2000) hX dX6_late_30 9 rfl (by decide) rfl hr (fun hr => ?_)
    obtain rfl := Option.some.inj hr
    exact hQ _ _ dX6_late_31 hf
  · refine z_iconst hX dX6_late_17 ?_
    refine z_goto (tgt := 31) hX dX6_late_18 (by decide) ?_
    obtain rfl := Option.some.inj hr
    exact hQ _ _ dX6_late_31 hf

def fX6_sign_b61 (x1 : Int) (x2 : Int) (x4 : Int) (s0 : Int) (h : HS) : Option (Int × HS) := if (0 : Int) ≤ x2 ∧ x2 < 64 then if (0 : Int) ≤ x1 ∧ x1 < 64 then if (0 : Int) ≤ x2 ∧ x2 < 64 then some (s0, (hs (hs h 35 x1 (h 35 x2)) 35 x2 x4)) else none else none else none
def fX6_sign (p1 : Int) (p2 : Int) (h : HS) : Option (Int × HS) := if (0 : Int) ≤ p1 ∧ p1 < 64 then (fX6_sideOf (h 35 p1) h).bind fun r1 => if (0 : Int) ≤ p2 ∧ p2 < 64 then (fX6_play p1 p2 h).bind fun r2 => (fX6_isChecked (1 - r1) r2).bind fun r3 => if wr r3 = 0 then fX6_sign_b61 p1 p2 (h 35 p2) (-1) r2 else (fX6_legalMoves (1 - r1) 1 r2).bind fun r4 => if wr r4.1 ≤ 0 then fX6_sign_b61 p1 p2 (h 35 p2) 35 r4.2 else fX6_sign_b61 p1 p2 (h 35 p2) 43 r4.2 else none else none
set_option maxRecDepth 100000 in
set_option maxHeartbeats 4000000 in
theorem mX6_sign {G : ZG} {l0 : Launch} {ad : Nat → Nat} {h0 : HS} {p1 : Int} {p2 : Int} {o : Int × HS} (hr : fX6_sign p1 p2 h0 = some o) : ZMi G l0 yX6_sign wsX6_sign ({ frames := 6, cells := 0, slots := 0, locals := 148 }) [.ref (ad 30), .int (iI p1), .int (iI p2)] sh_8 ad h0 [35, 36] o.1 o.2 := by
  refine ZMi.of (cc := cX6_sign) (maxL := 6) (ret := (some .int)) (own := RX6) (lv0 := [(0, .ref (ad 30)), (1, .int (iI p1)), (2, .int (iI p2))]) (by decide) rfl rfl rfl (Nat.le_of_ble_eq_true rfl) rfl ?_
  intro X hX hQ
  have hf : zfr [35, 36] h0 h0 := zfr_rf
  have fl_22 : zFld wsX6_sign RX6 22 6 RX6 TX6 26 6 := ⟨by decide +kernel, by decide +kernel, by decide, rfl⟩
  have B61 : ∀ (x1 : Int) (x2 : Int) (x4 : Int) (s0 : Int) (h : HS), zfr [35, 36] h0 h → fX6_sign_b61 x1 x2 x4 s0 h = some o → ZW G X sh_8 ad h 0 0 [(0, .ref (ad 30)), (1, .int (iI x1)), (2, .int (iI x2)), (4, .int (iI x4))] 61 [.int (iI s0)] := by
    intro x1 x2 x4 s0 h hf hr
    unfold fX6_sign_b61 at hr
    refine z_istore (lv1 := [(5, .int (iI s0)), (0, .ref (ad 30)), (1, .int (iI x1)), (2, .int (iI x2)), (4, .int (iI x4))]) hX dX6_sign_61 (by decide) rfl ?_
    refine z_aload_n hX dX6_sign_63 1 rfl ?_
    refine z_getR (j := 35) hX dX6_sign_64 fl_22 0 rfl rfl ?_
    refine z_iload_n hX dX6_sign_67 2 rfl ?_
    refine z_aload_n hX dX6_sign_68 1 rfl ?_
    refine z_getR (j := 35) hX dX6_sign_69 fl_22 0 rfl rfl ?_
    refine z_iload_n hX dX6_sign_72 3 rfl ?_
    refine z_iaload (b := 64) hX dX6_sign_73 5 rfl (by decide) rfl hr (fun hr => ?_)
    refine z_iastore (b := 64) hX dX6_sign_74 5 rfl (by decide) rfl hr (fun hr => ?_)
    have hf : zfr [35, 36] h0 (hs h 35 x1 (h 35 x2)) := zfr_hs hf (by decide)
    refine z_aload_n hX dX6_sign_75 1 rfl ?_
    refine z_getR (j := 35) hX dX6_sign_76 fl_22 0 rfl rfl ?_
    refine z_iload_n hX dX6_sign_79 3 rfl ?_
    refine z_iload hX dX6_sign_80 4 rfl ?_
    refine z_iastore (b := 64) hX dX6_sign_82 5 rfl (by decide) rfl hr (fun hr => ?_)
    have hf : zfr [35, 36] h0 (hs (hs h 35 x1 (h 35 x2)) 35 x2 x4) := zfr_hs hf (by decide)
    refine z_iload hX dX6_sign_83 0 rfl ?_
    obtain rfl := Option.some.inj hr
    exact hQ _ _ dX6_sign_85 hf
  unfold fX6_sign at hr
  refine z_iconst hX dX6_sign_0 ?_
  refine z_aload_n hX dX6_sign_1 0 rfl ?_
  refine z_getR (j := 35) hX dX6_sign_2 fl_22 0 rfl rfl ?_
  refine z_iload_n hX dX6_sign_5 1 rfl ?_
  refine z_iaload (b := 64) hX dX6_sign_6 5 rfl (by decide) rfl hr (fun hr => ?_)
  obtain ⟨r1, hc1, hr⟩ := z_bind hr
  refine z_callS_i (As := [.int (iI (h0 35 p1))]) (k1 := 0) (n1 := 0) (nA := 1) hX (mX6_sideOf hc1) dX6_sign_7 gX6_sign_X6_sideOf rfl ⟨by decide, by decide, by decide +kernel⟩ ⟨by decide, by decide⟩ ⟨by decide, by decide⟩ rfl rfl (Nat.le_of_ble_eq_true rfl) (by decide +kernel) rfl rfl (fun hg1 => ?_)
  refine z_isub hX dX6_sign_10 ?_
  refine z_istore_n (lv1 := [(3, .int (iI (1 - r1))), (0, .ref (ad 30)), (1, .int (iI p1)), (2, .int (iI p2))]) hX dX6_sign_11 (by decide) rfl ?_
  refine z_aload_n hX dX6_sign_12 1 rfl ?_
  refine z_getR (j := 35) hX dX6_sign_13 fl_22 0 rfl rfl ?_
  refine z_iload_n hX dX6_sign_16 3 rfl ?_
  refine z_iaload (b := 64) hX dX6_sign_17 5 rfl (by decide) rfl hr (fun hr => ?_)
  refine z_istore (lv1 := [(4, .int (iI (h0 35 p2))), (3, .int (iI (1 - r1))), (0, .ref (ad 30)), (1, .int (iI p1)), (2, .int (iI p2))]) hX dX6_sign_18 (by decide) rfl ?_
  refine z_aload_n hX dX6_sign_20 2 rfl ?_
  refine z_getR (j := 35) hX dX6_sign_21 fl_22 0 rfl rfl ?_
  refine z_iload_n hX dX6_sign_24 3 rfl ?_
  refine z_iload_n hX dX6_sign_25 4 rfl ?_
  obtain ⟨r2, hc2, hr⟩ := z_bind hr
  refine z_callS_v (As := [.ref (ad 35), .int (iI p1), .int (iI p2)]) (k1 := 0) (n1 := 0) (nA := 3) hX (mX6_play hc2) dX6_sign_26 gX6_sign_X6_play rfl ⟨by decide, by decide, by decide +kernel⟩ ⟨by decide, by decide⟩ ⟨by decide, by decide⟩ rfl rfl (Nat.le_of_ble_eq_true rfl) (by decide +kernel) rfl rfl (fun hg2 => ?_)
  have hf : zfr [35, 36] h0 r2 := zfr_tr hf (by decide) hg2
  refine z_aload_n hX dX6_sign_29 2 rfl ?_
  refine z_aload_n hX dX6_sign_30 2 rfl ?_
  refine z_getR (j := 35) hX dX6_sign_31 fl_22 0 rfl rfl ?_
  refine z_iload_n hX dX6_sign_34 1 rfl ?_
  obtain ⟨r3, hc3, hr⟩ := z_bind hr
  refine z_callV_i (As := [.ref (ad 35), .int (iI (1 - r1))]) (k1 := 0) (n1 := 0) (nA := 2) hX (mX6_isChecked hc3) dX6_sign_35 gX6_sign_X6_isChecked rfl ⟨rfl, by decide, by decide, by decide +kernel⟩ ⟨by decide, by decide⟩ ⟨by decide, by decide⟩ 0 rfl rfl rfl rfl (Nat.le_of_ble_eq_true rfl) (by decide +kernel) rfl rfl (fun hg3 => ?_)
  refine z_if_ne (tgt := 45) hX dX6_sign_38 (by decide) rfl hr (fun hr => ?_) (fun hr => ?_)
  · refine z_aload_n hX dX6_sign_45 2 rfl ?_
    refine z_iload_n hX dX6_sign_46 1 rfl ?_
    refine z_iconst hX dX6_sign_47 ?_
    obtain ⟨r4, hc4, hr⟩ := z_bind hr
    refine z_callV_i (As := [.int (iI (1 - r1)), .int (iI 1)]) (k1 := 0) (n1 := 0) (nA := 2) hX (mX6_legalMoves hc4) dX6_sign_48 gX6_sign_X6_legalMoves rfl ⟨rfl, by decide, by decide, by decide +kernel⟩ ⟨by decide, by decide⟩ ⟨by decide, by decide⟩ 0 rfl rfl rfl rfl (Nat.le_of_ble_eq_true rfl) (by decide +kernel) rfl rfl (fun hg4 => ?_)
    have hf : zfr [35, 36] h0 r4.2 := zfr_tr hf (by decide) hg4
    refine z_if_le (tgt := 59) hX dX6_sign_51 (by decide) rfl hr (fun hr => ?_) (fun hr => ?_)
    · refine z_bipush hX dX6_sign_59 (by decide +kernel) ?_
      refine z_lv [2, 3, 4, 0] rfl ?_
      exact B61 p1 p2 (h0 35 p2) 35 r4.2 hf hr
    · refine z_bipush hX dX6_sign_54 (by decide +kernel) ?_
      refine z_goto (tgt := 61) hX dX6_sign_56 (by decide) ?_
      refine z_lv [2, 3, 4, 0] rfl ?_
      exact B61 p1 p2 (h0 35 p2) 43 r4.2 hf hr
  · refine z_iconst hX dX6_sign_41 ?_
    refine z_goto (tgt := 61) hX dX6_sign_42 (by decide) ?_
    refine z_lv [2, 3, 4, 0] rfl ?_
    exact B61 p1 p2 (h0 35 p2) (-1) r2 hf hr

def fX6_readMove_b278 (x1 : Int) (s0 : Int) (s1 : Int) (h : HS) : Option (Int × HS) := if wr s0 = wr s1 then (fX6_late x1 115 h).bind fun r1 => (fX6_sign (h 30 19) (h 30 20) h).bind fun r2 => if wr r1 = wr r2.1 then some (0, r2.2) else some (7, r2.2) else some (6, h)
def fX6_readMove_b260 (x1 : Int) (s0 : Int) (h : HS) : Option (Int × HS) := if (0 : Int) ≤ (h 30 20) ∧ (h 30 20) < 64 then if wr (h 35 (h 30 20)) = ((-1) : Int) then fX6_readMove_b278 x1 s0 0 h else fX6_readMove_b278 x1 s0 1 h else none
def fX6_readMove_b212 (k89 : Int → Int → Int → Int → Int → Int → Int → HS → Option (Int × HS)) (x1 : Int) (x3 : Int) (x4 : Int) (x5 : Int) (x6 : Int) (x7 : Int) (x8 : Int) (h : HS) : Option (Int × HS) := k89 x1 x3 x4 x5 x6 x7 (x8 + 1) h
def fX6_readMove_b174 (k89 : Int → Int → Int → Int → Int → Int → Int → HS → Option (Int × HS)) (x1 : Int) (x3 : Int) (x4 : Int) (x5 : Int) (x6 : Int) (x7 : Int) (x8 : Int) (s0 : Int) (h : HS) : Option (Int × HS) := if wr s0 = 0 then fX6_readMove_b212 k89 x1 x3 x4 x5 x6 x7 x8 h else (fX6_isLegal x8 (h 30 20) h).bind fun r3 => if wr r3.1 = 0 then fX6_readMove_b212 k89 x1 x3 x4 x5 (x6 + 1) x7 x8 r3.2 else fX6_readMove_b212 k89 x1 x3 x4 x5 (x6 + 1) (x7 + 1) x8 (hs r3.2 30 19 x8)
def fX6_readMove_b173 (k89 : Int → Int → Int → Int → Int → Int → Int → HS → Option (Int × HS)) (x1 : Int) (x3 : Int) (x4 : Int) (x5 : Int) (x6 : Int) (x7 : Int) (x8 : Int) (h : HS) : Option (Int × HS) := fX6_readMove_b174 k89 x1 x3 x4 x5 x6 x7 x8 0 h
def fX6_readMove_b152 (k89 : Int → Int → Int → Int → Int → Int → Int → HS → Option (Int × HS)) (x1 : Int) (x3 : Int) (x4 : Int) (x5 : Int) (x6 : Int) (x7 : Int) (x8 : Int) (h : HS) : Option (Int × HS) := (fX6_reaches x8 (h 30 20) h).bind fun r4 => if wr r4 = 0 then fX6_readMove_b173 k89 x1 x3 x4 x5 x6 x7 x8 h else fX6_readMove_b174 k89 x1 x3 x4 x5 x6 x7 x8 1 h
def fX6_readMove_b133 (k89 : Int → Int → Int → Int → Int → Int → Int → HS → Option (Int × HS)) (x1 : Int) (x3 : Int) (x4 : Int) (x5 : Int) (x6 : Int) (x7 : Int) (x8 : Int) (h : HS) : Option (Int × HS) := if wr x5 = ((-1) : Int) then fX6_readMove_b152 k89 x1 x3 x4 x5 x6 x7 x8 h else if (0 : Int) ≤ x8 ∧ x8 < 2147483648 then if wr (x8 / 8) = wr (x5 - 49) then fX6_readMove_b152 k89 x1 x3 x4 x5 x6 x7 x8 h else fX6_readMove_b173 k89 x1 x3 x4 x5 x6 x7 x8 h else none
def fX6_readMove_L89 : Nat → Int → Int → Int → Int → Int → Int → Int → HS → Option (Int × HS)
  | 0, _, _, _, _, _, _, _, _ => none
  | nf + 1, x1, x3, x4, x5, x6, x7, x8, h => if (64 : Int) ≤ wr x8 then if wr x7 = (1 : Int) then (fX6_late x1 120 h).bind fun r5 => if wr r5 = ((-1) : Int) then fX6_readMove_b260 x1 0 h else fX6_readMove_b260 x1 1 h else if wr x6 = 0 then some (3, h) else if wr x7 = 0 then some (4, h) else some (5, h) else if (0 : Int) ≤ x8 ∧ x8 < 64 then (fX6_turn h).bind fun r6 => if wr (h 35 x8) = wr ((2 * x3) + r6) then if wr x4 = ((-1) : Int) then fX6_readMove_b133 (fun a0 a1 a2 a3 a4 a5 a6 hh => fX6_readMove_L89 nf a0 a1 a2 a3 a4 a5 a6 hh) x1 x3 x4 x5 x6 x7 x8 h else if (0 : Int) ≤ x8 ∧ x8 < 2147483648 then if wr (x8 % 8) = wr (x4 - 97) then fX6_readMove_b133 (fun a0 a1 a2 a3 a4 a5 a6 hh => fX6_readMove_L89 nf a0 a1 a2 a3 a4 a5 a6 hh) x1 x3 x4 x5 x6 x7 x8 h else fX6_readMove_b173 (fun a0 a1 a2 a3 a4 a5 a6 hh => fX6_readMove_L89 nf a0 a1 a2 a3 a4 a5 a6 hh) x1 x3 x4 x5 x6 x7 x8 h else none else fX6_readMove_b173 (fun a0 a1 a2 a3 a4 a5 a6 hh => fX6_readMove_L89 nf a0 a1 a2 a3 a4 a5 a6 hh) x1 x3 x4 x5 x6 x7 x8 h else none
def fX6_readMove (p1 : Int) (p2 : Int) (h : HS) : Option (Int × HS) := (fX6_findForm p1 p2 h).bind fun r7 => if wr r7.1 = 0 then some (1, r7.2) else if (0 : Int) ≤ p1 ∧ p1 < 2000 then (fX6_kindOf (((hs r7.2 30 21 p1)) 39 p1) (hs r7.2 30 21 p1)).bind fun r8 => if wr r8 = ((-1) : Int) then some (2, (hs r7.2 30 21 p1)) else (fX6_late p1 102 (hs r7.2 30 21 p1)).bind fun r9 => (fX6_late p1 114 (hs r7.2 30 21 p1)).bind fun r10 => (fX6_early p1 102 (hs (hs r7.2 30 21 p1) 30 20 ((r9 - 97) + (8 * (r10 - 49))))).bind fun r11 => (fX6_early p1 114 (hs (hs r7.2 30 21 p1) 30 20 ((r9 - 97) + (8 * (r10 - 49))))).bind fun r12 => fX6_readMove_L89 zF p1 r8 r11 r12 0 0 0 (hs (hs r7.2 30 21 p1) 30 20 ((r9 - 97) + (8 * (r10 - 49)))) else none
set_option maxRecDepth 100000 in
set_option maxHeartbeats 4000000 in
theorem mX6_readMove {G : ZG} {l0 : Launch} {ad : Nat → Nat} {h0 : HS} {p1 : Int} {p2 : Int} {o : Int × HS} (hr : fX6_readMove p1 p2 h0 = some o) : ZMi G l0 yX6_readMove wsX6_readMove ({ frames := 7, cells := 0, slots := 0, locals := 173 }) [.ref (ad 30), .int (iI p1), .int (iI p2)] sh_8 ad h0 [30, 35, 36] o.1 o.2 := by
  refine ZMi.of (cc := cX6_readMove) (maxL := 10) (ret := (some .int)) (own := RX6) (lv0 := [(0, .ref (ad 30)), (1, .int (iI p1)), (2, .int (iI p2))]) (by decide) rfl rfl rfl (Nat.le_of_ble_eq_true rfl) rfl ?_
  intro X hX hQ
  have hf : zfr [30, 35, 36] h0 h0 := zfr_rf
  have fl_149 : zFld wsX6_readMove RX6 149 6 RX6 TX6 26 21 := ⟨by decide +kernel, by decide +kernel, by decide, rfl⟩
  have fl_187 : zFld wsX6_readMove RX6 187 6 RX6 TX6 26 20 := ⟨by decide +kernel, by decide +kernel, by decide, rfl⟩
  have fl_193 : zFld wsX6_readMove RX6 193 6 RX6 TX6 26 19 := ⟨by decide +kernel, by decide +kernel, by decide, rfl⟩
  have fl_22 : zFld wsX6_readMove RX6 22 6 RX6 TX6 26 6 := ⟨by decide +kernel, by decide +kernel, by decide, rfl⟩
  have fl_39 : zFld wsX6_readMove RX6 39 6 RX6 TX6 26 12 := ⟨by decide +kernel, by decide +kernel, by decide, rfl⟩
  have pu_X6_19 : zPut TX6 26 19 tyX6 .int := ⟨tyX6_ok, nmX6, rfl, by decide +kernel⟩
  have pu_X6_20 : zPut TX6 26 20 tyX6 .int := ⟨tyX6_ok, nmX6, rfl, by decide +kernel⟩
  have pu_X6_21 : zPut TX6 26 21 tyX6 .int := ⟨tyX6_ok, nmX6, rfl, by decide +kernel⟩
  have B278 : ∀ (x1 : Int) (s0 : Int) (s1 : Int) (h : HS), zfr [30, 35, 36] h0 h → fX6_readMove_b278 x1 s0 s1 h = some o → ZW G X sh_8 ad h 0 0 [(0, .ref (ad 30)), (1, .int (iI x1))] 278 [.int (iI s1), .int (iI s0)] := by
    intro x1 s0 s1 h hf hr
    unfold fX6_readMove_b278 at hr
    refine z_icmp_eq (tgt := 284) hX dX6_readMove_278 (by decide) rfl rfl hr (fun hr => ?_) (fun hr => ?_)
    · refine z_aload_n hX dX6_readMove_284 0 rfl ?_
      refine z_iload_n hX dX6_readMove_285 1 rfl ?_
      refine z_bipush hX dX6_readMove_286 (by decide +kernel) ?_
      obtain ⟨r1, hc1, hr⟩ := z_bind hr
      refine z_callV_i (As := [.int (iI x1), .int (iI 115)]) (k1 := 0) (n1 := 0) (nA := 2) hX (mX6_late hc1) dX6_readMove_288 gX6_readMove_X6_late rfl ⟨rfl, by decide, by decide, by decide +kernel⟩ ⟨by decide, by decide⟩ ⟨by decide, by decide⟩ 0 rfl rfl rfl rfl (Nat.le_of_ble_eq_true rfl) (by decide +kernel) rfl rfl (fun hg1 => ?_)
      refine z_aload_n hX dX6_readMove_291 0 rfl ?_
      refine z_aload_n hX dX6_readMove_292 0 rfl ?_
      refine z_getI hX dX6_readMove_293 fl_193 0 rfl rfl ?_
      refine z_aload_n hX dX6_readMove_296 0 rfl ?_
      refine z_getI hX dX6_readMove_297 fl_187 0 rfl rfl ?_
      obtain ⟨r2, hc2, hr⟩ := z_bind hr
      refine z_callV_i (As := [.int (iI (h 30 19)), .int (iI (h 30 20))]) (k1 := 0) (n1 := 0) (nA := 2) hX (mX6_sign hc2) dX6_readMove_300 gX6_readMove_X6_sign rfl ⟨rfl, by decide, by decide, by decide +kernel⟩ ⟨by decide, by decide⟩ ⟨by decide, by decide⟩ 0 rfl rfl rfl rfl (Nat.le_of_ble_eq_true rfl) (by decide +kernel) rfl rfl (fun hg2 => ?_)
      have hf : zfr [30, 35, 36] h0 r2.2 := zfr_tr hf (by decide) hg2
      refine z_icmp_ne (tgt := 310) hX dX6_readMove_303 (by decide) rfl rfl hr (fun hr => ?_) (fun hr => ?_)
      · refine z_bipush hX dX6_readMove_310 (by decide +kernel) ?_
        obtain rfl := Option.some.inj hr
        exact hQ _ _ dX6_readMove_312 hf
      · refine z_iconst hX dX6_readMove_306 ?_
        refine z_goto (tgt := 312) hX dX6_readMove_307 (by decide) ?_
        obtain rfl := Option.some.inj hr
        exact hQ _ _ dX6_readMove_312 hf
    · refine z_bipush hX dX6_readMove_281 (by decide +kernel) ?_
      obtain rfl := Option.some.inj hr
      exact hQ _ _ dX6_readMove_283 hf
  have B260 : ∀ (x1 : Int) (s0 : Int) (h : HS), zfr [30, 35, 36] h0 h → fX6_readMove_b260 x1 s0 h = some o → ZW G X sh_8 ad h 0 0 [(0, .ref (ad 30)), (1, .int (iI x1))] 260 [.int (iI s0)] := by
    intro x1 s0 h hf hr
    unfold fX6_readMove_b260 at hr
    refine z_aload_n hX dX6_readMove_260 0 rfl ?_
    refine z_getR (j := 35) hX dX6_readMove_261 fl_22 0 rfl rfl ?_
    refine z_aload_n hX dX6_readMove_264 0 rfl ?_
    refine z_getI hX dX6_readMove_265 fl_187 0 rfl rfl ?_
    refine z_iaload (b := 64) hX dX6_readMove_268 5 rfl (by decide) rfl hr (fun hr => ?_)
    refine z_iconst hX dX6_readMove_269 ?_
    refine z_icmp_eq (tgt := 277) hX dX6_readMove_270 (by decide) rfl (wr_of (by decide) (by decide)) hr (fun hr => ?_) (fun hr => ?_)
    · refine z_iconst hX dX6_readMove_277 ?_
      exact B278 x1 s0 0 h hf hr
    · refine z_iconst hX dX6_readMove_273 ?_
      refine z_goto (tgt := 278) hX dX6_readMove_274 (by decide) ?_
      exact B278 x1 s0 1 h hf hr
  have B89 : ∀ (nf : Nat) (x1 : Int) (x3 : Int) (x4 : Int) (x5 : Int) (x6 : Int) (x7 : Int) (x8 : Int) (h : HS), zfr [30, 35, 36] h0 h → fX6_readMove_L89 nf x1 x3 x4 x5 x6 x7 x8 h = some o → ZW G X sh_8 ad h 0 0 [(0, .ref (ad 30)), (1, .int (iI x1)), (3, .int (iI x3)), (4, .int (iI x4)), (5, .int (iI x5)), (6, .int (iI x6)), (7, .int (iI x7)), (8, .int (iI x8))] 89 [] := by
    intro nf
    induction nf with
    | zero => intro x1 x3 x4 x5 x6 x7 x8 h hf hr; exact z_none hr
    | succ n89 ih89 =>
      intro x1 x3 x4 x5 x6 x7 x8 h hf hr
      have B212 : ∀ (x1 : Int) (x3 : Int) (x4 : Int) (x5 : Int) (x6 : Int) (x7 : Int) (x8 : Int) (h : HS), zfr [30, 35, 36] h0 h → fX6_readMove_b212 (fun a0 a1 a2 a3 a4 a5 a6 hh => fX6_readMove_L89 n89 a0 a1 a2 a3 a4 a5 a6 hh) x1 x3 x4 x5 x6 x7 x8 h = some o → ZW G X sh_8 ad h 0 0 [(0, .ref (ad 30)), (1, .int (iI x1)), (3, .int (iI x3)), (4, .int (iI x4)), (5, .int (iI x5)), (6, .int (iI x6)), (7, .int (iI x7)), (8, .int (iI x8))] 212 [] := by
        intro x1 x3 x4 x5 x6 x7 x8 h hf hr
        unfold fX6_readMove_b212 at hr
        refine z_iinc (lv1 := [(8, .int (iI (x8 + 1))), (0, .ref (ad 30)), (1, .int (iI x1)), (3, .int (iI x3)), (4, .int (iI x4)), (5, .int (iI x5)), (6, .int (iI x6)), (7, .int (iI x7))]) hX dX6_readMove_212 7 rfl (by decide) rfl ?_
        refine z_goto (tgt := 89) hX dX6_readMove_215 (by decide) ?_
        refine z_lv [1, 2, 3, 4, 5, 6, 7, 0] rfl ?_
        exact ih89 x1 x3 x4 x5 x6 x7 (x8 + 1) h hf hr
      have B174 : ∀ (x1 : Int) (x3 : Int) (x4 : Int) (x5 : Int) (x6 : Int) (x7 : Int) (x8 : Int) (s0 : Int) (h : HS), zfr [30, 35, 36] h0 h → fX6_readMove_b174 (fun a0 a1 a2 a3 a4 a5 a6 hh => fX6_readMove_L89 n89 a0 a1 a2 a3 a4 a5 a6 hh) x1 x3 x4 x5 x6 x7 x8 s0 h = some o → ZW G X sh_8 ad h 0 0 [(0, .ref (ad 30)), (1, .int (iI x1)), (3, .int (iI x3)), (4, .int (iI x4)), (5, .int (iI x5)), (6, .int (iI x6)), (7, .int (iI x7)), (8, .int (iI x8))] 174 [.int (iI s0)] := by
        intro x1 x3 x4 x5 x6 x7 x8 s0 h hf hr
        unfold fX6_readMove_b174 at hr
        refine z_istore (lv1 := [(9, .int (iI s0)), (0, .ref (ad 30)), (1, .int (iI x1)), (3, .int (iI x3)), (4, .int (iI x4)), (5, .int (iI x5)), (6, .int (iI x6)), (7, .int (iI x7)), (8, .int (iI x8))]) hX dX6_readMove_174 (by decide) rfl ?_
        refine z_iload hX dX6_readMove_176 0 rfl ?_
        refine z_if_ne (tgt := 184) hX dX6_readMove_178 (by decide) rfl hr (fun hr => ?_) (fun hr => ?_)
        · refine z_iinc (lv1 := [(6, .int (iI (x6 + 1))), (9, .int (iI s0)), (0, .ref (ad 30)), (1, .int (iI x1)), (3, .int (iI x3)), (4, .int (iI x4)), (5, .int (iI x5)), (7, .int (iI x7)), (8, .int (iI x8))]) hX dX6_readMove_184 6 rfl (by decide) rfl ?_
          refine z_aload_n hX dX6_readMove_187 2 rfl ?_
          refine z_iload hX dX6_readMove_188 8 rfl ?_
          refine z_aload_n hX dX6_readMove_190 2 rfl ?_
          refine z_getI hX dX6_readMove_191 fl_187 0 rfl rfl ?_
          obtain ⟨r3, hc3, hr⟩ := z_bind hr
          refine z_callV_i (As := [.int (iI x8), .int (iI (h 30 20))]) (k1 := 0) (n1 := 0) (nA := 2) hX (mX6_isLegal hc3) dX6_readMove_194 gX6_readMove_X6_isLegal rfl ⟨rfl, by decide, by decide, by decide +kernel⟩ ⟨by decide, by decide⟩ ⟨by decide, by decide⟩ 0 rfl rfl rfl rfl (Nat.le_of_ble_eq_true rfl) (by decide +kernel) rfl rfl (fun hg3 => ?_)
          have hf : zfr [30, 35, 36] h0 r3.2 := zfr_tr hf (by decide) hg3
          refine z_if_ne (tgt := 203) hX dX6_readMove_197 (by decide) rfl hr (fun hr => ?_) (fun hr => ?_)
          · refine z_iinc (lv1 := [(7, .int (iI (x7 + 1))), (6, .int (iI (x6 + 1))), (9, .int (iI s0)), (0, .ref (ad 30)), (1, .int (iI x1)), (3, .int (iI x3)), (4, .int (iI x4)), (5, .int (iI x5)), (8, .int (iI x8))]) hX dX6_readMove_203 7 rfl (by decide) rfl ?_
            refine z_aload_n hX dX6_readMove_206 3 rfl ?_
            refine z_iload hX dX6_readMove_207 8 rfl ?_
            refine z_putI hX dX6_readMove_209 fl_193 pu_X6_19 0 rfl rfl ?_
            have hf : zfr [30, 35, 36] h0 (hs r3.2 30 19 x8) := zfr_hs hf (by decide)
            refine z_lv [3, 4, 5, 6, 7, 1, 0, 8] rfl ?_
            exact B212 x1 x3 x4 x5 (x6 + 1) (x7 + 1) x8 (hs r3.2 30 19 x8) hf hr
          · refine z_goto (tgt := 212) hX dX6_readMove_200 (by decide) ?_
            refine z_lv [2, 3, 4, 5, 6, 0, 7, 8] rfl ?_
            exact B212 x1 x3 x4 x5 (x6 + 1) x7 x8 r3.2 hf hr
        · refine z_goto (tgt := 212) hX dX6_readMove_181 (by decide) ?_
          refine z_lv [1, 2, 3, 4, 5, 6, 7, 8] rfl ?_
          exact B212 x1 x3 x4 x5 x6 x7 x8 h hf hr
      have B173 : ∀ (x1 : Int) (x3 : Int) (x4 : Int) (x5 : Int) (x6 : Int) (x7 : Int) (x8 : Int) (h : HS), zfr [30, 35, 36] h0 h → fX6_readMove_b173 (fun a0 a1 a2 a3 a4 a5 a6 hh => fX6_readMove_L89 n89 a0 a1 a2 a3 a4 a5 a6 hh) x1 x3 x4 x5 x6 x7 x8 h = some o → ZW G X sh_8 ad h 0 0 [(0, .ref (ad 30)), (1, .int (iI x1)), (3, .int (iI x3)), (4, .int (iI x4)), (5, .int (iI x5)), (6, .int (iI x6)), (7, .int (iI x7)), (8, .int (iI x8))] 173 [] := by
        intro x1 x3 x4 x5 x6 x7 x8 h hf hr
        unfold fX6_readMove_b173 at hr
        refine z_iconst hX dX6_readMove_173 ?_
        exact B174 x1 x3 x4 x5 x6 x7 x8 0 h hf hr
      have B152 : ∀ (x1 : Int) (x3 : Int) (x4 : Int) (x5 : Int) (x6 : Int) (x7 : Int) (x8 : Int) (h : HS), zfr [30, 35, 36] h0 h → fX6_readMove_b152 (fun a0 a1 a2 a3 a4 a5 a6 hh => fX6_readMove_L89 n89 a0 a1 a2 a3 a4 a5 a6 hh) x1 x3 x4 x5 x6 x7 x8 h = some o → ZW G X sh_8 ad h 0 0 [(0, .ref (ad 30)), (1, .int (iI x1)), (3, .int (iI x3)), (4, .int (iI x4)), (5, .int (iI x5)), (6, .int (iI x6)), (7, .int (iI x7)), (8, .int (iI x8))] 152 [] := by
        intro x1 x3 x4 x5 x6 x7 x8 h hf hr
        unfold fX6_readMove_b152 at hr
        refine z_aload_n hX dX6_readMove_152 0 rfl ?_
        refine z_aload_n hX dX6_readMove_153 0 rfl ?_
        refine z_getR (j := 35) hX dX6_readMove_154 fl_22 0 rfl rfl ?_
        refine z_iload hX dX6_readMove_157 7 rfl ?_
        refine z_aload_n hX dX6_readMove_159 0 rfl ?_
        refine z_getI hX dX6_readMove_160 fl_187 0 rfl rfl ?_
        obtain ⟨r4, hc4, hr⟩ := z_bind hr
        refine z_callV_i (As := [.ref (ad 35), .int (iI x8), .int (iI (h 30 20))]) (k1 := 0) (n1 := 0) (nA := 3) hX (mX6_reaches hc4) dX6_readMove_163 gX6_readMove_X6_reaches rfl ⟨rfl, by decide, by decide, by decide +kernel⟩ ⟨by decide, by decide⟩ ⟨by decide, by decide⟩ 0 rfl rfl rfl rfl (Nat.le_of_ble_eq_true rfl) (by decide +kernel) rfl rfl (fun hg4 => ?_)
        refine z_if_eq (tgt := 173) hX dX6_readMove_166 (by decide) rfl hr (fun hr => ?_) (fun hr => ?_)
        · exact B173 x1 x3 x4 x5 x6 x7 x8 h hf hr
        · refine z_iconst hX dX6_readMove_169 ?_
          refine z_goto (tgt := 174) hX dX6_readMove_170 (by decide) ?_
          exact B174 x1 x3 x4 x5 x6 x7 x8 1 h hf hr
      have B133 : ∀ (x1 : Int) (x3 : Int) (x4 : Int) (x5 : Int) (x6 : Int) (x7 : Int) (x8 : Int) (h : HS), zfr [30, 35, 36] h0 h → fX6_readMove_b133 (fun a0 a1 a2 a3 a4 a5 a6 hh => fX6_readMove_L89 n89 a0 a1 a2 a3 a4 a5 a6 hh) x1 x3 x4 x5 x6 x7 x8 h = some o → ZW G X sh_8 ad h 0 0 [(0, .ref (ad 30)), (1, .int (iI x1)), (3, .int (iI x3)), (4, .int (iI x4)), (5, .int (iI x5)), (6, .int (iI x6)), (7, .int (iI x7)), (8, .int (iI x8))] 133 [] := by
        intro x1 x3 x4 x5 x6 x7 x8 h hf hr
        unfold fX6_readMove_b133 at hr
        refine z_iload hX dX6_readMove_133 4 rfl ?_
        refine z_iconst hX dX6_readMove_135 ?_
        refine z_icmp_eq (tgt := 152) hX dX6_readMove_136 (by decide) rfl (wr_of (by decide) (by decide)) hr (fun hr => ?_) (fun hr => ?_)
        · exact B152 x1 x3 x4 x5 x6 x7 x8 h hf hr
        · refine z_iload hX dX6_readMove_139 7 rfl ?_
          refine z_bipush hX dX6_readMove_141 (by decide +kernel) ?_
          refine z_idiv hX dX6_readMove_143 (by decide) hr (fun hr => ?_)
          refine z_iload hX dX6_readMove_144 4 rfl ?_
          refine z_bipush hX dX6_readMove_146 (by decide +kernel) ?_
          refine z_isub hX dX6_readMove_148 ?_
          refine z_icmp_ne (tgt := 173) hX dX6_readMove_149 (by decide) rfl rfl hr (fun hr => ?_) (fun hr => ?_)
          · exact B173 x1 x3 x4 x5 x6 x7 x8 h hf hr
          · exact B152 x1 x3 x4 x5 x6 x7 x8 h hf hr
      unfold fX6_readMove_L89 at hr
      refine z_iload hX dX6_readMove_89 7 rfl ?_
      refine z_bipush hX dX6_readMove_91 (by decide +kernel) ?_
      refine z_icmp_ge (tgt := 218) hX dX6_readMove_93 (by decide) rfl (wr_of (by decide) (by decide)) hr (fun hr => ?_) (fun hr => ?_)
      · refine z_iload hX dX6_readMove_218 6 rfl ?_
        refine z_iconst hX dX6_readMove_220 ?_
        refine z_icmp_eq (tgt := 244) hX dX6_readMove_221 (by decide) rfl (wr_of (by decide) (by decide)) hr (fun hr => ?_) (fun hr => ?_)
        · refine z_aload_n hX dX6_readMove_244 0 rfl ?_
          refine z_iload_n hX dX6_readMove_245 1 rfl ?_
          refine z_bipush hX dX6_readMove_246 (by decide +kernel) ?_
          obtain ⟨r5, hc5, hr⟩ := z_bind hr
          refine z_callV_i (As := [.int (iI x1), .int (iI 120)]) (k1 := 0) (n1 := 0) (nA := 2) hX (mX6_late hc5) dX6_readMove_248 gX6_readMove_X6_late rfl ⟨rfl, by decide, by decide, by decide +kernel⟩ ⟨by decide, by decide⟩ ⟨by decide, by decide⟩ 0 rfl rfl rfl rfl (Nat.le_of_ble_eq_true rfl) (by decide +kernel) rfl rfl (fun hg5 => ?_)
          refine z_iconst hX dX6_readMove_251 ?_
          refine z_icmp_eq (tgt := 259) hX dX6_readMove_252 (by decide) rfl (wr_of (by decide) (by decide)) hr (fun hr => ?_) (fun hr => ?_)
          · refine z_iconst hX dX6_readMove_259 ?_
            refine z_lv [0, 1] rfl ?_
            exact B260 x1 0 h hf hr
          · refine z_iconst hX dX6_readMove_255 ?_
            refine z_goto (tgt := 260) hX dX6_readMove_256 (by decide) ?_
            refine z_lv [0, 1] rfl ?_
            exact B260 x1 1 h hf hr
        · refine z_iload hX dX6_readMove_224 5 rfl ?_
          refine z_if_ne (tgt := 233) hX dX6_readMove_226 (by decide) rfl hr (fun hr => ?_) (fun hr => ?_)
          · refine z_iload hX dX6_readMove_233 6 rfl ?_
            refine z_if_ne (tgt := 242) hX dX6_readMove_235 (by decide) rfl hr (fun hr => ?_) (fun hr => ?_)
            · refine z_iconst hX dX6_readMove_242 ?_
              obtain rfl := Option.some.inj hr
              exact hQ _ _ dX6_readMove_243 hf
            · refine z_iconst hX dX6_readMove_238 ?_
              refine z_goto (tgt := 243) hX dX6_readMove_239 (by decide) ?_
              obtain rfl := Option.some.inj hr
              exact hQ _ _ dX6_readMove_243 hf
          · refine z_iconst hX dX6_readMove_229 ?_
            refine z_goto (tgt := 243) hX dX6_readMove_230 (by decide) ?_
            obtain rfl := Option.some.inj hr
            exact hQ _ _ dX6_readMove_243 hf
      · refine z_aload_n hX dX6_readMove_96 0 rfl ?_
        refine z_getR (j := 35) hX dX6_readMove_97 fl_22 0 rfl rfl ?_
        refine z_iload hX dX6_readMove_100 7 rfl ?_
        refine z_iaload (b := 64) hX dX6_readMove_102 5 rfl (by decide) rfl hr (fun hr => ?_)
        refine z_iconst hX dX6_readMove_103 ?_
        refine z_iload_n hX dX6_readMove_104 2 rfl ?_
        refine z_imul hX dX6_readMove_105 ?_
        refine z_aload_n hX dX6_readMove_106 0 rfl ?_
        obtain ⟨r6, hc6, hr⟩ := z_bind hr
        refine z_callV_i (As := []) (k1 := 0) (n1 := 0) (nA := 0) hX (mX6_turn hc6) dX6_readMove_107 gX6_readMove_X6_turn rfl ⟨rfl, by decide, by decide, by decide +kernel⟩ ⟨by decide, by decide⟩ ⟨by decide, by decide⟩ 0 rfl rfl rfl rfl (Nat.le_of_ble_eq_true rfl) (by decide +kernel) rfl rfl (fun hg6 => ?_)
        refine z_iadd hX dX6_readMove_110 ?_
        refine z_icmp_ne (tgt := 173) hX dX6_readMove_111 (by decide) rfl rfl hr (fun hr => ?_) (fun hr => ?_)
        · exact B173 x1 x3 x4 x5 x6 x7 x8 h hf hr
        · refine z_iload hX dX6_readMove_114 3 rfl ?_
          refine z_iconst hX dX6_readMove_116 ?_
          refine z_icmp_eq (tgt := 133) hX dX6_readMove_117 (by decide) rfl (wr_of (by decide) (by decide)) hr (fun hr => ?_) (fun hr => ?_)
          · exact B133 x1 x3 x4 x5 x6 x7 x8 h hf hr
          · refine z_iload hX dX6_readMove_120 7 rfl ?_
            refine z_bipush hX dX6_readMove_122 (by decide +kernel) ?_
            refine z_irem hX dX6_readMove_124 (by decide) hr (fun hr => ?_)
            refine z_iload hX dX6_readMove_125 3 rfl ?_
            refine z_bipush hX dX6_readMove_127 (by decide +kernel) ?_
            refine z_isub hX dX6_readMove_129 ?_
            refine z_icmp_ne (tgt := 173) hX dX6_readMove_130 (by decide) rfl rfl hr (fun hr => ?_) (fun hr => ?_)
            · exact B173 x1 x3 x4 x5 x6 x7 x8 h hf hr
            · exact B133 x1 x3 x4 x5 x6 x7 x8 h hf hr
  unfold fX6_readMove at hr
  refine z_aload_n hX dX6_readMove_0 0 rfl ?_
  refine z_iload_n hX dX6_readMove_1 1 rfl ?_
  refine z_iload_n hX dX6_readMove_2 2 rfl ?_
  obtain ⟨r7, hc7, hr⟩ := z_bind hr
  refine z_callV_i (As := [.int (iI p1), .int (iI p2)]) (k1 := 0) (n1 := 0) (nA := 2) hX (mX6_findForm hc7) dX6_readMove_3 gX6_readMove_X6_findForm rfl ⟨rfl, by decide, by decide, by decide +kernel⟩ ⟨by decide, by decide⟩ ⟨by decide, by decide⟩ 0 rfl rfl rfl rfl (Nat.le_of_ble_eq_true rfl) (by decide +kernel) rfl rfl (fun hg7 => ?_)
  have hf : zfr [30, 35, 36] h0 r7.2 := zfr_tr hf (by decide) hg7
  refine z_if_ne (tgt := 11) hX dX6_readMove_6 (by decide) rfl hr (fun hr => ?_) (fun hr => ?_)
  · refine z_aload_n hX dX6_readMove_11 0 rfl ?_
    refine z_iload_n hX dX6_readMove_12 1 rfl ?_
    refine z_putI hX dX6_readMove_13 fl_149 pu_X6_21 0 rfl rfl ?_
    have hf : zfr [30, 35, 36] h0 (hs r7.2 30 21 p1) := zfr_hs hf (by decide)
    refine z_aload_n hX dX6_readMove_16 0 rfl ?_
    refine z_aload_n hX dX6_readMove_17 0 rfl ?_
    refine z_getR (j := 39) hX dX6_readMove_18 fl_39 0 rfl rfl ?_
    refine z_iload_n hX dX6_readMove_21 1 rfl ?_
    refine z_iaload (b := 2000) hX dX6_readMove_22 9 rfl (by decide) rfl hr (fun hr => ?_)
    obtain ⟨r8, hc8, hr⟩ := z_bind hr
    refine z_callV_i (As := [.int (iI (((hs r7.2 30 21 p1)) 39 p1))]) (k1 := 0) (n1 := 0) (nA := 1) hX (mX6_kindOf hc8) dX6_readMove_23 gX6_readMove_X6_kindOf rfl ⟨rfl, by decide, by decide, by decide +kernel⟩ ⟨by decide, by decide⟩ ⟨by decide, by decide⟩ 0 rfl rfl rfl rfl (Nat.le_of_ble_eq_true rfl) (by decide +kernel) rfl rfl (fun hg8 => ?_)
    refine z_istore_n (lv1 := [(3, .int (iI r8)), (0, .ref (ad 30)), (1, .int (iI p1)), (2, .int (iI p2))]) hX dX6_readMove_26 (by decide) rfl ?_
    refine z_iload_n hX dX6_readMove_27 0 rfl ?_
    refine z_iconst hX dX6_readMove_28 ?_
    refine z_icmp_ne (tgt := 34) hX dX6_readMove_29 (by decide) rfl (wr_of (by decide) (by decide)) hr (fun hr => ?_) (fun hr => ?_)
    · refine z_aload_n hX dX6_readMove_34 1 rfl ?_
      refine z_aload_n hX dX6_readMove_35 1 rfl ?_
      refine z_iload_n hX dX6_readMove_36 2 rfl ?_
      refine z_bipush hX dX6_readMove_37 (by decide +kernel) ?_
      obtain ⟨r9, hc9, hr⟩ := z_bind hr
      refine z_callV_i (As := [.int (iI p1), .int (iI 102)]) (k1 := 0) (n1 := 0) (nA := 2) hX (mX6_late hc9) dX6_readMove_39 gX6_readMove_X6_late rfl ⟨rfl, by decide, by decide, by decide +kernel⟩ ⟨by decide, by decide⟩ ⟨by decide, by decide⟩ 0 rfl rfl rfl rfl (Nat.le_of_ble_eq_true rfl) (by decide +kernel) rfl rfl (fun hg9 => ?_)
      refine z_bipush hX dX6_readMove_42 (by decide +kernel) ?_
      refine z_isub hX dX6_readMove_44 ?_
      refine z_bipush hX dX6_readMove_45 (by decide +kernel) ?_
      refine z_aload_n hX dX6_readMove_47 1 rfl ?_
      refine z_iload_n hX dX6_readMove_48 2 rfl ?_
      refine z_bipush hX dX6_readMove_49 (by decide +kernel) ?_
      obtain ⟨r10, hc10, hr⟩ := z_bind hr
      refine z_callV_i (As := [.int (iI p1), .int (iI 114)]) (k1 := 0) (n1 := 0) (nA := 2) hX (mX6_late hc10) dX6_readMove_51 gX6_readMove_X6_late rfl ⟨rfl, by decide, by decide, by decide +kernel⟩ ⟨by decide, by decide⟩ ⟨by decide, by decide⟩ 0 rfl rfl rfl rfl (Nat.le_of_ble_eq_true rfl) (by decide +kernel) rfl rfl (fun hg10 => ?_)
      refine z_bipush hX dX6_readMove_54 (by decide +kernel) ?_
      refine z_isub hX dX6_readMove_56 ?_
      refine z_imul hX dX6_readMove_57 ?_
      refine z_iadd hX dX6_readMove_58 ?_
      refine z_putI hX dX6_readMove_59 fl_187 pu_X6_20 0 rfl rfl ?_
      have hf : zfr [30, 35, 36] h0 (hs (hs r7.2 30 21 p1) 30 20 ((r9 - 97) + (8 * (r10 - 49)))) := zfr_hs hf (by decide)
      refine z_aload_n hX dX6_readMove_62 1 rfl ?_
      refine z_iload_n hX dX6_readMove_63 2 rfl ?_
      refine z_bipush hX dX6_readMove_64 (by decide +kernel) ?_
      obtain ⟨r11, hc11, hr⟩ := z_bind hr
      refine z_callV_i (As := [.int (iI p1), .int (iI 102)]) (k1 := 0) (n1 := 0) (nA := 2) hX (mX6_early hc11) dX6_readMove_66 gX6_readMove_X6_early rfl ⟨rfl, by decide, by decide, by decide +kernel⟩ ⟨by decide, by decide⟩ ⟨by decide, by decide⟩ 0 rfl rfl rfl rfl (Nat.le_of_ble_eq_true rfl) (by decide +kernel) rfl rfl (fun hg11 => ?_)
      refine z_istore (lv1 := [(4, .int (iI r11)), (3, .int (iI r8)), (0, .ref (ad 30)), (1, .int (iI p1)), (2, .int (iI p2))]) hX dX6_readMove_69 (by decide) rfl ?_
      refine z_aload_n hX dX6_readMove_71 2 rfl ?_
      refine z_iload_n hX dX6_readMove_72 3 rfl ?_
      refine z_bipush hX dX6_readMove_73 (by decide +kernel) ?_
      obtain ⟨r12, hc12, hr⟩ := z_bind hr
      refine z_callV_i (As := [.int (iI p1), .int (iI 114)]) (k1 := 0) (n1 := 0) (nA := 2) hX (mX6_early hc12) dX6_readMove_75 gX6_readMove_X6_early rfl ⟨rfl, by decide, by decide, by decide +kernel⟩ ⟨by decide, by decide⟩ ⟨by decide, by decide⟩ 0 rfl rfl rfl rfl (Nat.le_of_ble_eq_true rfl) (by decide +kernel) rfl rfl (fun hg12 => ?_)
      refine z_istore (lv1 := [(5, .int (iI r12)), (4, .int (iI r11)), (3, .int (iI r8)), (0, .ref (ad 30)), (1, .int (iI p1)), (2, .int (iI p2))]) hX dX6_readMove_78 (by decide) rfl ?_
      refine z_iconst hX dX6_readMove_80 ?_
      refine z_istore (lv1 := [(6, .int (iI 0)), (5, .int (iI r12)), (4, .int (iI r11)), (3, .int (iI r8)), (0, .ref (ad 30)), (1, .int (iI p1)), (2, .int (iI p2))]) hX dX6_readMove_81 (by decide) rfl ?_
      refine z_iconst hX dX6_readMove_83 ?_
      refine z_istore (lv1 := [(7, .int (iI 0)), (6, .int (iI 0)), (5, .int (iI r12)), (4, .int (iI r11)), (3, .int (iI r8)), (0, .ref (ad 30)), (1, .int (iI p1)), (2, .int (iI p2))]) hX dX6_readMove_84 (by decide) rfl ?_
      refine z_iconst hX dX6_readMove_86 ?_
      refine z_istore (lv1 := [(8, .int (iI 0)), (7, .int (iI 0)), (6, .int (iI 0)), (5, .int (iI r12)), (4, .int (iI r11)), (3, .int (iI r8)), (0, .ref (ad 30)), (1, .int (iI p1)), (2, .int (iI p2))]) hX dX6_readMove_87 (by decide) rfl ?_
      refine z_lv [6, 7, 5, 4, 3, 2, 1, 0] rfl ?_
      exact B89 zF p1 r8 r11 r12 0 0 0 (hs (hs r7.2 30 21 p1) 30 20 ((r9 - 97) + (8 * (r10 - 49)))) hf hr
    · refine z_iconst hX dX6_readMove_32 ?_
      obtain rfl := Option.some.inj hr
      exact hQ _ _ dX6_readMove_33 hf
  · refine z_iconst hX dX6_readMove_9 ?_
    obtain rfl := Option.some.inj hr
    exact hQ _ _ dX6_readMove_10 hf

def fX6_read_b28 (x1 : Int) (s1 : Int) (h : HS) : Option (Int × HS) := if wr x1 = 0 then some (x1, (hs (hs (hs h 30 14 s1) 30 15 (((hs h 30 14 s1)) 30 19)) 30 16 (((hs (hs h 30 14 s1) 30 15 (((hs h 30 14 s1)) 30 19))) 30 20))) else some (x1, (hs h 30 14 s1))
def fX6_read (h : HS) : Option (Int × HS) := (fX6_readMove 0 (((hs h 30 0 0)) 30 13) (hs h 30 0 0)).bind fun r1 => if wr r1.1 = 0 then fX6_read_b28 r1.1 (-1) r1.2 else fX6_read_b28 r1.1 (r1.2 30 21) r1.2
set_option maxRecDepth 100000 in
set_option maxHeartbeats 4000000 in
theorem mX6_read {G : ZG} {l0 : Launch} {ad : Nat → Nat} {h0 : HS} {o : Int × HS} (hr : fX6_read h0 = some o) : ZMi G l0 yX6_read wsX6_read ({ frames := 8, cells := 0, slots := 0, locals := 202 }) [.ref (ad 30)] sh_8 ad h0 [30, 35, 36] o.1 o.2 := by
  refine ZMi.of (cc := cX6_read) (maxL := 2) (ret := (some .int)) (own := RX6) (lv0 := [(0, .ref (ad 30))]) (by decide) rfl rfl rfl (Nat.le_of_ble_eq_true rfl) rfl ?_
  intro X hX hQ
  have hf : zfr [30, 35, 36] h0 h0 := zfr_rf
  have fl_127 : zFld wsX6_read RX6 127 6 RX6 TX6 26 13 := ⟨by decide +kernel, by decide +kernel, by decide, rfl⟩
  have fl_149 : zFld wsX6_read RX6 149 6 RX6 TX6 26 21 := ⟨by decide +kernel, by decide +kernel, by decide, rfl⟩
  have fl_187 : zFld wsX6_read RX6 187 6 RX6 TX6 26 20 := ⟨by decide +kernel, by decide +kernel, by decide, rfl⟩
  have fl_193 : zFld wsX6_read RX6 193 6 RX6 TX6 26 19 := ⟨by decide +kernel, by decide +kernel, by decide, rfl⟩
  have fl_42 : zFld wsX6_read RX6 42 6 RX6 TX6 26 14 := ⟨by decide +kernel, by decide +kernel, by decide, rfl⟩
  have fl_45 : zFld wsX6_read RX6 45 6 RX6 TX6 26 15 := ⟨by decide +kernel, by decide +kernel, by decide, rfl⟩
  have fl_48 : zFld wsX6_read RX6 48 6 RX6 TX6 26 16 := ⟨by decide +kernel, by decide +kernel, by decide, rfl⟩
  have fl_66 : zFld wsX6_read RX6 66 6 RX6 TX6 26 0 := ⟨by decide +kernel, by decide +kernel, by decide, rfl⟩
  have pu_X6_0 : zPut TX6 26 0 tyX6 .int := ⟨tyX6_ok, nmX6, rfl, by decide +kernel⟩
  have pu_X6_14 : zPut TX6 26 14 tyX6 .int := ⟨tyX6_ok, nmX6, rfl, by decide +kernel⟩
  have pu_X6_15 : zPut TX6 26 15 tyX6 .int := ⟨tyX6_ok, nmX6, rfl, by decide +kernel⟩
  have pu_X6_16 : zPut TX6 26 16 tyX6 .int := ⟨tyX6_ok, nmX6, rfl, by decide +kernel⟩
  have B28 : ∀ (x1 : Int) (s1 : Int) (h : HS), zfr [30, 35, 36] h0 h → fX6_read_b28 x1 s1 h = some o → ZW G X sh_8 ad h 0 0 [(0, .ref (ad 30)), (1, .int (iI x1))] 28 [.int (iI s1), .ref (ad 30)] := by
    intro x1 s1 h hf hr
    unfold fX6_read_b28 at hr
    refine z_putI hX dX6_read_28 fl_42 pu_X6_14 0 rfl rfl ?_
    have hf : zfr [30, 35, 36] h0 (hs h 30 14 s1) := zfr_hs hf (by decide)
    refine z_iload_n hX dX6_read_31 1 rfl ?_
    refine z_if_ne (tgt := 51) hX dX6_read_32 (by decide) rfl hr (fun hr => ?_) (fun hr => ?_)
    · refine z_iload_n hX dX6_read_51 1 rfl ?_
      obtain rfl := Option.some.inj hr
      exact hQ _ _ dX6_read_52 hf
    · refine z_aload_n hX dX6_read_35 0 rfl ?_
      refine z_aload_n hX dX6_read_36 0 rfl ?_
      refine z_getI hX dX6_read_37 fl_193 0 rfl rfl ?_
      refine z_putI hX dX6_read_40 fl_45 pu_X6_15 0 rfl rfl ?_
      have hf : zfr [30, 35, 36] h0 (hs (hs h 30 14 s1) 30 15 (((hs h 30 14 s1)) 30 19)) := zfr_hs hf (by decide)
      refine z_aload_n hX dX6_read_43 0 rfl ?_
      refine z_aload_n hX dX6_read_44 0 rfl ?_
      refine z_getI hX dX6_read_45 fl_187 0 rfl rfl ?_
      refine z_putI hX dX6_read_48 fl_48 pu_X6_16 0 rfl rfl ?_
      have hf : zfr [30, 35, 36] h0 (hs (hs (hs h 30 14 s1) 30 15 (((hs h 30 14 s1)) 30 19)) 30 16 (((hs (hs h 30 14 s1) 30 15 (((hs h 30 14 s1)) 30 19))) 30 20)) := zfr_hs hf (by decide)
      refine z_iload_n hX dX6_read_51 1 rfl ?_
      obtain rfl := Option.some.inj hr
      exact hQ _ _ dX6_read_52 hf
  unfold fX6_read at hr
  refine z_aload_n hX dX6_read_0 0 rfl ?_
  refine z_iconst hX dX6_read_1 ?_
  refine z_putI hX dX6_read_2 fl_66 pu_X6_0 0 rfl rfl ?_
  have hf : zfr [30, 35, 36] h0 (hs h0 30 0 0) := zfr_hs hf (by decide)
  refine z_aload_n hX dX6_read_5 0 rfl ?_
  refine z_iconst hX dX6_read_6 ?_
  refine z_aload_n hX dX6_read_7 0 rfl ?_
  refine z_getI hX dX6_read_8 fl_127 0 rfl rfl ?_
  obtain ⟨r1, hc1, hr⟩ := z_bind hr
  refine z_callV_i (As := [.int (iI 0), .int (iI (((hs h0 30 0 0)) 30 13))]) (k1 := 0) (n1 := 0) (nA := 2) hX (mX6_readMove hc1) dX6_read_11 gX6_read_X6_readMove rfl ⟨rfl, by decide, by decide, by decide +kernel⟩ ⟨by decide, by decide⟩ ⟨by decide, by decide⟩ 0 rfl rfl rfl rfl (Nat.le_of_ble_eq_true rfl) (by decide +kernel) rfl rfl (fun hg1 => ?_)
  have hf : zfr [30, 35, 36] h0 r1.2 := zfr_tr hf (by decide) hg1
  refine z_istore_n (lv1 := [(1, .int (iI r1.1)), (0, .ref (ad 30))]) hX dX6_read_14 (by decide) rfl ?_
  refine z_aload_n hX dX6_read_15 1 rfl ?_
  refine z_iload_n hX dX6_read_16 0 rfl ?_
  refine z_if_ne (tgt := 24) hX dX6_read_17 (by decide) rfl hr (fun hr => ?_) (fun hr => ?_)
  · refine z_aload_n hX dX6_read_24 1 rfl ?_
    refine z_getI hX dX6_read_25 fl_149 0 rfl rfl ?_
    refine z_lv [1, 0] rfl ?_
    exact B28 r1.1 (r1.2 30 21) r1.2 hf hr
  · refine z_iconst hX dX6_read_20 ?_
    refine z_goto (tgt := 28) hX dX6_read_21 (by decide) ?_
    refine z_lv [1, 0] rfl ?_
    exact B28 r1.1 (-1) r1.2 hf hr

def fX6_found (p1 : Int) (h : HS) : Option (Int × HS) := (fX6_isIn p1 0 2 (hs h 30 0 0)).bind fun r1 => if wr r1 = 0 then (fX6_fail 1 (hs h 30 0 0)).bind fun r2 => some (r2.1, r2.2) else if wr p1 = 0 then some ((((hs h 30 0 0)) 30 14), (hs h 30 0 0)) else if wr p1 = (1 : Int) then some ((((hs h 30 0 0)) 30 15), (hs h 30 0 0)) else some ((((hs h 30 0 0)) 30 16), (hs h 30 0 0))
set_option maxRecDepth 100000 in
set_option maxHeartbeats 4000000 in
theorem mX6_found {G : ZG} {l0 : Launch} {ad : Nat → Nat} {h0 : HS} {p1 : Int} {o : Int × HS} (hr : fX6_found p1 h0 = some o) : ZMi G l0 yX6_found wsX6_found ({ frames := 1, cells := 0, slots := 0, locals := 22 }) [.ref (ad 30), .int (iI p1)] sh_8 ad h0 [30] o.1 o.2 := by
  refine ZMi.of (cc := cX6_found) (maxL := 2) (ret := (some .int)) (own := RX6) (lv0 := [(0, .ref (ad 30)), (1, .int (iI p1))]) (by decide) rfl rfl rfl (Nat.le_of_ble_eq_true rfl) rfl ?_
  intro X hX hQ
  have hf : zfr [30] h0 h0 := zfr_rf
  have fl_42 : zFld wsX6_found RX6 42 6 RX6 TX6 26 14 := ⟨by decide +kernel, by decide +kernel, by decide, rfl⟩
  have fl_45 : zFld wsX6_found RX6 45 6 RX6 TX6 26 15 := ⟨by decide +kernel, by decide +kernel, by decide, rfl⟩
  have fl_48 : zFld wsX6_found RX6 48 6 RX6 TX6 26 16 := ⟨by decide +kernel, by decide +kernel, by decide, rfl⟩
  have fl_66 : zFld wsX6_found RX6 66 6 RX6 TX6 26 0 := ⟨by decide +kernel, by decide +kernel, by decide, rfl⟩
  have pu_X6_0 : zPut TX6 26 0 tyX6 .int := ⟨tyX6_ok, nmX6, rfl, by decide +kernel⟩
  unfold fX6_found at hr
  refine z_aload_n hX dX6_found_0 0 rfl ?_
  refine z_iconst hX dX6_found_1 ?_
  refine z_putI hX dX6_found_2 fl_66 pu_X6_0 0 rfl rfl ?_
  have hf : zfr [30] h0 (hs h0 30 0 0) := zfr_hs hf (by decide)
  refine z_iload_n hX dX6_found_5 1 rfl ?_
  refine z_iconst hX dX6_found_6 ?_
  refine z_iconst hX dX6_found_7 ?_
  obtain ⟨r1, hc1, hr⟩ := z_bind hr
  refine z_callS_i (As := [.int (iI p1), .int (iI 0), .int (iI 2)]) (k1 := 0) (n1 := 0) (nA := 3) hX (mX6_isIn hc1) dX6_found_8 gX6_found_X6_isIn rfl ⟨by decide, by decide, by decide +kernel⟩ ⟨by decide, by decide⟩ ⟨by decide, by decide⟩ rfl rfl (Nat.le_of_ble_eq_true rfl) (by decide +kernel) rfl rfl (fun hg1 => ?_)
  refine z_if_ne (tgt := 20) hX dX6_found_11 (by decide) rfl hr (fun hr => ?_) (fun hr => ?_)
  · refine z_iload_n hX dX6_found_20 1 rfl ?_
    refine z_if_ne (tgt := 31) hX dX6_found_21 (by decide) rfl hr (fun hr => ?_) (fun hr => ?_)
    · refine z_iload_n hX dX6_found_31 1 rfl ?_
      refine z_iconst hX dX6_found_32 ?_
      refine z_icmp_ne (tgt := 43) hX dX6_found_33 (by decide) rfl (wr_of (by decide) (by decide)) hr (fun hr => ?_) (fun hr => ?_)
      · refine z_aload_n hX dX6_found_43 0 rfl ?_
        refine z_getI hX dX6_found_44 fl_48 0 rfl rfl ?_
        obtain rfl := Option.some.inj hr
        exact hQ _ _ dX6_found_47 hf
      · refine z_aload_n hX dX6_found_36 0 rfl ?_
        refine z_getI hX dX6_found_37 fl_45 0 rfl rfl ?_
        refine z_goto (tgt := 47) hX dX6_found_40 (by decide) ?_
        obtain rfl := Option.some.inj hr
        exact hQ _ _ dX6_found_47 hf
    · refine z_aload_n hX dX6_found_24 0 rfl ?_
      refine z_getI hX dX6_found_25 fl_42 0 rfl rfl ?_
      refine z_goto (tgt := 47) hX dX6_found_28 (by decide) ?_
      obtain rfl := Option.some.inj hr
      exact hQ _ _ dX6_found_47 hf
  · refine z_aload_n hX dX6_found_14 0 rfl ?_
    refine z_iconst hX dX6_found_15 ?_
    obtain ⟨r2, hc2, hr⟩ := z_bind hr
    refine z_callV_i (As := [.int (iI 1)]) (k1 := 0) (n1 := 0) (nA := 1) hX (mX6_fail hc2) dX6_found_16 gX6_found_X6_fail rfl ⟨rfl, by decide, by decide, by decide +kernel⟩ ⟨by decide, by decide⟩ ⟨by decide, by decide⟩ 0 rfl rfl rfl rfl (Nat.le_of_ble_eq_true rfl) (by decide +kernel) rfl rfl (fun hg2 => ?_)
    have hf : zfr [30] h0 r2.2 := zfr_tr hf (by decide) hg2
    obtain rfl := Option.some.inj hr
    exact hQ _ _ dX6_found_19 hf

