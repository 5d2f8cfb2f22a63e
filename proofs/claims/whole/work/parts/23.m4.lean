def fX6_put__b23 (x1 : Int) (s1 : Int) (h : HS) : Option (HS) := if (s1 : Int) = 0 ∨ (s1 : Int) = 1 then if wr (((hs h 30 24 s1)) 30 24) = 0 then if (0 : Int) ≤ (((hs h 30 24 s1)) 30 23) ∧ (((hs h 30 24 s1)) 30 23) < 2000 then some (hs (hs (hs h 30 24 s1) 41 (((hs h 30 24 s1)) 30 23) x1) 30 23 ((((hs (hs h 30 24 s1) 41 (((hs h 30 24 s1)) 30 23) x1)) 30 23) + 1)) else none else some (hs h 30 24 s1) else none
def fX6_put__b18 (x1 : Int) (h : HS) : Option (HS) := fX6_put__b23 x1 1 h
def fX6_put_ (p1 : Int) (h : HS) : Option (HS) := if wr (h 30 24) = 0 then if wr (h 30 23) = (2000 : Int) then fX6_put__b18 p1 h else fX6_put__b23 p1 0 h else fX6_put__b18 p1 h
set_option maxRecDepth 100000 in
set_option maxHeartbeats 4000000 in
theorem mX6_put_ {G : ZG} {l0 : Launch} {ad : Nat → Nat} {h0 : HS} {p1 : Int} {o : HS} (hr : fX6_put_ p1 h0 = some o) : ZMv G l0 yX6_put_ wsX6_put_ ({ frames := 0, cells := 0, slots := 0, locals := 0 }) [.ref (ad 30), .int (iI p1)] sh_8 ad h0 [30, 41] o := by
  refine ZMv.of (cc := cX6_put_) (maxL := 2) (ret := none) (own := RX6) (lv0 := [(0, .ref (ad 30)), (1, .int (iI p1))]) (by decide) rfl rfl rfl (Nat.le_of_ble_eq_true rfl) rfl ?_
  intro X hX hQ
  have hf : zfr [30, 41] h0 h0 := zfr_rf
  have fl_202 : zFld wsX6_put_ RX6 202 6 RX6 TX6 26 24 := ⟨by decide +kernel, by decide +kernel, by decide, rfl⟩
  have fl_206 : zFld wsX6_put_ RX6 206 6 RX6 TX6 26 23 := ⟨by decide +kernel, by decide +kernel, by decide, rfl⟩
  have fl_54 : zFld wsX6_put_ RX6 54 6 RX6 TX6 26 22 := ⟨by decide +kernel, by decide +kernel, by decide, rfl⟩
  have pu_X6_23 : zPut TX6 26 23 tyX6 .int := ⟨tyX6_ok, nmX6, rfl, by decide +kernel⟩
  have pu_X6_24 : zPut TX6 26 24 tyX6 .boolean := ⟨tyX6_ok, nmX6, rfl, by decide +kernel⟩
  have B23 : ∀ (x1 : Int) (s1 : Int) (h : HS), zfr [30, 41] h0 h → fX6_put__b23 x1 s1 h = some o → ZW G X sh_8 ad h 0 0 [(0, .ref (ad 30)), (1, .int (iI x1))] 23 [.int (iI s1), .ref (ad 30)] := by
    intro x1 s1 h hf hr
    unfold fX6_put__b23 at hr
    refine z_putZ hX dX6_put__23 fl_202 pu_X6_24 0 rfl rfl hr (fun hr => ?_)
    have hf : zfr [30, 41] h0 (hs h 30 24 s1) := zfr_hs hf (by decide)
    refine z_aload_n hX dX6_put__26 0 rfl ?_
    refine z_getI hX dX6_put__27 fl_202 0 rfl rfl ?_
    refine z_if_eq (tgt := 34) hX dX6_put__30 (by decide) rfl hr (fun hr => ?_) (fun hr => ?_)
    · refine z_aload_n hX dX6_put__34 0 rfl ?_
      refine z_getR (j := 41) hX dX6_put__35 fl_54 0 rfl rfl ?_
      refine z_aload_n hX dX6_put__38 0 rfl ?_
      refine z_getI hX dX6_put__39 fl_206 0 rfl rfl ?_
      refine z_iload_n hX dX6_put__42 1 rfl ?_
      refine z_iastore (b := 2000) hX dX6_put__43 11 rfl (by decide) rfl hr (fun hr => ?_)
      have hf : zfr [30, 41] h0 (hs (hs h 30 24 s1) 41 (((hs h 30 24 s1)) 30 23) x1) := zfr_hs hf (by decide)
      refine z_aload_n hX dX6_put__44 0 rfl ?_
      refine z_dup hX dX6_put__45 rfl ?_
      refine z_getI hX dX6_put__46 fl_206 0 rfl rfl ?_
      refine z_iconst hX dX6_put__49 ?_
      refine z_iadd hX dX6_put__50 ?_
      refine z_putI hX dX6_put__51 fl_206 pu_X6_23 0 rfl rfl ?_
      have hf : zfr [30, 41] h0 (hs (hs (hs h 30 24 s1) 41 (((hs h 30 24 s1)) 30 23) x1) 30 23 ((((hs (hs h 30 24 s1) 41 (((hs h 30 24 s1)) 30 23) x1)) 30 23) + 1)) := zfr_hs hf (by decide)
      obtain rfl := Option.some.inj hr
      exact hQ _ _ dX6_put__54 hf
    · obtain rfl := Option.some.inj hr
      exact hQ _ _ dX6_put__33 hf
  have B18 : ∀ (x1 : Int) (h : HS), zfr [30, 41] h0 h → fX6_put__b18 x1 h = some o → ZW G X sh_8 ad h 0 0 [(0, .ref (ad 30)), (1, .int (iI x1))] 18 [.ref (ad 30)] := by
    intro x1 h hf hr
    unfold fX6_put__b18 at hr
    refine z_iconst hX dX6_put__18 ?_
    refine z_goto (tgt := 23) hX dX6_put__19 (by decide) ?_
    exact B23 x1 1 h hf hr
  unfold fX6_put_ at hr
  refine z_aload_n hX dX6_put__0 0 rfl ?_
  refine z_aload_n hX dX6_put__1 0 rfl ?_
  refine z_getI hX dX6_put__2 fl_202 0 rfl rfl ?_
  refine z_if_ne (tgt := 18) hX dX6_put__5 (by decide) rfl hr (fun hr => ?_) (fun hr => ?_)
  · exact B18 p1 h0 hf hr
  · refine z_aload_n hX dX6_put__8 0 rfl ?_
    refine z_getI hX dX6_put__9 fl_206 0 rfl rfl ?_
    refine z_sipush hX dX6_put__12 (by decide +kernel) ?_
    refine z_icmp_ne (tgt := 22) hX dX6_put__15 (by decide) rfl (wr_of (by decide) (by decide)) hr (fun hr => ?_) (fun hr => ?_)
    · refine z_iconst hX dX6_put__22 ?_
      exact B23 p1 0 h0 hf hr
    · exact B18 p1 h0 hf hr

def fX6_putMove_b202 (x1 : Int) (x2 : Int) (h : HS) : Option (HS) := if (0 : Int) ≤ x2 ∧ x2 < 2147483648 then (fX6_put_ (97 + (x2 % 8)) h).bind fun r1 => if (0 : Int) ≤ x2 ∧ x2 < 2147483648 then (fX6_put_ (49 + (x2 / 8)) r1).bind fun r2 => (fX6_sign x1 x2 r2).bind fun r3 => if wr r3.1 = ((-1) : Int) then some r3.2 else (fX6_put_ r3.1 r3.2).bind fun r4 => some r4 else none else none
def fX6_putMove_b186 (x1 : Int) (x2 : Int) (h : HS) : Option (HS) := if (0 : Int) ≤ x2 ∧ x2 < 64 then if wr (h 35 x2) = ((-1) : Int) then fX6_putMove_b202 x1 x2 h else (fX6_put_ 120 h).bind fun r5 => fX6_putMove_b202 x1 x2 r5 else none
def fX6_putMove_b165 (x1 : Int) (x2 : Int) (x4 : Int) (x5 : Int) (h : HS) : Option (HS) := if wr x4 = 0 then fX6_putMove_b186 x1 x2 h else if wr x5 = 0 then fX6_putMove_b186 x1 x2 h else if (0 : Int) ≤ x1 ∧ x1 < 2147483648 then (fX6_put_ (49 + (x1 / 8)) h).bind fun r6 => fX6_putMove_b186 x1 x2 r6 else none
def fX6_putMove_b154 (x1 : Int) (x2 : Int) (x4 : Int) (x5 : Int) (h : HS) : Option (HS) := if (0 : Int) ≤ x1 ∧ x1 < 2147483648 then (fX6_put_ (97 + (x1 % 8)) h).bind fun r7 => fX6_putMove_b165 x1 x2 x4 x5 r7 else none
def fX6_putMove_b133 (k31 : Int → Int → Int → Int → Int → Int → Int → HS → Option (HS)) (x1 : Int) (x2 : Int) (x3 : Int) (x4 : Int) (x5 : Int) (x6 : Int) (x7 : Int) (h : HS) : Option (HS) := k31 x1 x2 x3 x4 x5 x6 (x7 + 1) h
def fX6_putMove_b131 (k31 : Int → Int → Int → Int → Int → Int → Int → HS → Option (HS)) (x1 : Int) (x2 : Int) (x3 : Int) (x4 : Int) (x5 : Int) (x7 : Int) (s0 : Int) (h : HS) : Option (HS) := fX6_putMove_b133 k31 x1 x2 x3 x4 x5 s0 x7 h
def fX6_putMove_b126 (k31 : Int → Int → Int → Int → Int → Int → Int → HS → Option (HS)) (x1 : Int) (x2 : Int) (x3 : Int) (x4 : Int) (x5 : Int) (x7 : Int) (h : HS) : Option (HS) := fX6_putMove_b131 k31 x1 x2 x3 x4 x5 x7 1 h
def fX6_putMove_b107 (k31 : Int → Int → Int → Int → Int → Int → Int → HS → Option (HS)) (x1 : Int) (x2 : Int) (x3 : Int) (x4 : Int) (x6 : Int) (x7 : Int) (s0 : Int) (h : HS) : Option (HS) := if wr x6 = 0 then if (0 : Int) ≤ x7 ∧ x7 < 2147483648 then if (0 : Int) ≤ x1 ∧ x1 < 2147483648 then if wr (x7 / 8) = wr (x1 / 8) then fX6_putMove_b126 k31 x1 x2 x3 x4 s0 x7 h else fX6_putMove_b131 k31 x1 x2 x3 x4 s0 x7 0 h else none else none else fX6_putMove_b126 k31 x1 x2 x3 x4 s0 x7 h
def fX6_putMove_b102 (k31 : Int → Int → Int → Int → Int → Int → Int → HS → Option (HS)) (x1 : Int) (x2 : Int) (x3 : Int) (x4 : Int) (x6 : Int) (x7 : Int) (h : HS) : Option (HS) := fX6_putMove_b107 k31 x1 x2 x3 x4 x6 x7 1 h
def fX6_putMove_L31 : Nat → Int → Int → Int → Int → Int → Int → Int → HS → Option (HS)
  | 0, _, _, _, _, _, _, _, _ => none
  | nf + 1, x1, x2, x3, x4, x5, x6, x7, h => if (64 : Int) ≤ wr x7 then if wr x4 = 0 then fX6_putMove_b165 x1 x2 x4 x5 h else if wr x5 = 0 then fX6_putMove_b154 x1 x2 x4 x5 h else if wr x6 = 0 then fX6_putMove_b165 x1 x2 x4 x5 h else fX6_putMove_b154 x1 x2 x4 x5 h else if wr x7 = wr x1 then fX6_putMove_b133 (fun a0 a1 a2 a3 a4 a5 a6 hh => fX6_putMove_L31 nf a0 a1 a2 a3 a4 a5 a6 hh) x1 x2 x3 x4 x5 x6 x7 h else if (0 : Int) ≤ x7 ∧ x7 < 64 then if wr (h 35 x7) = wr x3 then (fX6_reaches x7 x2 h).bind fun r8 => if wr r8 = 0 then fX6_putMove_b133 (fun a0 a1 a2 a3 a4 a5 a6 hh => fX6_putMove_L31 nf a0 a1 a2 a3 a4 a5 a6 hh) x1 x2 x3 x4 x5 x6 x7 h else (fX6_isLegal x7 x2 h).bind fun r9 => if wr r9.1 = 0 then fX6_putMove_b133 (fun a0 a1 a2 a3 a4 a5 a6 hh => fX6_putMove_L31 nf a0 a1 a2 a3 a4 a5 a6 hh) x1 x2 x3 x4 x5 x6 x7 r9.2 else if wr x5 = 0 then if (0 : Int) ≤ x7 ∧ x7 < 2147483648 then if (0 : Int) ≤ x1 ∧ x1 < 2147483648 then if wr (x7 % 8) = wr (x1 % 8) then fX6_putMove_b102 (fun a0 a1 a2 a3 a4 a5 a6 hh => fX6_putMove_L31 nf a0 a1 a2 a3 a4 a5 a6 hh) x1 x2 x3 1 x6 x7 r9.2 else fX6_putMove_b107 (fun a0 a1 a2 a3 a4 a5 a6 hh => fX6_putMove_L31 nf a0 a1 a2 a3 a4 a5 a6 hh) x1 x2 x3 1 x6 x7 0 r9.2 else none else none else fX6_putMove_b102 (fun a0 a1 a2 a3 a4 a5 a6 hh => fX6_putMove_L31 nf a0 a1 a2 a3 a4 a5 a6 hh) x1 x2 x3 1 x6 x7 r9.2 else fX6_putMove_b133 (fun a0 a1 a2 a3 a4 a5 a6 hh => fX6_putMove_L31 nf a0 a1 a2 a3 a4 a5 a6 hh) x1 x2 x3 x4 x5 x6 x7 h else none
def fX6_putMove (p1 : Int) (p2 : Int) (h : HS) : Option (HS) := if (0 : Int) ≤ p1 ∧ p1 < 64 then if (0 : Int) ≤ (h 35 p1) ∧ (h 35 p1) < 2147483648 then if (0 : Int) ≤ ((h 35 p1) / 2) ∧ ((h 35 p1) / 2) < 6 then (fX6_put_ (h 31 ((h 35 p1) / 2)) h).bind fun r10 => fX6_putMove_L31 zF p1 p2 (h 35 p1) 0 0 0 0 r10 else none else none else none
set_option maxRecDepth 100000 in
set_option maxHeartbeats 4000000 in
theorem mX6_putMove {G : ZG} {l0 : Launch} {ad : Nat → Nat} {h0 : HS} {p1 : Int} {p2 : Int} {o : HS} (hr : fX6_putMove p1 p2 h0 = some o) : ZMv G l0 yX6_putMove wsX6_putMove ({ frames := 7, cells := 0, slots := 0, locals := 173 }) [.ref (ad 30), .int (iI p1), .int (iI p2)] sh_8 ad h0 [30, 35, 36, 41] o := by
  refine ZMv.of (cc := cX6_putMove) (maxL := 8) (ret := none) (own := RX6) (lv0 := [(0, .ref (ad 30)), (1, .int (iI p1)), (2, .int (iI p2))]) (by decide) rfl rfl rfl (Nat.le_of_ble_eq_true rfl) rfl ?_
  intro X hX hQ
  have hf : zfr [30, 35, 36, 41] h0 h0 := zfr_rf
  have fl_22 : zFld wsX6_putMove RX6 22 6 RX6 TX6 26 6 := ⟨by decide +kernel, by decide +kernel, by decide, rfl⟩
  have fl_9 : zFld wsX6_putMove RX6 9 6 RX6 TX6 26 2 := ⟨by decide +kernel, by decide +kernel, by decide, rfl⟩
  have B202 : ∀ (x1 : Int) (x2 : Int) (h : HS), zfr [30, 35, 36, 41] h0 h → fX6_putMove_b202 x1 x2 h = some o → ZW G X sh_8 ad h 0 0 [(0, .ref (ad 30)), (1, .int (iI x1)), (2, .int (iI x2))] 202 [] := by
    intro x1 x2 h hf hr
    unfold fX6_putMove_b202 at hr
    refine z_aload_n hX dX6_putMove_202 0 rfl ?_
    refine z_bipush hX dX6_putMove_203 (by decide +kernel) ?_
    refine z_iload_n hX dX6_putMove_205 2 rfl ?_
    refine z_bipush hX dX6_putMove_206 (by decide +kernel) ?_
    refine z_irem hX dX6_putMove_208 (by decide) hr (fun hr => ?_)
    refine z_iadd hX dX6_putMove_209 ?_
    obtain ⟨r1, hc1, hr⟩ := z_bind hr
    refine z_callV_v (As := [.int (iI (97 + (x2 % 8)))]) (k1 := 0) (n1 := 0) (nA := 1) hX (mX6_put_ hc1) dX6_putMove_210 gX6_putMove_X6_put_ rfl ⟨rfl, by decide, by decide, by decide +kernel⟩ ⟨by decide, by decide⟩ ⟨by decide, by decide⟩ 0 rfl rfl rfl rfl (Nat.le_of_ble_eq_true rfl) (by decide +kernel) rfl rfl (fun hg1 => ?_)
    have hf : zfr [30, 35, 36, 41] h0 r1 := zfr_tr hf (by decide) hg1
    refine z_aload_n hX dX6_putMove_213 0 rfl ?_
    refine z_bipush hX dX6_putMove_214 (by decide +kernel) ?_
    refine z_iload_n hX dX6_putMove_216 2 rfl ?_
    refine z_bipush hX dX6_putMove_217 (by decide +kernel) ?_
    refine z_idiv hX dX6_putMove_219 (by decide) hr (fun hr => ?_)
    refine z_iadd hX dX6_putMove_220 ?_
    obtain ⟨r2, hc2, hr⟩ := z_bind hr
    refine z_callV_v (As := [.int (iI (49 + (x2 / 8)))]) (k1 := 0) (n1 := 0) (nA := 1) hX (mX6_put_ hc2) dX6_putMove_221 gX6_putMove_X6_put_ rfl ⟨rfl, by decide, by decide, by decide +kernel⟩ ⟨by decide, by decide⟩ ⟨by decide, by decide⟩ 0 rfl rfl rfl rfl (Nat.le_of_ble_eq_true rfl) (by decide +kernel) rfl rfl (fun hg2 => ?_)
    have hf : zfr [30, 35, 36, 41] h0 r2 := zfr_tr hf (by decide) hg2
    refine z_aload_n hX dX6_putMove_224 0 rfl ?_
    refine z_iload_n hX dX6_putMove_225 1 rfl ?_
    refine z_iload_n hX dX6_putMove_226 2 rfl ?_
    obtain ⟨r3, hc3, hr⟩ := z_bind hr
    refine z_callV_i (As := [.int (iI x1), .int (iI x2)]) (k1 := 0) (n1 := 0) (nA := 2) hX (mX6_sign hc3) dX6_putMove_227 gX6_putMove_X6_sign rfl ⟨rfl, by decide, by decide, by decide +kernel⟩ ⟨by decide, by decide⟩ ⟨by decide, by decide⟩ 0 rfl rfl rfl rfl (Nat.le_of_ble_eq_true rfl) (by decide +kernel) rfl rfl (fun hg3 => ?_)
    have hf : zfr [30, 35, 36, 41] h0 r3.2 := zfr_tr hf (by decide) hg3
    refine z_istore (lv1 := [(7, .int (iI r3.1)), (0, .ref (ad 30)), (1, .int (iI x1)), (2, .int (iI x2))]) hX dX6_putMove_230 (by decide) rfl ?_
    refine z_iload hX dX6_putMove_232 0 rfl ?_
    refine z_iconst hX dX6_putMove_234 ?_
    refine z_icmp_eq (tgt := 244) hX dX6_putMove_235 (by decide) rfl (wr_of (by decide) (by decide)) hr (fun hr => ?_) (fun hr => ?_)
    · obtain rfl := Option.some.inj hr
      exact hQ _ _ dX6_putMove_244 hf
    · refine z_aload_n hX dX6_putMove_238 1 rfl ?_
      refine z_iload hX dX6_putMove_239 0 rfl ?_
      obtain ⟨r4, hc4, hr⟩ := z_bind hr
      refine z_callV_v (As := [.int (iI r3.1)]) (k1 := 0) (n1 := 0) (nA := 1) hX (mX6_put_ hc4) dX6_putMove_241 gX6_putMove_X6_put_ rfl ⟨rfl, by decide, by decide, by decide +kernel⟩ ⟨by decide, by decide⟩ ⟨by decide, by decide⟩ 0 rfl rfl rfl rfl (Nat.le_of_ble_eq_true rfl) (by decide +kernel) rfl rfl (fun hg4 => ?_)
      have hf : zfr [30, 35, 36, 41] h0 r4 := zfr_tr hf (by decide) hg4
      obtain rfl := Option.some.inj hr
      exact hQ _ _ dX6_putMove_244 hf
  have B186 : ∀ (x1 : Int) (x2 : Int) (h : HS), zfr [30, 35, 36, 41] h0 h → fX6_putMove_b186 x1 x2 h = some o → ZW G X sh_8 ad h 0 0 [(0, .ref (ad 30)), (1, .int (iI x1)), (2, .int (iI x2))] 186 [] := by
    intro x1 x2 h hf hr
    unfold fX6_putMove_b186 at hr
    refine z_aload_n hX dX6_putMove_186 0 rfl ?_
    refine z_getR (j := 35) hX dX6_putMove_187 fl_22 0 rfl rfl ?_
    refine z_iload_n hX dX6_putMove_190 2 rfl ?_
    refine z_iaload (b := 64) hX dX6_putMove_191 5 rfl (by decide) rfl hr (fun hr => ?_)
    refine z_iconst hX dX6_putMove_192 ?_
    refine z_icmp_eq (tgt := 202) hX dX6_putMove_193 (by decide) rfl (wr_of (by decide) (by decide)) hr (fun hr => ?_) (fun hr => ?_)
    · exact B202 x1 x2 h hf hr
    · refine z_aload_n hX dX6_putMove_196 0 rfl ?_
      refine z_bipush hX dX6_putMove_197 (by decide +kernel) ?_
      obtain ⟨r5, hc5, hr⟩ := z_bind hr
      refine z_callV_v (As := [.int (iI 120)]) (k1 := 0) (n1 := 0) (nA := 1) hX (mX6_put_ hc5) dX6_putMove_199 gX6_putMove_X6_put_ rfl ⟨rfl, by decide, by decide, by decide +kernel⟩ ⟨by decide, by decide⟩ ⟨by decide, by decide⟩ 0 rfl rfl rfl rfl (Nat.le_of_ble_eq_true rfl) (by decide +kernel) rfl rfl (fun hg5 => ?_)
      have hf : zfr [30, 35, 36, 41] h0 r5 := zfr_tr hf (by decide) hg5
      exact B202 x1 x2 r5 hf hr
  have B165 : ∀ (x1 : Int) (x2 : Int) (x4 : Int) (x5 : Int) (h : HS), zfr [30, 35, 36, 41] h0 h → fX6_putMove_b165 x1 x2 x4 x5 h = some o → ZW G X sh_8 ad h 0 0 [(0, .ref (ad 30)), (1, .int (iI x1)), (2, .int (iI x2)), (4, .int (iI x4)), (5, .int (iI x5))] 165 [] := by
    intro x1 x2 x4 x5 h hf hr
    unfold fX6_putMove_b165 at hr
    refine z_iload hX dX6_putMove_165 3 rfl ?_
    refine z_if_eq (tgt := 186) hX dX6_putMove_167 (by decide) rfl hr (fun hr => ?_) (fun hr => ?_)
    · refine z_lv [0, 1, 2] rfl ?_
      exact B186 x1 x2 h hf hr
    · refine z_iload hX dX6_putMove_170 4 rfl ?_
      refine z_if_eq (tgt := 186) hX dX6_putMove_172 (by decide) rfl hr (fun hr => ?_) (fun hr => ?_)
      · refine z_lv [0, 1, 2] rfl ?_
        exact B186 x1 x2 h hf hr
      · refine z_aload_n hX dX6_putMove_175 0 rfl ?_
        refine z_bipush hX dX6_putMove_176 (by decide +kernel) ?_
        refine z_iload_n hX dX6_putMove_178 1 rfl ?_
        refine z_bipush hX dX6_putMove_179 (by decide +kernel) ?_
        refine z_idiv hX dX6_putMove_181 (by decide) hr (fun hr => ?_)
        refine z_iadd hX dX6_putMove_182 ?_
        obtain ⟨r6, hc6, hr⟩ := z_bind hr
        refine z_callV_v (As := [.int (iI (49 + (x1 / 8)))]) (k1 := 0) (n1 := 0) (nA := 1) hX (mX6_put_ hc6) dX6_putMove_183 gX6_putMove_X6_put_ rfl ⟨rfl, by decide, by decide, by decide +kernel⟩ ⟨by decide, by decide⟩ ⟨by decide, by decide⟩ 0 rfl rfl rfl rfl (Nat.le_of_ble_eq_true rfl) (by decide +kernel) rfl rfl (fun hg6 => ?_)
        have hf : zfr [30, 35, 36, 41] h0 r6 := zfr_tr hf (by decide) hg6
        refine z_lv [0, 1, 2] rfl ?_
        exact B186 x1 x2 r6 hf hr
  have B154 : ∀ (x1 : Int) (x2 : Int) (x4 : Int) (x5 : Int) (h : HS), zfr [30, 35, 36, 41] h0 h → fX6_putMove_b154 x1 x2 x4 x5 h = some o → ZW G X sh_8 ad h 0 0 [(0, .ref (ad 30)), (1, .int (iI x1)), (2, .int (iI x2)), (4, .int (iI x4)), (5, .int (iI x5))] 154 [] := by
    intro x1 x2 x4 x5 h hf hr
    unfold fX6_putMove_b154 at hr
    refine z_aload_n hX dX6_putMove_154 0 rfl ?_
    refine z_bipush hX dX6_putMove_155 (by decide +kernel) ?_
    refine z_iload_n hX dX6_putMove_157 1 rfl ?_
    refine z_bipush hX dX6_putMove_158 (by decide +kernel) ?_
    refine z_irem hX dX6_putMove_160 (by decide) hr (fun hr => ?_)
    refine z_iadd hX dX6_putMove_161 ?_
    obtain ⟨r7, hc7, hr⟩ := z_bind hr
    refine z_callV_v (As := [.int (iI (97 + (x1 % 8)))]) (k1 := 0) (n1 := 0) (nA := 1) hX (mX6_put_ hc7) dX6_putMove_162 gX6_putMove_X6_put_ rfl ⟨rfl, by decide, by decide, by decide +kernel⟩ ⟨by decide, by decide⟩ ⟨by decide, by decide⟩ 0 rfl rfl rfl rfl (Nat.le_of_ble_eq_true rfl) (by decide +kernel) rfl rfl (fun hg7 => ?_)
    have hf : zfr [30, 35, 36, 41] h0 r7 := zfr_tr hf (by decide) hg7
    exact B165 x1 x2 x4 x5 r7 hf hr
  have B31 : ∀ (nf : Nat) (x1 : Int) (x2 : Int) (x3 : Int) (x4 : Int) (x5 : Int) (x6 : Int) (x7 : Int) (h : HS), zfr [30, 35, 36, 41] h0 h → fX6_putMove_L31 nf x1 x2 x3 x4 x5 x6 x7 h = some o → ZW G X sh_8 ad h 0 0 [(0, .ref (ad 30)), (1, .int (iI x1)), (2, .int (iI x2)), (3, .int (iI x3)), (4, .int (iI x4)), (5, .int (iI x5)), (6, .int (iI x6)), (7, .int (iI x7))] 31 [] := by
    intro nf
    induction nf with
    | zero => intro x1 x2 x3 x4 x5 x6 x7 h hf hr; exact z_none hr
    | succ n31 ih31 =>
      intro x1 x2 x3 x4 x5 x6 x7 h hf hr
      have B133 : ∀ (x1 : Int) (x2 : Int) (x3 : Int) (x4 : Int) (x5 : Int) (x6 : Int) (x7 : Int) (h : HS), zfr [30, 35, 36, 41] h0 h → fX6_putMove_b133 (fun a0 a1 a2 a3 a4 a5 a6 hh => fX6_putMove_L31 n31 a0 a1 a2 a3 a4 a5 a6 hh) x1 x2 x3 x4 x5 x6 x7 h = some o → ZW G X sh_8 ad h 0 0 [(0, .ref (ad 30)), (1, .int (iI x1)), (2, .int (iI x2)), (3, .int (iI x3)), (4, .int (iI x4)), (5, .int (iI x5)), (6, .int (iI x6)), (7, .int (iI x7))] 133 [] := by
        intro x1 x2 x3 x4 x5 x6 x7 h hf hr
        unfold fX6_putMove_b133 at hr
        refine z_iinc (lv1 := [(7, .int (iI (x7 + 1))), (0, .ref (ad 30)), (1, .int (iI x1)), (2, .int (iI x2)), (3, .int (iI x3)), (4, .int (iI x4)), (5, .int (iI x5)), (6, .int (iI x6))]) hX dX6_putMove_133 7 rfl (by decide) rfl ?_
        refine z_goto (tgt := 31) hX dX6_putMove_136 (by decide) ?_
        refine z_lv [1, 2, 3, 4, 5, 6, 7, 0] rfl ?_
        exact ih31 x1 x2 x3 x4 x5 x6 (x7 + 1) h hf hr
      have B131 : ∀ (x1 : Int) (x2 : Int) (x3 : Int) (x4 : Int) (x5 : Int) (x7 : Int) (s0 : Int) (h : HS), zfr [30, 35, 36, 41] h0 h → fX6_putMove_b131 (fun a0 a1 a2 a3 a4 a5 a6 hh => fX6_putMove_L31 n31 a0 a1 a2 a3 a4 a5 a6 hh) x1 x2 x3 x4 x5 x7 s0 h = some o → ZW G X sh_8 ad h 0 0 [(0, .ref (ad 30)), (1, .int (iI x1)), (2, .int (iI x2)), (3, .int (iI x3)), (4, .int (iI x4)), (5, .int (iI x5)), (7, .int (iI x7))] 131 [.int (iI s0)] := by
        intro x1 x2 x3 x4 x5 x7 s0 h hf hr
        unfold fX6_putMove_b131 at hr
        refine z_istore (lv1 := [(6, .int (iI s0)), (0, .ref (ad 30)), (1, .int (iI x1)), (2, .int (iI x2)), (3, .int (iI x3)), (4, .int (iI x4)), (5, .int (iI x5)), (7, .int (iI x7))]) hX dX6_putMove_131 (by decide) rfl ?_
        refine z_lv [1, 2, 3, 4, 5, 6, 0, 7] rfl ?_
        exact B133 x1 x2 x3 x4 x5 s0 x7 h hf hr
      have B126 : ∀ (x1 : Int) (x2 : Int) (x3 : Int) (x4 : Int) (x5 : Int) (x7 : Int) (h : HS), zfr [30, 35, 36, 41] h0 h → fX6_putMove_b126 (fun a0 a1 a2 a3 a4 a5 a6 hh => fX6_putMove_L31 n31 a0 a1 a2 a3 a4 a5 a6 hh) x1 x2 x3 x4 x5 x7 h = some o → ZW G X sh_8 ad h 0 0 [(0, .ref (ad 30)), (1, .int (iI x1)), (2, .int (iI x2)), (3, .int (iI x3)), (4, .int (iI x4)), (5, .int (iI x5)), (7, .int (iI x7))] 126 [] := by
        intro x1 x2 x3 x4 x5 x7 h hf hr
        unfold fX6_putMove_b126 at hr
        refine z_iconst hX dX6_putMove_126 ?_
        refine z_goto (tgt := 131) hX dX6_putMove_127 (by decide) ?_
        exact B131 x1 x2 x3 x4 x5 x7 1 h hf hr
      have B107 : ∀ (x1 : Int) (x2 : Int) (x3 : Int) (x4 : Int) (x6 : Int) (x7 : Int) (s0 : Int) (h : HS), zfr [30, 35, 36, 41] h0 h → fX6_putMove_b107 (fun a0 a1 a2 a3 a4 a5 a6 hh => fX6_putMove_L31 n31 a0 a1 a2 a3 a4 a5 a6 hh) x1 x2 x3 x4 x6 x7 s0 h = some o → ZW G X sh_8 ad h 0 0 [(0, .ref (ad 30)), (1, .int (iI x1)), (2, .int (iI x2)), (3, .int (iI x3)), (4, .int (iI x4)), (6, .int (iI x6)), (7, .int (iI x7))] 107 [.int (iI s0)] := by
        intro x1 x2 x3 x4 x6 x7 s0 h hf hr
        unfold fX6_putMove_b107 at hr
        refine z_istore (lv1 := [(5, .int (iI s0)), (0, .ref (ad 30)), (1, .int (iI x1)), (2, .int (iI x2)), (3, .int (iI x3)), (4, .int (iI x4)), (6, .int (iI x6)), (7, .int (iI x7))]) hX dX6_putMove_107 (by decide) rfl ?_
        refine z_iload hX dX6_putMove_109 6 rfl ?_
        refine z_if_ne (tgt := 126) hX dX6_putMove_111 (by decide) rfl hr (fun hr => ?_) (fun hr => ?_)
        · refine z_lv [1, 2, 3, 4, 5, 0, 7] rfl ?_
          exact B126 x1 x2 x3 x4 s0 x7 h hf hr
        · refine z_iload hX dX6_putMove_114 7 rfl ?_
          refine z_bipush hX dX6_putMove_116 (by decide +kernel) ?_
          refine z_idiv hX dX6_putMove_118 (by decide) hr (fun hr => ?_)
          refine z_iload_n hX dX6_putMove_119 2 rfl ?_
          refine z_bipush hX dX6_putMove_120 (by decide +kernel) ?_
          refine z_idiv hX dX6_putMove_122 (by decide) hr (fun hr => ?_)
          refine z_icmp_ne (tgt := 130) hX dX6_putMove_123 (by decide) rfl rfl hr (fun hr => ?_) (fun hr => ?_)
          · refine z_iconst hX dX6_putMove_130 ?_
            refine z_lv [1, 2, 3, 4, 5, 0, 7] rfl ?_
            exact B131 x1 x2 x3 x4 s0 x7 0 h hf hr
          · refine z_lv [1, 2, 3, 4, 5, 0, 7] rfl ?_
            exact B126 x1 x2 x3 x4 s0 x7 h hf hr
      have B102 : ∀ (x1 : Int) (x2 : Int) (x3 : Int) (x4 : Int) (x6 : Int) (x7 : Int) (h : HS), zfr [30, 35, 36, 41] h0 h → fX6_putMove_b102 (fun a0 a1 a2 a3 a4 a5 a6 hh => fX6_putMove_L31 n31 a0 a1 a2 a3 a4 a5 a6 hh) x1 x2 x3 x4 x6 x7 h = some o → ZW G X sh_8 ad h 0 0 [(0, .ref (ad 30)), (1, .int (iI x1)), (2, .int (iI x2)), (3, .int (iI x3)), (4, .int (iI x4)), (6, .int (iI x6)), (7, .int (iI x7))] 102 [] := by
        intro x1 x2 x3 x4 x6 x7 h hf hr
        unfold fX6_putMove_b102 at hr
        refine z_iconst hX dX6_putMove_102 ?_
        refine z_goto (tgt := 107) hX dX6_putMove_103 (by decide) ?_
        exact B107 x1 x2 x3 x4 x6 x7 1 h hf hr
      unfold fX6_putMove_L31 at hr
      refine z_iload hX dX6_putMove_31 7 rfl ?_
      refine z_bipush hX dX6_putMove_33 (by decide +kernel) ?_
      refine z_icmp_ge (tgt := 139) hX dX6_putMove_35 (by decide) rfl (wr_of (by decide) (by decide)) hr (fun hr => ?_) (fun hr => ?_)
      · refine z_iload hX dX6_putMove_139 4 rfl ?_
        refine z_if_eq (tgt := 165) hX dX6_putMove_141 (by decide) rfl hr (fun hr => ?_) (fun hr => ?_)
        · refine z_lv [0, 1, 2, 4, 5] rfl ?_
          exact B165 x1 x2 x4 x5 h hf hr
        · refine z_iload hX dX6_putMove_144 5 rfl ?_
          refine z_if_eq (tgt := 154) hX dX6_putMove_146 (by decide) rfl hr (fun hr => ?_) (fun hr => ?_)
          · refine z_lv [0, 1, 2, 4, 5] rfl ?_
            exact B154 x1 x2 x4 x5 h hf hr
          · refine z_iload hX dX6_putMove_149 6 rfl ?_
            refine z_if_eq (tgt := 165) hX dX6_putMove_151 (by decide) rfl hr (fun hr => ?_) (fun hr => ?_)
            · refine z_lv [0, 1, 2, 4, 5] rfl ?_
              exact B165 x1 x2 x4 x5 h hf hr
            · refine z_lv [0, 1, 2, 4, 5] rfl ?_
              exact B154 x1 x2 x4 x5 h hf hr
      · refine z_iload hX dX6_putMove_38 7 rfl ?_
        refine z_iload_n hX dX6_putMove_40 1 rfl ?_
        refine z_icmp_eq (tgt := 133) hX dX6_putMove_41 (by decide) rfl rfl hr (fun hr => ?_) (fun hr => ?_)
        · exact B133 x1 x2 x3 x4 x5 x6 x7 h hf hr
        · refine z_aload_n hX dX6_putMove_44 0 rfl ?_
          refine z_getR (j := 35) hX dX6_putMove_45 fl_22 0 rfl rfl ?_
          refine z_iload hX dX6_putMove_48 7 rfl ?_
          refine z_iaload (b := 64) hX dX6_putMove_50 5 rfl (by decide) rfl hr (fun hr => ?_)
          refine z_iload_n hX dX6_putMove_51 3 rfl ?_
          refine z_icmp_ne (tgt := 133) hX dX6_putMove_52 (by decide) rfl rfl hr (fun hr => ?_) (fun hr => ?_)
          · exact B133 x1 x2 x3 x4 x5 x6 x7 h hf hr
          · refine z_aload_n hX dX6_putMove_55 0 rfl ?_
            refine z_aload_n hX dX6_putMove_56 0 rfl ?_
            refine z_getR (j := 35) hX dX6_putMove_57 fl_22 0 rfl rfl ?_
            refine z_iload hX dX6_putMove_60 7 rfl ?_
            refine z_iload_n hX dX6_putMove_62 2 rfl ?_
            obtain ⟨r8, hc8, hr⟩ := z_bind hr
            refine z_callV_i (As := [.ref (ad 35), .int (iI x7), .int (iI x2)]) (k1 := 0) (n1 := 0) (nA := 3) hX (mX6_reaches hc8) dX6_putMove_63 gX6_putMove_X6_reaches rfl ⟨rfl, by decide, by decide, by decide +kernel⟩ ⟨by decide, by decide⟩ ⟨by decide, by decide⟩ 0 rfl rfl rfl rfl (Nat.le_of_ble_eq_true rfl) (by decide +kernel) rfl rfl (fun hg8 => ?_)
            refine z_if_eq (tgt := 133) hX dX6_putMove_66 (by decide) rfl hr (fun hr => ?_) (fun hr => ?_)
            · exact B133 x1 x2 x3 x4 x5 x6 x7 h hf hr
            · refine z_aload_n hX dX6_putMove_69 0 rfl ?_
              refine z_iload hX dX6_putMove_70 7 rfl ?_
              refine z_iload_n hX dX6_putMove_72 2 rfl ?_
              obtain ⟨r9, hc9, hr⟩ := z_bind hr
              refine z_callV_i (As := [.int (iI x7), .int (iI x2)]) (k1 := 0) (n1 := 0) (nA := 2) hX (mX6_isLegal hc9) dX6_putMove_73 gX6_putMove_X6_isLegal rfl ⟨rfl, by decide, by decide, by decide +kernel⟩ ⟨by decide, by decide⟩ ⟨by decide, by decide⟩ 0 rfl rfl rfl rfl (Nat.le_of_ble_eq_true rfl) (by decide +kernel) rfl rfl (fun hg9 => ?_)
              have hf : zfr [30, 35, 36, 41] h0 r9.2 := zfr_tr hf (by decide) hg9
              refine z_if_ne (tgt := 82) hX dX6_putMove_76 (by decide) rfl hr (fun hr => ?_) (fun hr => ?_)
              · refine z_iconst hX dX6_putMove_82 ?_
                refine z_istore (lv1 := [(4, .int (iI 1)), (0, .ref (ad 30)), (1, .int (iI x1)), (2, .int (iI x2)), (3, .int (iI x3)), (5, .int (iI x5)), (6, .int (iI x6)), (7, .int (iI x7))]) hX dX6_putMove_83 (by decide) rfl ?_
                refine z_iload hX dX6_putMove_85 5 rfl ?_
                refine z_if_ne (tgt := 102) hX dX6_putMove_87 (by decide) rfl hr (fun hr => ?_) (fun hr => ?_)
                · refine z_lv [1, 2, 3, 4, 0, 6, 7] rfl ?_
                  exact B102 x1 x2 x3 1 x6 x7 r9.2 hf hr
                · refine z_iload hX dX6_putMove_90 7 rfl ?_
                  refine z_bipush hX dX6_putMove_92 (by decide +kernel) ?_
                  refine z_irem hX dX6_putMove_94 (by decide) hr (fun hr => ?_)
                  refine z_iload_n hX dX6_putMove_95 2 rfl ?_
                  refine z_bipush hX dX6_putMove_96 (by decide +kernel) ?_
                  refine z_irem hX dX6_putMove_98 (by decide) hr (fun hr => ?_)
                  refine z_icmp_ne (tgt := 106) hX dX6_putMove_99 (by decide) rfl rfl hr (fun hr => ?_) (fun hr => ?_)
                  · refine z_iconst hX dX6_putMove_106 ?_
                    refine z_lv [1, 2, 3, 4, 0, 6, 7] rfl ?_
                    exact B107 x1 x2 x3 1 x6 x7 0 r9.2 hf hr
                  · refine z_lv [1, 2, 3, 4, 0, 6, 7] rfl ?_
                    exact B102 x1 x2 x3 1 x6 x7 r9.2 hf hr
              · refine z_goto (tgt := 133) hX dX6_putMove_79 (by decide) ?_
                exact B133 x1 x2 x3 x4 x5 x6 x7 r9.2 hf hr
  unfold fX6_putMove at hr
  refine z_aload_n hX dX6_putMove_0 0 rfl ?_
  refine z_getR (j := 35) hX dX6_putMove_1 fl_22 0 rfl rfl ?_
  refine z_iload_n hX dX6_putMove_4 1 rfl ?_
  refine z_iaload (b := 64) hX dX6_putMove_5 5 rfl (by decide) rfl hr (fun hr => ?_)
  refine z_istore_n (lv1 := [(3, .int (iI (h0 35 p1))), (0, .ref (ad 30)), (1, .int (iI p1)), (2, .int (iI p2))]) hX dX6_putMove_6 (by decide) rfl ?_
  refine z_aload_n hX dX6_putMove_7 1 rfl ?_
  refine z_aload_n hX dX6_putMove_8 1 rfl ?_
  refine z_getR (j := 31) hX dX6_putMove_9 fl_9 0 rfl rfl ?_
  refine z_iload_n hX dX6_putMove_12 0 rfl ?_
  refine z_iconst hX dX6_putMove_13 ?_
  refine z_idiv hX dX6_putMove_14 (by decide) hr (fun hr => ?_)
  refine z_iaload (b := 6) hX dX6_putMove_15 1 rfl (by decide) rfl hr (fun hr => ?_)
  obtain ⟨r10, hc10, hr⟩ := z_bind hr
  refine z_callV_v (As := [.int (iI (h0 31 ((h0 35 p1) / 2)))]) (k1 := 0) (n1 := 0) (nA := 1) hX (mX6_put_ hc10) dX6_putMove_16 gX6_putMove_X6_put_ rfl ⟨rfl, by decide, by decide, by decide +kernel⟩ ⟨by decide, by decide⟩ ⟨by decide, by decide⟩ 0 rfl rfl rfl rfl (Nat.le_of_ble_eq_true rfl) (by decide +kernel) rfl rfl (fun hg10 => ?_)
  have hf : zfr [30, 35, 36, 41] h0 r10 := zfr_tr hf (by decide) hg10
  refine z_iconst hX dX6_putMove_19 ?_
  refine z_istore (lv1 := [(4, .int (iI 0)), (3, .int (iI (h0 35 p1))), (0, .ref (ad 30)), (1, .int (iI p1)), (2, .int (iI p2))]) hX dX6_putMove_20 (by decide) rfl ?_
  refine z_iconst hX dX6_putMove_22 ?_
  refine z_istore (lv1 := [(5, .int (iI 0)), (4, .int (iI 0)), (3, .int (iI (h0 35 p1))), (0, .ref (ad 30)), (1, .int (iI p1)), (2, .int (iI p2))]) hX dX6_putMove_23 (by decide) rfl ?_
  refine z_iconst hX dX6_putMove_25 ?_
  refine z_istore (lv1 := [(6, .int (iI 0)), (5, .int (iI 0)), (4, .int (iI 0)), (3, .int (iI (h0 35 p1))), (0, .ref (ad 30)), (1, .int (iI p1)), (2, .int (iI p2))]) hX dX6_putMove_26 (by decide) rfl ?_
  refine z_iconst hX dX6_putMove_28 ?_
  refine z_istore (lv1 := [(7, .int (iI 0)), (6, .int (iI 0)), (5, .int (iI 0)), (4, .int (iI 0)), (3, .int (iI (h0 35 p1))), (0, .ref (ad 30)), (1, .int (iI p1)), (2, .int (iI p2))]) hX dX6_putMove_29 (by decide) rfl ?_
  refine z_lv [5, 6, 7, 4, 3, 2, 1, 0] rfl ?_
  exact B31 zF p1 p2 (h0 35 p1) 0 0 0 0 r10 hf hr

def fX6_toTape (h : HS) : Option (Int × HS) := if (0 : Int) ≤ 0 ∧ (0 : Int) ≤ 0 ∧ (0 : Int) ≤ (h 30 23) ∧ (0 : Int) + (h 30 23) ≤ 2000 ∧ (0 : Int) + (h 30 23) ≤ 2000 then some ((((hs (hcp h 41 0 39 0 (h 30 23)) 30 13 (((hcp h 41 0 39 0 (h 30 23))) 30 23))) 30 13), (hs (hcp h 41 0 39 0 (h 30 23)) 30 13 (((hcp h 41 0 39 0 (h 30 23))) 30 23))) else none
set_option maxRecDepth 100000 in
set_option maxHeartbeats 4000000 in
theorem mX6_toTape {G : ZG} {l0 : Launch} {ad : Nat → Nat} {h0 : HS} {o : Int × HS} (hr : fX6_toTape h0 = some o) : ZMi G l0 yX6_toTape wsX6_toTape ({ frames := 1, cells := 0, slots := 0, locals := 40 }) [.ref (ad 30)] sh_8 ad h0 [30, 39] o.1 o.2 := by
  refine ZMi.of (cc := cX6_toTape) (maxL := 1) (ret := (some .int)) (own := RX6) (lv0 := [(0, .ref (ad 30))]) (by decide) rfl rfl rfl (Nat.le_of_ble_eq_true rfl) rfl ?_
  intro X hX hQ
  have hf : zfr [30, 39] h0 h0 := zfr_rf
  have fl_127 : zFld wsX6_toTape RX6 127 6 RX6 TX6 26 13 := ⟨by decide +kernel, by decide +kernel, by decide, rfl⟩
  have fl_206 : zFld wsX6_toTape RX6 206 6 RX6 TX6 26 23 := ⟨by decide +kernel, by decide +kernel, by decide, rfl⟩
  have fl_39 : zFld wsX6_toTape RX6 39 6 RX6 TX6 26 12 := ⟨by decide +kernel, by decide +kernel, by decide, rfl⟩
  have fl_54 : zFld wsX6_toTape RX6 54 6 RX6 TX6 26 22 := ⟨by decide +kernel, by decide +kernel, by decide, rfl⟩
  have pu_X6_13 : zPut TX6 26 13 tyX6 .int := ⟨tyX6_ok, nmX6, rfl, by decide +kernel⟩
  unfold fX6_toTape at hr
  refine z_aload_n hX dX6_toTape_0 0 rfl ?_
  refine z_getR (j := 41) hX dX6_toTape_1 fl_54 0 rfl rfl ?_
  refine z_iconst hX dX6_toTape_4 ?_
  refine z_aload_n hX dX6_toTape_5 0 rfl ?_
  refine z_getR (j := 39) hX dX6_toTape_6 fl_39 0 rfl rfl ?_
  refine z_iconst hX dX6_toTape_9 ?_
  refine z_aload_n hX dX6_toTape_10 0 rfl ?_
  refine z_getI hX dX6_toTape_11 fl_206 0 rfl rfl ?_
  refine z_copyi (b0 := 2000) (b1 := 2000) hX dX6_toTape_14 11 9 rfl rfl (by decide) (by decide) rfl rfl (by decide +kernel) (by decide +kernel) (by decide +kernel) (by decide +kernel) (by decide) (by decide +kernel) hr (fun hr => ?_)
  have hf : zfr [30, 39] h0 (hcp h0 41 0 39 0 (h0 30 23)) := zfr_hcp hf (by decide)
  refine z_aload_n hX dX6_toTape_17 0 rfl ?_
  refine z_aload_n hX dX6_toTape_18 0 rfl ?_
  refine z_getI hX dX6_toTape_19 fl_206 0 rfl rfl ?_
  refine z_putI hX dX6_toTape_22 fl_127 pu_X6_13 0 rfl rfl ?_
  have hf : zfr [30, 39] h0 (hs (hcp h0 41 0 39 0 (h0 30 23)) 30 13 (((hcp h0 41 0 39 0 (h0 30 23))) 30 23)) := zfr_hs hf (by decide)
  refine z_aload_n hX dX6_toTape_25 0 rfl ?_
  refine z_getI hX dX6_toTape_26 fl_127 0 rfl rfl ?_
  obtain rfl := Option.some.inj hr
  exact hQ _ _ dX6_toTape_29 hf

def fX6_write_b19 (h : HS) : Option (Int × HS) := (fX6_fail 1 h).bind fun r1 => some (r1.1, r1.2)
def fX6_write (p1 : Int) (p2 : Int) (h : HS) : Option (Int × HS) := (fX6_isSquare p1 (hs h 30 0 0)).bind fun r2 => if wr r2 = 0 then fX6_write_b19 (hs h 30 0 0) else (fX6_isSquare p2 (hs h 30 0 0)).bind fun r3 => if wr r3 = 0 then fX6_write_b19 (hs h 30 0 0) else (fX6_why p1 p2 (hs h 30 0 0)).bind fun r4 => if wr r4.1 = 0 then if (0 : Int) = 0 ∨ (0 : Int) = 1 then (fX6_putMove p1 p2 (hs (hs r4.2 30 23 0) 30 24 0)).bind fun r5 => (fX6_toTape r5).bind fun r6 => some (r6.1, r6.2) else none else (fX6_fail 2 r4.2).bind fun r7 => some (r7.1, r7.2)
set_option maxRecDepth 100000 in
set_option maxHeartbeats 4000000 in
theorem mX6_write {G : ZG} {l0 : Launch} {ad : Nat → Nat} {h0 : HS} {p1 : Int} {p2 : Int} {o : Int × HS} (hr : fX6_write p1 p2 h0 = some o) : ZMi G l0 yX6_write wsX6_write ({ frames := 8, cells := 0, slots := 0, locals := 200 }) [.ref (ad 30), .int (iI p1), .int (iI p2)] sh_8 ad h0 [30, 35, 36, 39, 41] o.1 o.2 := by
  refine ZMi.of (cc := cX6_write) (maxL := 3) (ret := (some .int)) (own := RX6) (lv0 := [(0, .ref (ad 30)), (1, .int (iI p1)), (2, .int (iI p2))]) (by decide) rfl rfl rfl (Nat.le_of_ble_eq_true rfl) rfl ?_
  intro X hX hQ
  have hf : zfr [30, 35, 36, 39, 41] h0 h0 := zfr_rf
  have fl_202 : zFld wsX6_write RX6 202 6 RX6 TX6 26 24 := ⟨by decide +kernel, by decide +kernel, by decide, rfl⟩
  have fl_206 : zFld wsX6_write RX6 206 6 RX6 TX6 26 23 := ⟨by decide +kernel, by decide +kernel, by decide, rfl⟩
  have fl_66 : zFld wsX6_write RX6 66 6 RX6 TX6 26 0 := ⟨by decide +kernel, by decide +kernel, by decide, rfl⟩
  have pu_X6_0 : zPut TX6 26 0 tyX6 .int := ⟨tyX6_ok, nmX6, rfl, by decide +kernel⟩
  have pu_X6_23 : zPut TX6 26 23 tyX6 .int := ⟨tyX6_ok, nmX6, rfl, by decide +kernel⟩
  have pu_X6_24 : zPut TX6 26 24 tyX6 .boolean := ⟨tyX6_ok, nmX6, rfl, by decide +kernel⟩
  have B19 : ∀ (h : HS), zfr [30, 35, 36, 39, 41] h0 h → fX6_write_b19 h = some o → ZW G X sh_8 ad h 0 0 [(0, .ref (ad 30))] 19 [] := by
    intro h hf hr
    unfold fX6_write_b19 at hr
    refine z_aload_n hX dX6_write_19 0 rfl ?_
    refine z_iconst hX dX6_write_20 ?_
    obtain ⟨r1, hc1, hr⟩ := z_bind hr
    refine z_callV_i (As := [.int (iI 1)]) (k1 := 0) (n1 := 0) (nA := 1) hX (mX6_fail hc1) dX6_write_21 gX6_write_X6_fail rfl ⟨rfl, by decide, by decide, by decide +kernel⟩ ⟨by decide, by decide⟩ ⟨by decide, by decide⟩ 0 rfl rfl rfl rfl (Nat.le_of_ble_eq_true rfl) (by decide +kernel) rfl rfl (fun hg1 => ?_)
    have hf : zfr [30, 35, 36, 39, 41] h0 r1.2 := zfr_tr hf (by decide) hg1
    obtain rfl := Option.some.inj hr
    exact hQ _ _ dX6_write_24 hf
  unfold fX6_write at hr
  refine z_aload_n hX dX6_write_0 0 rfl ?_
  refine z_iconst hX dX6_write_1 ?_
  refine z_putI hX dX6_write_2 fl_66 pu_X6_0 0 rfl rfl ?_
  have hf : zfr [30, 35, 36, 39, 41] h0 (hs h0 30 0 0) := zfr_hs hf (by decide)
  refine z_iload_n hX dX6_write_5 1 rfl ?_
  obtain ⟨r2, hc2, hr⟩ := z_bind hr
  refine z_callS_i (As := [.int (iI p1)]) (k1 := 0) (n1 := 0) (nA := 1) hX (mX6_isSquare hc2) dX6_write_6 gX6_write_X6_isSquare rfl ⟨by decide, by decide, by decide +kernel⟩ ⟨by decide, by decide⟩ ⟨by decide, by decide⟩ rfl rfl (Nat.le_of_ble_eq_true rfl) (by decide +kernel) rfl rfl (fun hg2 => ?_)
  refine z_if_eq (tgt := 19) hX dX6_write_9 (by decide) rfl hr (fun hr => ?_) (fun hr => ?_)
  · refine z_lv [0] rfl ?_
    exact B19 (hs h0 30 0 0) hf hr
  · refine z_iload_n hX dX6_write_12 2 rfl ?_
    obtain ⟨r3, hc3, hr⟩ := z_bind hr
    refine z_callS_i (As := [.int (iI p2)]) (k1 := 0) (n1 := 0) (nA := 1) hX (mX6_isSquare hc3) dX6_write_13 gX6_write_X6_isSquare rfl ⟨by decide, by decide, by decide +kernel⟩ ⟨by decide, by decide⟩ ⟨by decide, by decide⟩ rfl rfl (Nat.le_of_ble_eq_true rfl) (by decide +kernel) rfl rfl (fun hg3 => ?_)
    refine z_if_ne (tgt := 25) hX dX6_write_16 (by decide) rfl hr (fun hr => ?_) (fun hr => ?_)
    · refine z_aload_n hX dX6_write_25 0 rfl ?_
      refine z_iload_n hX dX6_write_26 1 rfl ?_
      refine z_iload_n hX dX6_write_27 2 rfl ?_
      obtain ⟨r4, hc4, hr⟩ := z_bind hr
      refine z_callV_i (As := [.int (iI p1), .int (iI p2)]) (k1 := 0) (n1 := 0) (nA := 2) hX (mX6_why hc4) dX6_write_28 gX6_write_X6_why rfl ⟨rfl, by decide, by decide, by decide +kernel⟩ ⟨by decide, by decide⟩ ⟨by decide, by decide⟩ 0 rfl rfl rfl rfl (Nat.le_of_ble_eq_true rfl) (by decide +kernel) rfl rfl (fun hg4 => ?_)
      have hf : zfr [30, 35, 36, 39, 41] h0 r4.2 := zfr_tr hf (by decide) hg4
      refine z_if_eq (tgt := 40) hX dX6_write_31 (by decide) rfl hr (fun hr => ?_) (fun hr => ?_)
      · refine z_aload_n hX dX6_write_40 0 rfl ?_
        refine z_iconst hX dX6_write_41 ?_
        refine z_putI hX dX6_write_42 fl_206 pu_X6_23 0 rfl rfl ?_
        have hf : zfr [30, 35, 36, 39, 41] h0 (hs r4.2 30 23 0) := zfr_hs hf (by decide)
        refine z_aload_n hX dX6_write_45 0 rfl ?_
        refine z_iconst hX dX6_write_46 ?_
        refine z_putZ hX dX6_write_47 fl_202 pu_X6_24 0 rfl rfl hr (fun hr => ?_)
        have hf : zfr [30, 35, 36, 39, 41] h0 (hs (hs r4.2 30 23 0) 30 24 0) := zfr_hs hf (by decide)
        refine z_aload_n hX dX6_write_50 0 rfl ?_
        refine z_iload_n hX dX6_write_51 1 rfl ?_
        refine z_iload_n hX dX6_write_52 2 rfl ?_
        obtain ⟨r5, hc5, hr⟩ := z_bind hr
        refine z_callV_v (As := [.int (iI p1), .int (iI p2)]) (k1 := 0) (n1 := 0) (nA := 2) hX (mX6_putMove hc5) dX6_write_53 gX6_write_X6_putMove rfl ⟨rfl, by decide, by decide, by decide +kernel⟩ ⟨by decide, by decide⟩ ⟨by decide, by decide⟩ 0 rfl rfl rfl rfl (Nat.le_of_ble_eq_true rfl) (by decide +kernel) rfl rfl (fun hg5 => ?_)
        have hf : zfr [30, 35, 36, 39, 41] h0 r5 := zfr_tr hf (by decide) hg5
        refine z_aload_n hX dX6_write_56 0 rfl ?_
        obtain ⟨r6, hc6, hr⟩ := z_bind hr
        refine z_callV_i (As := []) (k1 := 0) (n1 := 0) (nA := 0) hX (mX6_toTape hc6) dX6_write_57 gX6_write_X6_toTape rfl ⟨rfl, by decide, by decide, by decide +kernel⟩ ⟨by decide, by decide⟩ ⟨by decide, by decide⟩ 0 rfl rfl rfl rfl (Nat.le_of_ble_eq_true rfl) (by decide +kernel) rfl rfl (fun hg6 => ?_)
        have hf : zfr [30, 35, 36, 39, 41] h0 r6.2 := zfr_tr hf (by decide) hg6
        obtain rfl := Option.some.inj hr
        exact hQ _ _ dX6_write_60 hf
      · refine z_aload_n hX dX6_write_34 0 rfl ?_
        refine z_iconst hX dX6_write_35 ?_
        obtain ⟨r7, hc7, hr⟩ := z_bind hr
        refine z_callV_i (As := [.int (iI 2)]) (k1 := 0) (n1 := 0) (nA := 1) hX (mX6_fail hc7) dX6_write_36 gX6_write_X6_fail rfl ⟨rfl, by decide, by decide, by decide +kernel⟩ ⟨by decide, by decide⟩ ⟨by decide, by decide⟩ 0 rfl rfl rfl rfl (Nat.le_of_ble_eq_true rfl) (by decide +kernel) rfl rfl (fun hg7 => ?_)
        have hf : zfr [30, 35, 36, 39, 41] h0 r7.2 := zfr_tr hf (by decide) hg7
        obtain rfl := Option.some.inj hr
        exact hQ _ _ dX6_write_39 hf
    · refine z_lv [0] rfl ?_
      exact B19 (hs h0 30 0 0) hf hr

def fX6_byteAt (p1 : Int) (h : HS) : Option (Int × HS) := (fX6_isIn p1 0 ((((hs h 30 0 0)) 30 13) - 1) (hs h 30 0 0)).bind fun r1 => if wr r1 = 0 then (fX6_fail 1 (hs h 30 0 0)).bind fun r2 => some (r2.1, r2.2) else if (0 : Int) ≤ p1 ∧ p1 < 2000 then some ((((hs h 30 0 0)) 39 p1), (hs h 30 0 0)) else none
set_option maxRecDepth 100000 in
set_option maxHeartbeats 4000000 in
theorem mX6_byteAt {G : ZG} {l0 : Launch} {ad : Nat → Nat} {h0 : HS} {p1 : Int} {o : Int × HS} (hr : fX6_byteAt p1 h0 = some o) : ZMi G l0 yX6_byteAt wsX6_byteAt ({ frames := 1, cells := 0, slots := 0, locals := 22 }) [.ref (ad 30), .int (iI p1)] sh_8 ad h0 [30] o.1 o.2 := by
  refine ZMi.of (cc := cX6_byteAt) (maxL := 2) (ret := (some .int)) (own := RX6) (lv0 := [(0, .ref (ad 30)), (1, .int (iI p1))]) (by decide) rfl rfl rfl (Nat.le_of_ble_eq_true rfl) rfl ?_
  intro X hX hQ
  have hf : zfr [30] h0 h0 := zfr_rf
  have fl_127 : zFld wsX6_byteAt RX6 127 6 RX6 TX6 26 13 := ⟨by decide +kernel, by decide +kernel, by decide, rfl⟩
  have fl_39 : zFld wsX6_byteAt RX6 39 6 RX6 TX6 26 12 := ⟨by decide +kernel, by decide +kernel, by decide, rfl⟩
  have fl_66 : zFld wsX6_byteAt RX6 66 6 RX6 TX6 26 0 := ⟨by decide +kernel, by decide +kernel, by decide, rfl⟩
  have pu_X6_0 : zPut TX6 26 0 tyX6 .int := ⟨tyX6_ok, nmX6, rfl, by decide +kernel⟩
  unfold fX6_byteAt at hr
  refine z_aload_n hX dX6_byteAt_0 0 rfl ?_
  refine z_iconst hX dX6_byteAt_1 ?_
  refine z_putI hX dX6_byteAt_2 fl_66 pu_X6_0 0 rfl rfl ?_
  have hf : zfr [30] h0 (hs h0 30 0 0) := zfr_hs hf (by decide)
  refine z_iload_n hX dX6_byteAt_5 1 rfl ?_
  refine z_iconst hX dX6_byteAt_6 ?_
  refine z_aload_n hX dX6_byteAt_7 0 rfl ?_
  refine z_getI hX dX6_byteAt_8 fl_127 0 rfl rfl ?_
  refine z_iconst hX dX6_byteAt_11 ?_
  refine z_isub hX dX6_byteAt_12 ?_
  obtain ⟨r1, hc1, hr⟩ := z_bind hr
  refine z_callS_i (As := [.int (iI p1), .int (iI 0), .int (iI ((((hs h0 30 0 0)) 30 13) - 1))]) (k1 := 0) (n1 := 0) (nA := 3) hX (mX6_isIn hc1) dX6_byteAt_13 gX6_byteAt_X6_isIn rfl ⟨by decide, by decide, by decide +kernel⟩ ⟨by decide, by decide⟩ ⟨by decide, by decide⟩ rfl rfl (Nat.le_of_ble_eq_true rfl) (by decide +kernel) rfl rfl (fun hg1 => ?_)
  refine z_if_eq (tgt := 28) hX dX6_byteAt_16 (by decide) rfl hr (fun hr => ?_) (fun hr => ?_)
  · refine z_aload_n hX dX6_byteAt_28 0 rfl ?_
    refine z_iconst hX dX6_byteAt_29 ?_
    obtain ⟨r2, hc2, hr⟩ := z_bind hr
    refine z_callV_i (As := [.int (iI 1)]) (k1 := 0) (n1 := 0) (nA := 1) hX (mX6_fail hc2) dX6_byteAt_30 gX6_byteAt_X6_fail rfl ⟨rfl, by decide, by decide, by decide +kernel⟩ ⟨by decide, by decide⟩ ⟨by decide, by decide⟩ 0 rfl rfl rfl rfl (Nat.le_of_ble_eq_true rfl) (by decide +kernel) rfl rfl (fun hg2 => ?_)
    have hf : zfr [30] h0 r2.2 := zfr_tr hf (by decide) hg2
    obtain rfl := Option.some.inj hr
    exact hQ _ _ dX6_byteAt_33 hf
  · refine z_aload_n hX dX6_byteAt_19 0 rfl ?_
    refine z_getR (j := 39) hX dX6_byteAt_20 fl_39 0 rfl rfl ?_
    refine z_iload_n hX dX6_byteAt_23 1 rfl ?_
    refine z_iaload (b := 2000) hX dX6_byteAt_24 9 rfl (by decide) rfl hr (fun hr => ?_)
    refine z_goto (tgt := 33) hX dX6_byteAt_25 (by decide) ?_
    obtain rfl := Option.some.inj hr
    exact hQ _ _ dX6_byteAt_33 hf

def fX6_node_b31 (h : HS) : Option (Int × HS) := (fX6_fail 1 h).bind fun r1 => some (r1.1, r1.2)
def fX6_node (p1 : Int) (p2 : Int) (h : HS) : Option (Int × HS) := (fX6_isNode p1 (hs h 30 0 0)).bind fun r2 => if wr r2 = 0 then fX6_node_b31 (hs h 30 0 0) else (fX6_isIn p2 0 4 (hs h 30 0 0)).bind fun r3 => if wr r3 = 0 then fX6_node_b31 (hs h 30 0 0) else (fX6_get p1 p2 (hs h 30 0 0)).bind fun r4 => some (r4, (hs h 30 0 0))
set_option maxRecDepth 100000 in
set_option maxHeartbeats 4000000 in
theorem mX6_node {G : ZG} {l0 : Launch} {ad : Nat → Nat} {h0 : HS} {p1 : Int} {p2 : Int} {o : Int × HS} (hr : fX6_node p1 p2 h0 = some o) : ZMi G l0 yX6_node wsX6_node ({ frames := 2, cells := 0, slots := 0, locals := 43 }) [.ref (ad 30), .int (iI p1), .int (iI p2)] sh_8 ad h0 [30] o.1 o.2 := by
  refine ZMi.of (cc := cX6_node) (maxL := 3) (ret := (some .int)) (own := RX6) (lv0 := [(0, .ref (ad 30)), (1, .int (iI p1)), (2, .int (iI p2))]) (by decide) rfl rfl rfl (Nat.le_of_ble_eq_true rfl) rfl ?_
  intro X hX hQ
  have hf : zfr [30] h0 h0 := zfr_rf
  have fl_66 : zFld wsX6_node RX6 66 6 RX6 TX6 26 0 := ⟨by decide +kernel, by decide +kernel, by decide, rfl⟩
  have pu_X6_0 : zPut TX6 26 0 tyX6 .int := ⟨tyX6_ok, nmX6, rfl, by decide +kernel⟩
  have B31 : ∀ (h : HS), zfr [30] h0 h → fX6_node_b31 h = some o → ZW G X sh_8 ad h 0 0 [(0, .ref (ad 30))] 31 [] := by
    intro h hf hr
    unfold fX6_node_b31 at hr
    refine z_aload_n hX dX6_node_31 0 rfl ?_
    refine z_iconst hX dX6_node_32 ?_
    obtain ⟨r1, hc1, hr⟩ := z_bind hr
    refine z_callV_i (As := [.int (iI 1)]) (k1 := 0) (n1 := 0) (nA := 1) hX (mX6_fail hc1) dX6_node_33 gX6_node_X6_fail rfl ⟨rfl, by decide, by decide, by decide +kernel⟩ ⟨by decide, by decide⟩ ⟨by decide, by decide⟩ 0 rfl rfl rfl rfl (Nat.le_of_ble_eq_true rfl) (by decide +kernel) rfl rfl (fun hg1 => ?_)
    have hf : zfr [30] h0 r1.2 := zfr_tr hf (by decide) hg1
    obtain rfl := Option.some.inj hr
    exact hQ _ _ dX6_node_36 hf
  unfold fX6_node at hr
  refine z_aload_n hX dX6_node_0 0 rfl ?_
  refine z_iconst hX dX6_node_1 ?_
  refine z_putI hX dX6_node_2 fl_66 pu_X6_0 0 rfl rfl ?_
  have hf : zfr [30] h0 (hs h0 30 0 0) := zfr_hs hf (by decide)
  refine z_aload_n hX dX6_node_5 0 rfl ?_
  refine z_iload_n hX dX6_node_6 1 rfl ?_
  obtain ⟨r2, hc2, hr⟩ := z_bind hr
  refine z_callV_i (As := [.int (iI p1)]) (k1 := 0) (n1 := 0) (nA := 1) hX (mX6_isNode hc2) dX6_node_7 gX6_node_X6_isNode rfl ⟨rfl, by decide, by decide, by decide +kernel⟩ ⟨by decide, by decide⟩ ⟨by decide, by decide⟩ 0 rfl rfl rfl rfl (Nat.le_of_ble_eq_true rfl) (by decide +kernel) rfl rfl (fun hg2 => ?_)
  refine z_if_eq (tgt := 31) hX dX6_node_10 (by decide) rfl hr (fun hr => ?_) (fun hr => ?_)
  · refine z_lv [0] rfl ?_
    exact B31 (hs h0 30 0 0) hf hr
  · refine z_iload_n hX dX6_node_13 2 rfl ?_
    refine z_iconst hX dX6_node_14 ?_
    refine z_iconst hX dX6_node_15 ?_
    obtain ⟨r3, hc3, hr⟩ := z_bind hr
    refine z_callS_i (As := [.int (iI p2), .int (iI 0), .int (iI 4)]) (k1 := 0) (n1 := 0) (nA := 3) hX (mX6_isIn hc3) dX6_node_16 gX6_node_X6_isIn rfl ⟨by decide, by decide, by decide +kernel⟩ ⟨by decide, by decide⟩ ⟨by decide, by decide⟩ rfl rfl (Nat.le_of_ble_eq_true rfl) (by decide +kernel) rfl rfl (fun hg3 => ?_)
    refine z_if_eq (tgt := 31) hX dX6_node_19 (by decide) rfl hr (fun hr => ?_) (fun hr => ?_)
    · refine z_lv [0] rfl ?_
      exact B31 (hs h0 30 0 0) hf hr
    · refine z_aload_n hX dX6_node_22 0 rfl ?_
      refine z_iload_n hX dX6_node_23 1 rfl ?_
      refine z_iload_n hX dX6_node_24 2 rfl ?_
      obtain ⟨r4, hc4, hr⟩ := z_bind hr
      refine z_callV_i (As := [.int (iI p1), .int (iI p2)]) (k1 := 0) (n1 := 0) (nA := 2) hX (mX6_get hc4) dX6_node_25 gX6_node_X6_get rfl ⟨rfl, by decide, by decide, by decide +kernel⟩ ⟨by decide, by decide⟩ ⟨by decide, by decide⟩ 0 rfl rfl rfl rfl (Nat.le_of_ble_eq_true rfl) (by decide +kernel) rfl rfl (fun hg4 => ?_)
      refine z_goto (tgt := 36) hX dX6_node_28 (by decide) ?_
      obtain rfl := Option.some.inj hr
      exact hQ _ _ dX6_node_36 hf

def fX6_continuation_b38 (h : HS) : Option (Int × HS) := (fX6_fail 1 h).bind fun r1 => some (r1.1, r1.2)
def fX6_continuation (p1 : Int) (p2 : Int) (h : HS) : Option (Int × HS) := (fX6_isNode p1 (hs h 30 0 0)).bind fun r2 => if wr r2 = 0 then fX6_continuation_b38 (hs h 30 0 0) else (fX6_get p1 4 (hs h 30 0 0)).bind fun r3 => (fX6_isIn p2 0 (r3 - 1) (hs h 30 0 0)).bind fun r4 => if wr r4 = 0 then fX6_continuation_b38 (hs h 30 0 0) else (fX6_continuation0 p1 p2 (hs h 30 0 0)).bind fun r5 => some (r5, (hs h 30 0 0))
set_option maxRecDepth 100000 in
set_option maxHeartbeats 4000000 in
theorem mX6_continuation {G : ZG} {l0 : Launch} {ad : Nat → Nat} {h0 : HS} {p1 : Int} {p2 : Int} {o : Int × HS} (hr : fX6_continuation p1 p2 h0 = some o) : ZMi G l0 yX6_continuation wsX6_continuation ({ frames := 2, cells := 0, slots := 0, locals := 43 }) [.ref (ad 30), .int (iI p1), .int (iI p2)] sh_8 ad h0 [30] o.1 o.2 := by
  refine ZMi.of (cc := cX6_continuation) (maxL := 3) (ret := (some .int)) (own := RX6) (lv0 := [(0, .ref (ad 30)), (1, .int (iI p1)), (2, .int (iI p2))]) (by decide) rfl rfl rfl (Nat.le_of_ble_eq_true rfl) rfl ?_
  intro X hX hQ
  have hf : zfr [30] h0 h0 := zfr_rf
  have fl_66 : zFld wsX6_continuation RX6 66 6 RX6 TX6 26 0 := ⟨by decide +kernel, by decide +kernel, by decide, rfl⟩
  have pu_X6_0 : zPut TX6 26 0 tyX6 .int := ⟨tyX6_ok, nmX6, rfl, by decide +kernel⟩
  have B38 : ∀ (h : HS), zfr [30] h0 h → fX6_continuation_b38 h = some o → ZW G X sh_8 ad h 0 0 [(0, .ref (ad 30))] 38 [] := by
    intro h hf hr
    unfold fX6_continuation_b38 at hr
    refine z_aload_n hX dX6_continuation_38 0 rfl ?_
    refine z_iconst hX dX6_continuation_39 ?_
    obtain ⟨r1, hc1, hr⟩ := z_bind hr
    refine z_callV_i (As := [.int (iI 1)]) (k1 := 0) (n1 := 0) (nA := 1) hX (mX6_fail hc1) dX6_continuation_40 gX6_continuation_X6_fail rfl ⟨rfl, by decide, by decide, by decide +kernel⟩ ⟨by decide, by decide⟩ ⟨by decide, by decide⟩ 0 rfl rfl rfl rfl (Nat.le_of_ble_eq_true rfl) (by decide +kernel) rfl rfl (fun hg1 => ?_)
    have hf : zfr [30] h0 r1.2 := zfr_tr hf (by decide) hg1
    obtain rfl := Option.some.inj hr
    exact hQ _ _ dX6_continuation_43 hf
  unfold fX6_continuation at hr
  refine z_aload_n hX dX6_continuation_0 0 rfl ?_
  refine z_iconst hX dX6_continuation_1 ?_
  refine z_putI hX dX6_continuation_2 fl_66 pu_X6_0 0 rfl rfl ?_
  have hf : zfr [30] h0 (hs h0 30 0 0) := zfr_hs hf (by decide)
  refine z_aload_n hX dX6_continuation_5 0 rfl ?_
  refine z_iload_n hX dX6_continuation_6 1 rfl ?_
  obtain ⟨r2, hc2, hr⟩ := z_bind hr
  refine z_callV_i (As := [.int (iI p1)]) (k1 := 0) (n1 := 0) (nA := 1) hX (mX6_isNode hc2) dX6_continuation_7 gX6_continuation_X6_isNode rfl ⟨rfl, by decide, by decide, by decide +kernel⟩ ⟨by decide, by decide⟩ ⟨by decide, by decide⟩ 0 rfl rfl rfl rfl (Nat.le_of_ble_eq_true rfl) (by decide +kernel) rfl rfl (fun hg2 => ?_)
  refine z_if_eq (tgt := 38) hX dX6_continuation_10 (by decide) rfl hr (fun hr => ?_) (fun hr => ?_)
  · refine z_lv [0] rfl ?_
    exact B38 (hs h0 30 0 0) hf hr
  · refine z_iload_n hX dX6_continuation_13 2 rfl ?_
    refine z_iconst hX dX6_continuation_14 ?_
    refine z_aload_n hX dX6_continuation_15 0 rfl ?_
    refine z_iload_n hX dX6_continuation_16 1 rfl ?_
    refine z_iconst hX dX6_continuation_17 ?_
    obtain ⟨r3, hc3, hr⟩ := z_bind hr
    refine z_callV_i (As := [.int (iI p1), .int (iI 4)]) (k1 := 0) (n1 := 0) (nA := 2) hX (mX6_get hc3) dX6_continuation_18 gX6_continuation_X6_get rfl ⟨rfl, by decide, by decide, by decide +kernel⟩ ⟨by decide, by decide⟩ ⟨by decide, by decide⟩ 0 rfl rfl rfl rfl (Nat.le_of_ble_eq_true rfl) (by decide +kernel) rfl rfl (fun hg3 => ?_)
    refine z_iconst hX dX6_continuation_21 ?_
    refine z_isub hX dX6_continuation_22 ?_
    obtain ⟨r4, hc4, hr⟩ := z_bind hr
    refine z_callS_i (As := [.int (iI p2), .int (iI 0), .int (iI (r3 - 1))]) (k1 := 0) (n1 := 0) (nA := 3) hX (mX6_isIn hc4) dX6_continuation_23 gX6_continuation_X6_isIn rfl ⟨by decide, by decide, by decide +kernel⟩ ⟨by decide, by decide⟩ ⟨by decide, by decide⟩ rfl rfl (Nat.le_of_ble_eq_true rfl) (by decide +kernel) rfl rfl (fun hg4 => ?_)
    refine z_if_eq (tgt := 38) hX dX6_continuation_26 (by decide) rfl hr (fun hr => ?_) (fun hr => ?_)
    · refine z_lv [0] rfl ?_
      exact B38 (hs h0 30 0 0) hf hr
    · refine z_aload_n hX dX6_continuation_29 0 rfl ?_
      refine z_iload_n hX dX6_continuation_30 1 rfl ?_
      refine z_iload_n hX dX6_continuation_31 2 rfl ?_
      obtain ⟨r5, hc5, hr⟩ := z_bind hr
      refine z_callV_i (As := [.int (iI p1), .int (iI p2)]) (k1 := 0) (n1 := 0) (nA := 2) hX (mX6_continuation0 hc5) dX6_continuation_32 gX6_continuation_X6_continuation0 rfl ⟨rfl, by decide, by decide, by decide +kernel⟩ ⟨by decide, by decide⟩ ⟨by decide, by decide⟩ 0 rfl rfl rfl rfl (Nat.le_of_ble_eq_true rfl) (by decide +kernel) rfl rfl (fun hg5 => ?_)
      refine z_goto (tgt := 43) hX dX6_continuation_35 (by decide) ?_
      obtain rfl := Option.some.inj hr
      exact hQ _ _ dX6_continuation_43 hf

def fX6_goTo (p1 : Int) (h : HS) : Option (Int × HS) := (fX6_isNode p1 (hs h 30 0 0)).bind fun r1 => if wr r1 = 0 then (fX6_fail 1 (hs h 30 0 0)).bind fun r4 => some (r4.1, r4.2) else (fX6_set p1 (hs (hs h 30 0 0) 30 9 p1)).bind fun r2 => (fX6_turn r2).bind fun r3 => some (r3, r2)
set_option maxRecDepth 100000 in
set_option maxHeartbeats 4000000 in
theorem mX6_goTo {G : ZG} {l0 : Launch} {ad : Nat → Nat} {h0 : HS} {p1 : Int} {o : Int × HS} (hr : fX6_goTo p1 h0 = some o) : ZMi G l0 yX6_goTo wsX6_goTo ({ frames := 2, cells := 0, slots := 0, locals := 63 }) [.ref (ad 30), .int (iI p1)] sh_8 ad h0 [30, 35, 40] o.1 o.2 := by
  refine ZMi.of (cc := cX6_goTo) (maxL := 2) (ret := (some .int)) (own := RX6) (lv0 := [(0, .ref (ad 30)), (1, .int (iI p1))]) (by decide) rfl rfl rfl (Nat.le_of_ble_eq_true rfl) rfl ?_
  intro X hX hQ
  have hf : zfr [30, 35, 40] h0 h0 := zfr_rf
  have fl_66 : zFld wsX6_goTo RX6 66 6 RX6 TX6 26 0 := ⟨by decide +kernel, by decide +kernel, by decide, rfl⟩
  have fl_95 : zFld wsX6_goTo RX6 95 6 RX6 TX6 26 9 := ⟨by decide +kernel, by decide +kernel, by decide, rfl⟩
  have pu_X6_0 : zPut TX6 26 0 tyX6 .int := ⟨tyX6_ok, nmX6, rfl, by decide +kernel⟩
  have pu_X6_9 : zPut TX6 26 9 tyX6 .int := ⟨tyX6_ok, nmX6, rfl, by decide +kernel⟩
  unfold fX6_goTo at hr
  refine z_aload_n hX dX6_goTo_0 0 rfl ?_
  refine z_iconst hX dX6_goTo_1 ?_
  refine z_putI hX dX6_goTo_2 fl_66 pu_X6_0 0 rfl rfl ?_
  have hf : zfr [30, 35, 40] h0 (hs h0 30 0 0) := zfr_hs hf (by decide)
  refine z_aload_n hX dX6_goTo_5 0 rfl ?_
  refine z_iload_n hX dX6_goTo_6 1 rfl ?_
  obtain ⟨r1, hc1, hr⟩ := z_bind hr
  refine z_callV_i (As := [.int (iI p1)]) (k1 := 0) (n1 := 0) (nA := 1) hX (mX6_isNode hc1) dX6_goTo_7 gX6_goTo_X6_isNode rfl ⟨rfl, by decide, by decide, by decide +kernel⟩ ⟨by decide, by decide⟩ ⟨by decide, by decide⟩ 0 rfl rfl rfl rfl (Nat.le_of_ble_eq_true rfl) (by decide +kernel) rfl rfl (fun hg1 => ?_)
  refine z_if_ne (tgt := 19) hX dX6_goTo_10 (by decide) rfl hr (fun hr => ?_) (fun hr => ?_)
  · refine z_aload_n hX dX6_goTo_19 0 rfl ?_
    refine z_iload_n hX dX6_goTo_20 1 rfl ?_
    refine z_putI hX dX6_goTo_21 fl_95 pu_X6_9 0 rfl rfl ?_
    have hf : zfr [30, 35, 40] h0 (hs (hs h0 30 0 0) 30 9 p1) := zfr_hs hf (by decide)
    refine z_aload_n hX dX6_goTo_24 0 rfl ?_
    refine z_iload_n hX dX6_goTo_25 1 rfl ?_
    obtain ⟨r2, hc2, hr⟩ := z_bind hr
    refine z_callV_v (As := [.int (iI p1)]) (k1 := 0) (n1 := 0) (nA := 1) hX (mX6_set hc2) dX6_goTo_26 gX6_goTo_X6_set rfl ⟨rfl, by decide, by decide, by decide +kernel⟩ ⟨by decide, by decide⟩ ⟨by decide, by decide⟩ 0 rfl rfl rfl rfl (Nat.le_of_ble_eq_true rfl) (by decide +kernel) rfl rfl (fun hg2 => ?_)
    have hf : zfr [30, 35, 40] h0 r2 := zfr_tr hf (by decide) hg2
    refine z_aload_n hX dX6_goTo_29 0 rfl ?_
    obtain ⟨r3, hc3, hr⟩ := z_bind hr
    refine z_callV_i (As := []) (k1 := 0) (n1 := 0) (nA := 0) hX (mX6_turn hc3) dX6_goTo_30 gX6_goTo_X6_turn rfl ⟨rfl, by decide, by decide, by decide +kernel⟩ ⟨by decide, by decide⟩ ⟨by decide, by decide⟩ 0 rfl rfl rfl rfl (Nat.le_of_ble_eq_true rfl) (by decide +kernel) rfl rfl (fun hg3 => ?_)
    obtain rfl := Option.some.inj hr
    exact hQ _ _ dX6_goTo_33 hf
  · refine z_aload_n hX dX6_goTo_13 0 rfl ?_
    refine z_iconst hX dX6_goTo_14 ?_
    obtain ⟨r4, hc4, hr⟩ := z_bind hr
    refine z_callV_i (As := [.int (iI 1)]) (k1 := 0) (n1 := 0) (nA := 1) hX (mX6_fail hc4) dX6_goTo_15 gX6_goTo_X6_fail rfl ⟨rfl, by decide, by decide, by decide +kernel⟩ ⟨by decide, by decide⟩ ⟨by decide, by decide⟩ 0 rfl rfl rfl rfl (Nat.le_of_ble_eq_true rfl) (by decide +kernel) rfl rfl (fun hg4 => ?_)
    have hf : zfr [30, 35, 40] h0 r4.2 := zfr_tr hf (by decide) hg4
    obtain rfl := Option.some.inj hr
    exact hQ _ _ dX6_goTo_18 hf

def fX6_promote_L38 : Nat → Int → Int → Int → HS → Option (Int × HS)
  | 0, _, _, _, _ => none
  | nf + 1, x1, x2, x3, h => if (0 : Int) ≤ (x2 + x3) ∧ (x2 + x3) < 40000 then if wr (h 38 (x2 + x3)) = wr x1 then if (0 : Int) ≤ x2 ∧ (0 : Int) ≤ (x2 + 1) ∧ (0 : Int) ≤ x3 ∧ (x2 : Int) + x3 ≤ 40000 ∧ ((x2 + 1) : Int) + x3 ≤ 40000 then if (0 : Int) ≤ x2 ∧ x2 < 40000 then some (x3, (hs (hcp h 38 x2 38 (x2 + 1) x3) 38 x2 x1)) else none else none else fX6_promote_L38 nf x1 x2 (x3 + 1) h else none
def fX6_promote (p1 : Int) (h : HS) : Option (Int × HS) := (fX6_isIn p1 1 ((((hs h 30 0 0)) 30 8) - 1) (hs h 30 0 0)).bind fun r1 => if wr r1 = 0 then (fX6_fail 1 (hs h 30 0 0)).bind fun r3 => some (r3.1, r3.2) else (fX6_get p1 0 (hs h 30 0 0)).bind fun r2 => fX6_promote_L38 zF p1 (200 * r2) 0 (hs h 30 0 0)
set_option maxRecDepth 100000 in
set_option maxHeartbeats 4000000 in
theorem mX6_promote {G : ZG} {l0 : Launch} {ad : Nat → Nat} {h0 : HS} {p1 : Int} {o : Int × HS} (hr : fX6_promote p1 h0 = some o) : ZMi G l0 yX6_promote wsX6_promote ({ frames := 1, cells := 0, slots := 0, locals := 40 }) [.ref (ad 30), .int (iI p1)] sh_8 ad h0 [30, 38] o.1 o.2 := by
  refine ZMi.of (cc := cX6_promote) (maxL := 4) (ret := (some .int)) (own := RX6) (lv0 := [(0, .ref (ad 30)), (1, .int (iI p1))]) (by decide) rfl rfl rfl (Nat.le_of_ble_eq_true rfl) rfl ?_
  intro X hX hQ
  have hf : zfr [30, 38] h0 h0 := zfr_rf
  have fl_28 : zFld wsX6_promote RX6 28 6 RX6 TX6 26 8 := ⟨by decide +kernel, by decide +kernel, by decide, rfl⟩
  have fl_36 : zFld wsX6_promote RX6 36 6 RX6 TX6 26 11 := ⟨by decide +kernel, by decide +kernel, by decide, rfl⟩
  have fl_66 : zFld wsX6_promote RX6 66 6 RX6 TX6 26 0 := ⟨by decide +kernel, by decide +kernel, by decide, rfl⟩
  have pu_X6_0 : zPut TX6 26 0 tyX6 .int := ⟨tyX6_ok, nmX6, rfl, by decide +kernel⟩
  have B38 : ∀ (nf : Nat) (x1 : Int) (x2 : Int) (x3 : Int) (h : HS), zfr [30, 38] h0 h → fX6_promote_L38 nf x1 x2 x3 h = some o → ZW G X sh_8 ad h 0 0 [(0, .ref (ad 30)), (1, .int (iI x1)), (2, .int (iI x2)), (3, .int (iI x3))] 38 [] := by
    intro nf
    induction nf with
    | zero => intro x1 x2 x3 h hf hr; exact z_none hr
    | succ n38 ih38 =>
      intro x1 x2 x3 h hf hr
      unfold fX6_promote_L38 at hr
      refine z_aload_n hX dX6_promote_38 0 rfl ?_
      refine z_getR (j := 38) hX dX6_promote_39 fl_36 0 rfl rfl ?_
      refine z_iload_n hX dX6_promote_42 2 rfl ?_
      refine z_iload_n hX dX6_promote_43 3 rfl ?_
      refine z_iadd hX dX6_promote_44 ?_
      refine z_iaload (b := 40000) hX dX6_promote_45 8 rfl (by decide) rfl hr (fun hr => ?_)
      refine z_iload_n hX dX6_promote_46 1 rfl ?_
      refine z_icmp_eq (tgt := 56) hX dX6_promote_47 (by decide) rfl rfl hr (fun hr => ?_) (fun hr => ?_)
      · refine z_aload_n hX dX6_promote_56 0 rfl ?_
        refine z_getR (j := 38) hX dX6_promote_57 fl_36 0 rfl rfl ?_
        refine z_iload_n hX dX6_promote_60 2 rfl ?_
        refine z_aload_n hX dX6_promote_61 0 rfl ?_
        refine z_getR (j := 38) hX dX6_promote_62 fl_36 0 rfl rfl ?_
        refine z_iload_n hX dX6_promote_65 2 rfl ?_
        refine z_iconst hX dX6_promote_66 ?_
        refine z_iadd hX dX6_promote_67 ?_
        refine z_iload_n hX dX6_promote_68 3 rfl ?_
        refine z_copyi (b0 := 40000) (b1 := 40000) hX dX6_promote_69 8 8 rfl rfl (by decide) (by decide) rfl rfl (by decide +kernel) (by decide +kernel) (by decide +kernel) (by decide +kernel) (by decide) (by decide +kernel) hr (fun hr => ?_)
        have hf : zfr [30, 38] h0 (hcp h 38 x2 38 (x2 + 1) x3) := zfr_hcp hf (by decide)
        refine z_aload_n hX dX6_promote_72 0 rfl ?_
        refine z_getR (j := 38) hX dX6_promote_73 fl_36 0 rfl rfl ?_
        refine z_iload_n hX dX6_promote_76 2 rfl ?_
        refine z_iload_n hX dX6_promote_77 1 rfl ?_
        refine z_iastore (b := 40000) hX dX6_promote_78 8 rfl (by decide) rfl hr (fun hr => ?_)
        have hf : zfr [30, 38] h0 (hs (hcp h 38 x2 38 (x2 + 1) x3) 38 x2 x1) := zfr_hs hf (by decide)
        refine z_iload_n hX dX6_promote_79 3 rfl ?_
        obtain rfl := Option.some.inj hr
        exact hQ _ _ dX6_promote_80 hf
      · refine z_iinc (lv1 := [(3, .int (iI (x3 + 1))), (0, .ref (ad 30)), (1, .int (iI x1)), (2, .int (iI x2))]) hX dX6_promote_50 3 rfl (by decide) rfl ?_
        refine z_goto (tgt := 38) hX dX6_promote_53 (by decide) ?_
        refine z_lv [1, 2, 3, 0] rfl ?_
        exact ih38 x1 x2 (x3 + 1) h hf hr
  unfold fX6_promote at hr
  refine z_aload_n hX dX6_promote_0 0 rfl ?_
  refine z_iconst hX dX6_promote_1 ?_
  refine z_putI hX dX6_promote_2 fl_66 pu_X6_0 0 rfl rfl ?_
  have hf : zfr [30, 38] h0 (hs h0 30 0 0) := zfr_hs hf (by decide)
  refine z_iload_n hX dX6_promote_5 1 rfl ?_
  refine z_iconst hX dX6_promote_6 ?_
  refine z_aload_n hX dX6_promote_7 0 rfl ?_
  refine z_getI hX dX6_promote_8 fl_28 0 rfl rfl ?_
  refine z_iconst hX dX6_promote_11 ?_
  refine z_isub hX dX6_promote_12 ?_
  obtain ⟨r1, hc1, hr⟩ := z_bind hr
  refine z_callS_i (As := [.int (iI p1), .int (iI 1), .int (iI ((((hs h0 30 0 0)) 30 8) - 1))]) (k1 := 0) (n1 := 0) (nA := 3) hX (mX6_isIn hc1) dX6_promote_13 gX6_promote_X6_isIn rfl ⟨by decide, by decide, by decide +kernel⟩ ⟨by decide, by decide⟩ ⟨by decide, by decide⟩ rfl rfl (Nat.le_of_ble_eq_true rfl) (by decide +kernel) rfl rfl (fun hg1 => ?_)
  refine z_if_ne (tgt := 25) hX dX6_promote_16 (by decide) rfl hr (fun hr => ?_) (fun hr => ?_)
  · refine z_sipush hX dX6_promote_25 (by decide +kernel) ?_
    refine z_aload_n hX dX6_promote_28 0 rfl ?_
    refine z_iload_n hX dX6_promote_29 1 rfl ?_
    refine z_iconst hX dX6_promote_30 ?_
    obtain ⟨r2, hc2, hr⟩ := z_bind hr
    refine z_callV_i (As := [.int (iI p1), .int (iI 0)]) (k1 := 0) (n1 := 0) (nA := 2) hX (mX6_get hc2) dX6_promote_31 gX6_promote_X6_get rfl ⟨rfl, by decide, by decide, by decide +kernel⟩ ⟨by decide, by decide⟩ ⟨by decide, by decide⟩ 0 rfl rfl rfl rfl (Nat.le_of_ble_eq_true rfl) (by decide +kernel) rfl rfl (fun hg2 => ?_)
    refine z_imul hX dX6_promote_34 ?_
    refine z_istore_n (lv1 := [(2, .int (iI (200 * r2))), (0, .ref (ad 30)), (1, .int (iI p1))]) hX dX6_promote_35 (by decide) rfl ?_
    refine z_iconst hX dX6_promote_36 ?_
    refine z_istore_n (lv1 := [(3, .int (iI 0)), (2, .int (iI (200 * r2))), (0, .ref (ad 30)), (1, .int (iI p1))]) hX dX6_promote_37 (by decide) rfl ?_
    refine z_lv [2, 3, 1, 0] rfl ?_
    exact B38 zF p1 (200 * r2) 0 (hs h0 30 0 0) hf hr
  · refine z_aload_n hX dX6_promote_19 0 rfl ?_
    refine z_iconst hX dX6_promote_20 ?_
    obtain ⟨r3, hc3, hr⟩ := z_bind hr
    refine z_callV_i (As := [.int (iI 1)]) (k1 := 0) (n1 := 0) (nA := 1) hX (mX6_fail hc3) dX6_promote_21 gX6_promote_X6_fail rfl ⟨rfl, by decide, by decide, by decide +kernel⟩ ⟨by decide, by decide⟩ ⟨by decide, by decide⟩ 0 rfl rfl rfl rfl (Nat.le_of_ble_eq_true rfl) (by decide +kernel) rfl rfl (fun hg3 => ?_)
    have hf : zfr [30, 38] h0 r3.2 := zfr_tr hf (by decide) hg3
    obtain rfl := Option.some.inj hr
    exact hQ _ _ dX6_promote_24 hf

def fX6_blank (h : HS) : Option (HS) := if wr (h 30 23) ≤ 0 then some h else if (0 : Int) ≤ ((h 30 23) - 1) ∧ ((h 30 23) - 1) < 2000 then if wr (h 41 ((h 30 23) - 1)) = (40 : Int) then some h else (fX6_put_ 32 h).bind fun r1 => some r1 else none
set_option maxRecDepth 100000 in
set_option maxHeartbeats 4000000 in
theorem mX6_blank {G : ZG} {l0 : Launch} {ad : Nat → Nat} {h0 : HS} {o : HS} (hr : fX6_blank h0 = some o) : ZMv G l0 yX6_blank wsX6_blank ({ frames := 1, cells := 0, slots := 0, locals := 21 }) [.ref (ad 30)] sh_8 ad h0 [30, 41] o := by
  refine ZMv.of (cc := cX6_blank) (maxL := 1) (ret := none) (own := RX6) (lv0 := [(0, .ref (ad 30))]) (by decide) rfl rfl rfl (Nat.le_of_ble_eq_true rfl) rfl ?_
  intro X hX hQ
  have hf : zfr [30, 41] h0 h0 := zfr_rf
  have fl_206 : zFld wsX6_blank RX6 206 6 RX6 TX6 26 23 := ⟨by decide +kernel, by decide +kernel, by decide, rfl⟩
  have fl_54 : zFld wsX6_blank RX6 54 6 RX6 TX6 26 22 := ⟨by decide +kernel, by decide +kernel, by decide, rfl⟩
  unfold fX6_blank at hr
  refine z_aload_n hX dX6_blank_0 0 rfl ?_
  refine z_getI hX dX6_blank_1 fl_206 0 rfl rfl ?_
  refine z_if_le (tgt := 29) hX dX6_blank_4 (by decide) rfl hr (fun hr => ?_) (fun hr => ?_)
  · obtain rfl := Option.some.inj hr
    exact hQ _ _ dX6_blank_29 hf
  · refine z_aload_n hX dX6_blank_7 0 rfl ?_
    refine z_getR (j := 41) hX dX6_blank_8 fl_54 0 rfl rfl ?_
    refine z_aload_n hX dX6_blank_11 0 rfl ?_
    refine z_getI hX dX6_blank_12 fl_206 0 rfl rfl ?_
    refine z_iconst hX dX6_blank_15 ?_
    refine z_isub hX dX6_blank_16 ?_
    refine z_iaload (b := 2000) hX dX6_blank_17 11 rfl (by decide) rfl hr (fun hr => ?_)
    refine z_bipush hX dX6_blank_18 (by decide +kernel) ?_
    refine z_icmp_eq (tgt := 29) hX dX6_blank_20 (by decide) rfl (wr_of (by decide) (by decide)) hr (fun hr => ?_) (fun hr => ?_)
    · obtain rfl := Option.some.inj hr
      exact hQ _ _ dX6_blank_29 hf
    · refine z_aload_n hX dX6_blank_23 0 rfl ?_
      refine z_bipush hX dX6_blank_24 (by decide +kernel) ?_
      obtain ⟨r1, hc1, hr⟩ := z_bind hr
      refine z_callV_v (As := [.int (iI 32)]) (k1 := 0) (n1 := 0) (nA := 1) hX (mX6_put_ hc1) dX6_blank_26 gX6_blank_X6_put_ rfl ⟨rfl, by decide, by decide, by decide +kernel⟩ ⟨by decide, by decide⟩ ⟨by decide, by decide⟩ 0 rfl rfl rfl rfl (Nat.le_of_ble_eq_true rfl) (by decide +kernel) rfl rfl (fun hg1 => ?_)
      have hf : zfr [30, 41] h0 r1 := zfr_tr hf (by decide) hg1
      obtain rfl := Option.some.inj hr
      exact hQ _ _ dX6_blank_29 hf

def fX6_putNode (p1 : Int) (h : HS) : Option (HS) := (fX6_get p1 0 h).bind fun r1 => (fX6_set r1 h).bind fun r2 => (fX6_blank r2).bind fun r3 => (fX6_get p1 1 r3).bind fun r4 => (fX6_get p1 2 r3).bind fun r5 => (fX6_putMove r4 r5 r3).bind fun r6 => some r6
set_option maxRecDepth 100000 in
set_option maxHeartbeats 4000000 in
theorem mX6_putNode {G : ZG} {l0 : Launch} {ad : Nat → Nat} {h0 : HS} {p1 : Int} {o : HS} (hr : fX6_putNode p1 h0 = some o) : ZMv G l0 yX6_putNode wsX6_putNode ({ frames := 8, cells := 0, slots := 0, locals := 200 }) [.ref (ad 30), .int (iI p1)] sh_8 ad h0 [30, 35, 36, 40, 41] o := by
  refine ZMv.of (cc := cX6_putNode) (maxL := 2) (ret := none) (own := RX6) (lv0 := [(0, .ref (ad 30)), (1, .int (iI p1))]) (by decide) rfl rfl rfl (Nat.le_of_ble_eq_true rfl) rfl ?_
  intro X hX hQ
  have hf : zfr [30, 35, 36, 40, 41] h0 h0 := zfr_rf
  unfold fX6_putNode at hr
  refine z_aload_n hX dX6_putNode_0 0 rfl ?_
  refine z_aload_n hX dX6_putNode_1 0 rfl ?_
  refine z_iload_n hX dX6_putNode_2 1 rfl ?_
  refine z_iconst hX dX6_putNode_3 ?_
  obtain ⟨r1, hc1, hr⟩ := z_bind hr
  refine z_callV_i (As := [.int (iI p1), .int (iI 0)]) (k1 := 0) (n1 := 0) (nA := 2) hX (mX6_get hc1) dX6_putNode_4 gX6_putNode_X6_get rfl ⟨rfl, by decide, by decide, by decide +kernel⟩ ⟨by decide, by decide⟩ ⟨by decide, by decide⟩ 0 rfl rfl rfl rfl (Nat.le_of_ble_eq_true rfl) (by decide +kernel) rfl rfl (fun hg1 => ?_)
  obtain ⟨r2, hc2, hr⟩ := z_bind hr
  refine z_callV_v (As := [.int (iI r1)]) (k1 := 0) (n1 := 0) (nA := 1) hX (mX6_set hc2) dX6_putNode_7 gX6_putNode_X6_set rfl ⟨rfl, by decide, by decide, by decide +kernel⟩ ⟨by decide, by decide⟩ ⟨by decide, by decide⟩ 0 rfl rfl rfl rfl (Nat.le_of_ble_eq_true rfl) (by decide +kernel) rfl rfl (fun hg2 => ?_)
  have hf : zfr [30, 35, 36, 40, 41] h0 r2 := zfr_tr hf (by decide) hg2
  refine z_aload_n hX dX6_putNode_10 0 rfl ?_
  obtain ⟨r3, hc3, hr⟩ := z_bind hr
  refine z_callV_v (As := []) (k1 := 0) (n1 := 0) (nA := 0) hX (mX6_blank hc3) dX6_putNode_11 gX6_putNode_X6_blank rfl ⟨rfl, by decide, by decide, by decide +kernel⟩ ⟨by decide, by decide⟩ ⟨by decide, by decide⟩ 0 rfl rfl rfl rfl (Nat.le_of_ble_eq_true rfl) (by decide +kernel) rfl rfl (fun hg3 => ?_)
  have hf : zfr [30, 35, 36, 40, 41] h0 r3 := zfr_tr hf (by decide) hg3
  refine z_aload_n hX dX6_putNode_14 0 rfl ?_
  refine z_aload_n hX dX6_putNode_15 0 rfl ?_
  refine z_iload_n hX dX6_putNode_16 1 rfl ?_
  refine z_iconst hX dX6_putNode_17 ?_
  obtain ⟨r4, hc4, hr⟩ := z_bind hr
  refine z_callV_i (As := [.int (iI p1), .int (iI 1)]) (k1 := 0) (n1 := 0) (nA := 2) hX (mX6_get hc4) dX6_putNode_18 gX6_putNode_X6_get rfl ⟨rfl, by decide, by decide, by decide +kernel⟩ ⟨by decide, by decide⟩ ⟨by decide, by decide⟩ 0 rfl rfl rfl rfl (Nat.le_of_ble_eq_true rfl) (by decide +kernel) rfl rfl (fun hg4 => ?_)
  refine z_aload_n hX dX6_putNode_21 0 rfl ?_
  refine z_iload_n hX dX6_putNode_22 1 rfl ?_
  refine z_iconst hX dX6_putNode_23 ?_
  obtain ⟨r5, hc5, hr⟩ := z_bind hr
  refine z_callV_i (As := [.int (iI p1), .int (iI 2)]) (k1 := 0) (n1 := 0) (nA := 2) hX (mX6_get hc5) dX6_putNode_24 gX6_putNode_X6_get rfl ⟨rfl, by decide, by decide, by decide +kernel⟩ ⟨by decide, by decide⟩ ⟨by decide, by decide⟩ 0 rfl rfl rfl rfl (Nat.le_of_ble_eq_true rfl) (by decide +kernel) rfl rfl (fun hg5 => ?_)
  obtain ⟨r6, hc6, hr⟩ := z_bind hr
  refine z_callV_v (As := [.int (iI r4), .int (iI r5)]) (k1 := 0) (n1 := 0) (nA := 2) hX (mX6_putMove hc6) dX6_putNode_27 gX6_putNode_X6_putMove rfl ⟨rfl, by decide, by decide, by decide +kernel⟩ ⟨by decide, by decide⟩ ⟨by decide, by decide⟩ 0 rfl rfl rfl rfl (Nat.le_of_ble_eq_true rfl) (by decide +kernel) rfl rfl (fun hg6 => ?_)
  have hf : zfr [30, 35, 36, 40, 41] h0 r6 := zfr_tr hf (by decide) hg6
  obtain rfl := Option.some.inj hr
  exact hQ _ _ dX6_putNode_30 hf

