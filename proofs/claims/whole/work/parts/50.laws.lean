theorem wr_0 : wr 0 = 0 := rfl
theorem wr_m1 : wr (-1) = -1 := rfl
set_option maxRecDepth 100000 in
set_option maxHeartbeats 4000000 in
theorem wL_c20 {G : ZG} {l0 : Launch} {X : ZX} {ad : Nat → Nat} {h o : HS} {k n b L : Nat} {xs : Nat → Int32} {i : Int} {d0 : Drawn} (hst : l0.stackTraces = false) (hX : ZC G l0 cL_law wsL_law RL 9 room_1 X) (hd0 : zdrOk d0 X) (hc : zSc b L xs X) (hL : L ≤ 2560) (hi : 0 ≤ i ∧ i + 4 < (L : Int)) (hk : k + 200 ≤ 601024 ∧ n + 1001 ≤ 7293034) (hr : fL_c20 h = some o) (kk : ∀ (d1 : Drawn) (ad1 : Nat → Nat) (k1 n1 : Nat), zdrOk d1 X → k1 ≤ k + 200 → n1 ≤ n + 1001 → ZW G (zdr d1 X) shL ad1 o k1 n1 [(4, .int (iI i)), (3, .ref (ad1 50)), (2, .ref (ad1 30)), (1, .ref (ad1 0)), (0, .ref b)] 1287 []) : ZW G (zdr d0 X) shL ad h k n [(4, .int (iI i)), (3, .ref (ad 50)), (2, .ref (ad 30)), (1, .ref (ad 0)), (0, .ref b)] 1232 [] := by
  unfold fL_c20 at hr
  obtain ⟨r1, hc1, hr⟩ := z_bind hr
  obtain ⟨r2, hc2, hr⟩ := z_bind hr
  have hXd : ∀ d : Drawn, ZC G l0 cL_law wsL_law RL 9 room_1 (zdr d X) := fun d => hX.drawn
  by_cases he : r1.1 = r2.1.1 ∧ wr r1.2.1 = wr r2.1.2.1 ∧ wr r1.2.2 = wr r2.1.2.2
  · have hr := z_ifp hr he
    obtain rfl := Option.some.inj hr
    refine z_aload_n (hXd _) dL_law_1232 3 rfl ?_
    refine z_callV_d (As := []) (nA := 0) (st := []) hX hd0 (mX5_branching hc1) dL_law_1233 gL_law_X5_branching rfl ⟨rfl, by decide, by decide, by decide +kernel⟩ ⟨by decide, by decide⟩ ⟨by show k + 0 ≤ 601024; omega, by show n + 0 ≤ 7293034; omega⟩ 14 rfl rfl rfl rfl (Nat.le_of_ble_eq_true rfl) (by decide +kernel) rfl rfl (fun v1 d1 hz1 hd1 hf1 => ?_)
    refine z_dstore (hXd _) dL_law_1236 (by decide) rfl ?_
    refine z_aload_n (hXd _) dL_law_1238 3 rfl ?_
    refine z_callV_d (As := []) (nA := 0) (st := []) hX hd1 (mX6_branching hc2) dL_law_1239 gL_law_X6_branching rfl ⟨rfl, by decide, by decide, by decide +kernel⟩ ⟨by decide, by decide⟩ ⟨by show k + 0 + 0 ≤ 601024; omega, by show n + 0 + 0 ≤ 7293034; omega⟩ 0 rfl rfl rfl rfl (Nat.le_of_ble_eq_true rfl) (by decide +kernel) rfl rfl (fun v2 d2 hz2 hd2 hf2 => ?_)
    refine z_dstore (hXd _) dL_law_1242 (by decide) rfl ?_
    refine z_dload (hXd _) dL_law_1244 1 rfl ?_
    refine z_dload (hXd _) dL_law_1246 0 rfl ?_
    refine z_dcmp (hXd _) dL_law_1248 ?_
    have fin : ZW G (zdr d2 X) shL ad r2.2 (k + 0 + 0) (n + 0 + 0) [(7, .double v2), (5, .double v1), (4, .int (iI i)), (3, .ref (ad 50)), (2, .ref (ad 30)), (1, .ref (ad 0)), (0, .ref b)] 1270 [] := by
      refine z_goto (tgt := 1287) (hXd _) dL_law_1270 (by decide) ?_
      refine z_lv [2, 3, 4, 5, 6] rfl ?_
      exact kk d2 ad _ _ hd2 (by omega) (by omega)
    rcases zdv_alike hz1 hz2 he with e | ⟨e, e1, e2⟩
    · rw [e]
      exact z_if_eq (x := 0) (B1 := some ()) (B2 := none) (o := ()) (tgt := 1270) (hXd _) dL_law_1249 (by decide) wr_0 (if_pos rfl) (fun _ => fin) (fun hr => z_none hr)
    · rw [e]
      refine z_if_eq (x := -1) (B1 := none) (B2 := some ()) (o := ()) (tgt := 1270) (hXd _) dL_law_1249 (by decide) wr_m1 (if_neg (by decide)) (fun hr => z_none hr) (fun _ => ?_)
      refine z_dload (hXd _) dL_law_1252 1 rfl ?_
      refine z_dload (hXd _) dL_law_1254 1 rfl ?_
      refine z_dcmp (hXd _) dL_law_1256 ?_
      rw [e1]
      refine z_if_eq (x := -1) (B1 := none) (B2 := some ()) (o := ()) (tgt := 1268) (hXd _) dL_law_1257 (by decide) wr_m1 (if_neg (by decide)) (fun hr => z_none hr) (fun _ => ?_)
      refine z_dload (hXd _) dL_law_1260 0 rfl ?_
      refine z_dload (hXd _) dL_law_1262 0 rfl ?_
      refine z_dcmp (hXd _) dL_law_1264 ?_
      rw [e2]
      exact z_if_ne (x := -1) (B1 := some ()) (B2 := none) (o := ()) (tgt := 1270) (hXd _) dL_law_1265 (by decide) wr_m1 (if_neg (by decide)) (fun _ => fin) (fun hr => z_none hr)
  · exact z_none (z_ifn hr he)
def fL_step (xs : Nat → Int32) (i : Int) (h : HS) : Option HS := if wr (zand (zxs xs i) 31) = (0 : Int) then fL_c0 (zxs xs (i + 1)) h else if wr (zand (zxs xs i) 31) = (1 : Int) then fL_c1 (zxs xs (i + 1)) (zxs xs (i + 2)) (zxs xs (i + 3)) (zxs xs (i + 4)) h else if wr (zand (zxs xs i) 31) = (2 : Int) then fL_c2 (zxs xs (i + 1)) (zxs xs (i + 2)) (zxs xs (i + 3)) h else if wr (zand (zxs xs i) 31) = (3 : Int) then fL_c3 (zxs xs (i + 1)) h else if wr (zand (zxs xs i) 31) = (4 : Int) then fL_c4 (zxs xs (i + 1)) h else if wr (zand (zxs xs i) 31) = (5 : Int) then fL_c5 (zxs xs (i + 1)) (zxs xs (i + 2)) h else if wr (zand (zxs xs i) 31) = (6 : Int) then fL_c6 (zxs xs (i + 1)) (zxs xs (i + 2)) h else if wr (zand (zxs xs i) 31) = (7 : Int) then fL_c7 (zxs xs (i + 1)) (zxs xs (i + 2)) (zxs xs (i + 3)) (zxs xs (i + 4)) h else if wr (zand (zxs xs i) 31) = (8 : Int) then fL_c8 h else if wr (zand (zxs xs i) 31) = (9 : Int) then fL_c9 h else if wr (zand (zxs xs i) 31) = (10 : Int) then fL_c10 (zxs xs (i + 1)) h else if wr (zand (zxs xs i) 31) = (11 : Int) then fL_c11 (zxs xs (i + 1)) (zxs xs (i + 2)) h else if wr (zand (zxs xs i) 31) = (12 : Int) then fL_c12 (zxs xs (i + 1)) h else if wr (zand (zxs xs i) 31) = (13 : Int) then fL_c13 (zxs xs (i + 1)) (zxs xs (i + 2)) h else if wr (zand (zxs xs i) 31) = (14 : Int) then fL_c14 (zxs xs (i + 1)) (zxs xs (i + 2)) h else if wr (zand (zxs xs i) 31) = (15 : Int) then fL_c15 (zxs xs (i + 1)) h else if wr (zand (zxs xs i) 31) = (16 : Int) then fL_c16 (zxs xs (i + 1)) h else if wr (zand (zxs xs i) 31) = (17 : Int) then fL_c17 h else if wr (zand (zxs xs i) 31) = (18 : Int) then fL_c18 h else if wr (zand (zxs xs i) 31) = (19 : Int) then fL_c19 h else if wr (zand (zxs xs i) 31) = (20 : Int) then fL_c20 h else if wr (zand (zxs xs i) 31) = (21 : Int) then fL_c21 h else some h
set_option maxRecDepth 100000 in
set_option maxHeartbeats 4000000 in
theorem wL_step {G : ZG} {l0 : Launch} {X : ZX} {ad : Nat → Nat} {h o : HS} {k n b L : Nat} {xs : Nat → Int32} {i : Int} {d0 : Drawn} (hst : l0.stackTraces = false) (hX : ZC G l0 cL_law wsL_law RL 9 room_1 X) (hd0 : zdrOk d0 X) (hc : zSc b L xs X) (hL : L ≤ 2560) (hi : 0 ≤ i ∧ i + 4 < (L : Int)) (hk : k + 200 ≤ 601024 ∧ n + 1001 ≤ 7293034) (hr : fL_step xs i h = some o) (kk : ∀ (d1 : Drawn) (ad1 : Nat → Nat) (k1 n1 : Nat), zdrOk d1 X → k1 ≤ k + 200 → n1 ≤ n + 1001 → ZW G (zdr d1 X) shL ad1 o k1 n1 [(4, .int (iI i)), (3, .ref (ad1 50)), (2, .ref (ad1 30)), (1, .ref (ad1 0)), (0, .ref b)] 1287 []) : ZW G (zdr d0 X) shL ad h k n [(4, .int (iI i)), (3, .ref (ad 50)), (2, .ref (ad 30)), (1, .ref (ad 0)), (0, .ref b)] 32 [] := by
  have hX0 : ZC G l0 cL_law wsL_law RL 9 room_1 (zdr d0 X) := hX.drawn
  have hc0 : zSc b L xs (zdr d0 X) := hc.drawn
  unfold fL_step at hr
  refine z_aload_n hX0 dL_law_32 4 rfl ?_
  refine z_iload hX0 dL_law_33 0 rfl ?_
  refine z_sld hX0 hc0 dL_law_35 (by omega) hL ?_
  refine z_bipush hX0 dL_law_36 (by decide +kernel) ?_
  refine z_iand hX0 dL_law_38 ?_
  have kk2 : ∀ (ad1 : Nat → Nat) (k1 n1 : Nat), k1 ≤ k + 200 → n1 ≤ n + 1001 → ad1 0 = ad 0 → ad1 30 = ad 30 → ad1 50 = ad 50 → ZW G (zdr d0 X) shL ad1 o k1 n1 [(4, .int (iI i)), (3, .ref (ad1 50)), (2, .ref (ad1 30)), (1, .ref (ad1 0)), (0, .ref b)] 1287 [] := fun ad1 k1 n1 a1 a2 _ _ _ => kk d0 ad1 k1 n1 hd0 a1 a2
  by_cases e0 : wr (zand (zxs xs i) 31) = (0 : Int)
  · exact z_tableIn (v := 0) (off := 101) (tgt := 140) hX0 dL_law_39 e0 (by decide) (by decide) rfl (by decide) (wL_c0 hst hX0 hc0 hL hi hk (z_ifp hr e0) kk2)
  have hr := z_ifn hr e0
  by_cases e1 : wr (zand (zxs xs i) 31) = (1 : Int)
  · exact z_tableIn (v := 1) (off := 157) (tgt := 196) hX0 dL_law_39 e1 (by decide) (by decide) rfl (by decide) (wL_c1 hst hX0 hc0 hL hi hk (z_ifp hr e1) kk2)
  have hr := z_ifn hr e1
  by_cases e2 : wr (zand (zxs xs i) 31) = (2 : Int)
  · exact z_tableIn (v := 2) (off := 249) (tgt := 288) hX0 dL_law_39 e2 (by decide) (by decide) rfl (by decide) (wL_c2 hst hX0 hc0 hL hi hk (z_ifp hr e2) kk2)
  have hr := z_ifn hr e2
  by_cases e3 : wr (zand (zxs xs i) 31) = (3 : Int)
  · exact z_tableIn (v := 3) (off := 329) (tgt := 368) hX0 dL_law_39 e3 (by decide) (by decide) rfl (by decide) (wL_c3 hst hX0 hc0 hL hi hk (z_ifp hr e3) kk2)
  have hr := z_ifn hr e3
  by_cases e4 : wr (zand (zxs xs i) 31) = (4 : Int)
  · exact z_tableIn (v := 4) (off := 385) (tgt := 424) hX0 dL_law_39 e4 (by decide) (by decide) rfl (by decide) (wL_c4 hst hX0 hc0 hL hi hk (z_ifp hr e4) kk2)
  have hr := z_ifn hr e4
  by_cases e5 : wr (zand (zxs xs i) 31) = (5 : Int)
  · exact z_tableIn (v := 5) (off := 441) (tgt := 480) hX0 dL_law_39 e5 (by decide) (by decide) rfl (by decide) (wL_c5 hst hX0 hc0 hL hi hk (z_ifp hr e5) kk2)
  have hr := z_ifn hr e5
  by_cases e6 : wr (zand (zxs xs i) 31) = (6 : Int)
  · exact z_tableIn (v := 6) (off := 509) (tgt := 548) hX0 dL_law_39 e6 (by decide) (by decide) rfl (by decide) (wL_c6 hst hX0 hc0 hL hi hk (z_ifp hr e6) kk2)
  have hr := z_ifn hr e6
  by_cases e7 : wr (zand (zxs xs i) 31) = (7 : Int)
  · exact z_tableIn (v := 7) (off := 577) (tgt := 616) hX0 dL_law_39 e7 (by decide) (by decide) rfl (by decide) (wL_c7 hst hX0 hc0 hL hi hk (z_ifp hr e7) kk2)
  have hr := z_ifn hr e7
  by_cases e8 : wr (zand (zxs xs i) 31) = (8 : Int)
  · exact z_tableIn (v := 8) (off := 669) (tgt := 708) hX0 dL_law_39 e8 (by decide) (by decide) rfl (by decide) (wL_c8 hst hX0 hc0 hL hi hk (z_ifp hr e8) kk2)
  have hr := z_ifn hr e8
  by_cases e9 : wr (zand (zxs xs i) 31) = (9 : Int)
  · exact z_tableIn (v := 9) (off := 682) (tgt := 721) hX0 dL_law_39 e9 (by decide) (by decide) rfl (by decide) (wL_c9 hst hX0 hc0 hL hi hk (z_ifp hr e9) kk2)
  have hr := z_ifn hr e9
  by_cases e10 : wr (zand (zxs xs i) 31) = (10 : Int)
  · exact z_tableIn (v := 10) (off := 695) (tgt := 734) hX0 dL_law_39 e10 (by decide) (by decide) rfl (by decide) (wL_c10 hst hX0 hc0 hL hi hk (z_ifp hr e10) kk2)
  have hr := z_ifn hr e10
  by_cases e11 : wr (zand (zxs xs i) 31) = (11 : Int)
  · exact z_tableIn (v := 11) (off := 751) (tgt := 790) hX0 dL_law_39 e11 (by decide) (by decide) rfl (by decide) (wL_c11 hst hX0 hc0 hL hi hk (z_ifp hr e11) kk2)
  have hr := z_ifn hr e11
  by_cases e12 : wr (zand (zxs xs i) 31) = (12 : Int)
  · exact z_tableIn (v := 12) (off := 819) (tgt := 858) hX0 dL_law_39 e12 (by decide) (by decide) rfl (by decide) (wL_c12 hst hX0 hc0 hL hi hk (z_ifp hr e12) kk2)
  have hr := z_ifn hr e12
  by_cases e13 : wr (zand (zxs xs i) 31) = (13 : Int)
  · exact z_tableIn (v := 13) (off := 875) (tgt := 914) hX0 dL_law_39 e13 (by decide) (by decide) rfl (by decide) (wL_c13 hst hX0 hc0 hL hi hk (z_ifp hr e13) kk2)
  have hr := z_ifn hr e13
  by_cases e14 : wr (zand (zxs xs i) 31) = (14 : Int)
  · exact z_tableIn (v := 14) (off := 943) (tgt := 982) hX0 dL_law_39 e14 (by decide) (by decide) rfl (by decide) (wL_c14 hst hX0 hc0 hL hi hk (z_ifp hr e14) kk2)
  have hr := z_ifn hr e14
  by_cases e15 : wr (zand (zxs xs i) 31) = (15 : Int)
  · exact z_tableIn (v := 15) (off := 1011) (tgt := 1050) hX0 dL_law_39 e15 (by decide) (by decide) rfl (by decide) (wL_c15 hst hX0 hc0 hL hi hk (z_ifp hr e15) kk2)
  have hr := z_ifn hr e15
  by_cases e16 : wr (zand (zxs xs i) 31) = (16 : Int)
  · exact z_tableIn (v := 16) (off := 1067) (tgt := 1106) hX0 dL_law_39 e16 (by decide) (by decide) rfl (by decide) (wL_c16 hst hX0 hc0 hL hi hk (z_ifp hr e16) kk2)
  have hr := z_ifn hr e16
  by_cases e17 : wr (zand (zxs xs i) 31) = (17 : Int)
  · exact z_tableIn (v := 17) (off := 1123) (tgt := 1162) hX0 dL_law_39 e17 (by decide) (by decide) rfl (by decide) (wL_c17 hst hX0 hc0 hL hi hk (z_ifp hr e17) kk2)
  have hr := z_ifn hr e17
  by_cases e18 : wr (zand (zxs xs i) 31) = (18 : Int)
  · exact z_tableIn (v := 18) (off := 1167) (tgt := 1206) hX0 dL_law_39 e18 (by decide) (by decide) rfl (by decide) (wL_c18 hst hX0 hc0 hL hi hk (z_ifp hr e18) kk2)
  have hr := z_ifn hr e18
  by_cases e19 : wr (zand (zxs xs i) 31) = (19 : Int)
  · exact z_tableIn (v := 19) (off := 1180) (tgt := 1219) hX0 dL_law_39 e19 (by decide) (by decide) rfl (by decide) (wL_c19 hst hX0 hc0 hL hi hk (z_ifp hr e19) kk2)
  have hr := z_ifn hr e19
  by_cases e20 : wr (zand (zxs xs i) 31) = (20 : Int)
  · exact z_tableIn (v := 20) (off := 1193) (tgt := 1232) hX0 dL_law_39 e20 (by decide) (by decide) rfl (by decide) (wL_c20 hst hX hd0 hc hL hi hk (z_ifp hr e20) kk)
  have hr := z_ifn hr e20
  by_cases e21 : wr (zand (zxs xs i) 31) = (21 : Int)
  · exact z_tableIn (v := 21) (off := 1234) (tgt := 1273) hX0 dL_law_39 e21 (by decide) (by decide) rfl (by decide) (wL_c21 hst hX0 hc0 hL hi hk (z_ifp hr e21) kk2)
  have hr := z_ifn hr e21
  obtain rfl := Option.some.inj hr
  exact z_tableOut (tgt := 1287) hX0 dL_law_39 (by omega) (by decide) (kk d0 ad k n hd0 (by omega) (by omega))
def fL_loop (xs : Nat → Int32) (L : Int) : Nat → Int → HS → Option HS
  | 0, _, _ => none
  | f + 1, i, h => if L - 5 < i then some h else (fL_step xs i h).bind (fL_loop xs L f (i + 5))
theorem wL_loop {G : ZG} {l0 : Launch} {X : ZX} {o : HS} {b L : Nat} {xs : Nat → Int32} (hst : l0.stackTraces = false) (hX : ZC G l0 cL_law wsL_law RL 9 room_1 X) (hc : zSc b L xs X) (hL : L ≤ 2560) (kend : ∀ (d1 : Drawn) (ad1 : Nat → Nat) (k1 n1 : Nat) (lv : List (Nat × Value)), zdrOk d1 X → k1 ≤ 601024 → n1 ≤ 7293034 → ZW G (zdr d1 X) shL ad1 o k1 n1 lv 1294 [.int (iI 1)]) : ∀ (f : Nat) {i : Int} {h : HS} {d0 : Drawn} {ad : Nat → Nat} {k n : Nat}, zdrOk d0 X → 0 ≤ i ∧ i < 5000 → k + 200 * f ≤ 601024 ∧ n + 1001 * f ≤ 7293034 → fL_loop xs (L : Int) f i h = some o → ZW G (zdr d0 X) shL ad h k n [(4, .int (iI i)), (3, .ref (ad 50)), (2, .ref (ad 30)), (1, .ref (ad 0)), (0, .ref b)] 23 []
  | 0, i, h, d0, ad, k, n, hd0, hi, hk, hr => z_none hr
  | f + 1, i, h, d0, ad, k, n, hd0, hi, hk, hr => by
    have hX0 : ZC G l0 cL_law wsL_law RL 9 room_1 (zdr d0 X) := hX.drawn
    have hc0 : zSc b L xs (zdr d0 X) := hc.drawn
    unfold fL_loop at hr
    refine z_iload hX0 dL_law_23 0 rfl ?_
    refine z_aload_n hX0 dL_law_25 4 rfl ?_
    refine z_slen hX0 hc0 dL_law_26 ?_
    refine z_iconst hX0 dL_law_27 ?_
    refine z_isub hX0 dL_law_28 ?_
    by_cases hlt : (L : Int) - 5 < i
    · have hr := z_ifp hr hlt
      obtain rfl := Option.some.inj hr
      refine z_icmp_gt (tgt := 1293) (B1 := some ()) (B2 := none) (o := ()) hX0 dL_law_29 (by decide) (wr_of (by omega) (by omega)) (wr_of (by omega) (by omega)) (if_pos hlt) (fun _ => ?_) (fun hr => z_none hr)
      refine z_iconst hX0 dL_law_1293 ?_
      exact kend d0 ad k n _ hd0 (by omega) (by omega)
    · have hr := z_ifn hr hlt
      obtain ⟨h1, hs1, hr⟩ := z_bind hr
      refine z_icmp_gt (tgt := 1293) (B1 := none) (B2 := some ()) (o := ()) hX0 dL_law_29 (by decide) (wr_of (by omega) (by omega)) (wr_of (by omega) (by omega)) (if_neg hlt) (fun hr => z_none hr) (fun _ => ?_)
      refine wL_step hst hX hd0 hc hL ⟨hi.1, by omega⟩ ⟨by omega, by omega⟩ hs1 (fun d1 ad1 k1 n1 hd1 hk1 hn1 => ?_)
      refine z_iinc hX.drawn dL_law_1287 0 rfl (by decide) rfl ?_
      refine z_goto (tgt := 23) hX.drawn dL_law_1290 (by decide) ?_
      exact wL_loop hst hX hc hL kend f hd1 ⟨by omega, by omega⟩ ⟨by omega, by omega⟩ hr
