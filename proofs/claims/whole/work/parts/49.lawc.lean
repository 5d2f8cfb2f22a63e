def shL : ZS := sh_8 ++ sh_h
theorem zsw_big {j : Nat} (h : 23 ≤ j) : zsw j = j := by
  unfold zsw
  rw [if_neg (by omega), if_neg (by omega), if_neg (by omega), if_neg (by omega)]
theorem z_keep8 {G : ZG} {ad ad1 : Nat → Nat} {h h1 : HS} {Wr : List Nat} (ha : ∀ j, 23 ≤ j → ad1 j = ad j) (hw : ∀ x ∈ sh_8, x.1 ∉ Wr) (hf : zfr Wr h h1) : wz G sh_8 ad1 h1 = wz G sh_8 ad h := by
  refine wz_keep (fun x hx => ⟨ha _ ?_, fun o ho j hj => ha _ ?_⟩) (fun x hx => hf _ (hw x hx))
  · have h1 : sh_8.all (fun x => decide (23 ≤ x.1)) = true := by decide
    exact of_decide_eq_true (List.all_eq_true.mp h1 x hx)
  · have h1 : sh_8.all (fun x => match x.2 with | .inr (.inr o) => o.2.all (fun f => f == 0 || decide (25 ≤ f)) | _ => true) = true := by decide
    have h2 := List.all_eq_true.mp h1 x hx
    rw [ho] at h2
    have h3 := List.all_eq_true.mp h2 (j + 2) (List.contains_iff_mem.mp hj)
    simp at h3
    omega
def fL_c0 (p1 : Int) (h : HS) : Option HS := (fL_addKind p1 h).bind fun r1 => (fX6_addKind p1 r1.2).bind fun r2 => (fX6_thrown r2.2).bind fun r3 => if wr r3 = wr r1.1 then (if wr r1.1 = 0 then (if wr (zcmp (Int64.ofInt (r2.2 50 0)) (iI r2.1).toInt64) = 0 then some r2.2 else none) else some r2.2) else none
set_option maxRecDepth 100000 in
set_option maxHeartbeats 4000000 in
theorem wL_c0 {G : ZG} {l0 : Launch} {X : ZX} {ad : Nat → Nat} {h o : HS} {k n b L : Nat} {xs : Nat → Int32} {i : Int} (hst : l0.stackTraces = false) (hX : ZC G l0 cL_law wsL_law RL 9 room_1 X) (hc : zSc b L xs X) (hL : L ≤ 2560) (hi : 0 ≤ i ∧ i + 4 < (L : Int)) (hk : k + 200 ≤ 601024 ∧ n + 1001 ≤ 7293034) (hr : fL_c0 (zxs xs (i + 1)) h = some o) (kk : ∀ (ad1 : Nat → Nat) (k1 n1 : Nat), k1 ≤ k + 200 → n1 ≤ n + 1001 → ad1 0 = ad 0 → ad1 30 = ad 30 → ad1 50 = ad 50 → ZW G X shL ad1 o k1 n1 [(4, .int (iI i)), (3, .ref (ad1 50)), (2, .ref (ad1 30)), (1, .ref (ad1 0)), (0, .ref b)] 1287 []) : ZW G X shL ad h k n [(4, .int (iI i)), (3, .ref (ad 50)), (2, .ref (ad 30)), (1, .ref (ad 0)), (0, .ref b)] 140 [] := by
  unfold fL_c0 at hr
  refine z_aload_n hX dL_law_140 3 rfl ?_
  refine z_aload_n hX dL_law_141 4 rfl ?_
  refine z_iload hX dL_law_142 0 rfl ?_
  refine z_iconst hX dL_law_144 ?_
  refine z_iadd hX dL_law_145 ?_
  refine z_sld hX hc dL_law_146 (by omega) hL ?_
  refine z_aload_n hX dL_law_147 1 rfl ?_
  obtain ⟨r1, hc1, hr⟩ := z_bind hr
  refine z_callH (rest := sh_8) (shc := sh_h) (As := [.ref (ad 0), .int (iI (zxs xs (i + 1))), .ref (ad 50)]) (nA := 3) (st := []) hX (mL_addKind hst hc1) dL_law_148 gL_law_L_addKind rfl ⟨by decide, by decide, by decide +kernel⟩ ⟨by decide, by decide⟩ ⟨by show k + 1 ≤ 601024; omega, by show n + 6 ≤ 7293034; omega⟩ rfl rfl (Nat.le_of_ble_eq_true rfl) rfl (by decide) z_Drf (fun hf => z_keep8 (fun _ _ => rfl) (by decide) hf) rfl rfl (fun hf1 => ?_)
  refine z_istore hX dL_law_151 (by decide) rfl ?_
  refine z_aload_n hX dL_law_153 3 rfl ?_
  refine z_aload_n hX dL_law_154 5 rfl ?_
  refine z_iload hX dL_law_155 1 rfl ?_
  refine z_iconst hX dL_law_157 ?_
  refine z_iadd hX dL_law_158 ?_
  refine z_sld hX hc dL_law_159 (by omega) hL ?_
  obtain ⟨r2, hc2, hr⟩ := z_bind hr
  refine z_callV_i (As := [.int (iI (zxs xs (i + 1)))]) (nA := 1) (st := []) hX (mX6_addKind hc2) dL_law_160 gL_law_X6_addKind rfl ⟨rfl, by decide, by decide, by decide +kernel⟩ ⟨by decide, by decide⟩ ⟨by show k + 1 + 0 ≤ 601024; omega, by show n + 6 + 0 ≤ 7293034; omega⟩ 0 rfl rfl rfl rfl (Nat.le_of_ble_eq_true rfl) (by decide +kernel) rfl rfl (fun hg2 => ?_)
  refine z_istore hX dL_law_163 (by decide) rfl ?_
  refine z_aload_n hX dL_law_165 4 rfl ?_
  obtain ⟨r3, hc3, hr⟩ := z_bind hr
  refine z_callV_i (As := []) (nA := 0) (st := []) hX (mX6_thrown hc3) dL_law_166 gL_law_X6_thrown rfl ⟨rfl, by decide, by decide, by decide +kernel⟩ ⟨by decide, by decide⟩ ⟨by show k + 1 + 0 + 0 ≤ 601024; omega, by show n + 6 + 0 + 0 ≤ 7293034; omega⟩ 0 rfl rfl rfl rfl (Nat.le_of_ble_eq_true rfl) (by decide +kernel) rfl rfl (fun hg3 => ?_)
  refine z_iload hX dL_law_169 1 rfl ?_
  refine z_icmp_eq (tgt := 176) hX dL_law_171 (by decide) rfl rfl hr (fun hr => ?_) (fun hr => z_none hr)
  refine z_iload hX dL_law_176 1 rfl ?_
  refine z_if_ne (tgt := 193) hX dL_law_178 (by decide) rfl hr (fun hr => ?_) (fun hr => ?_)
  · refine z_goto (tgt := 1287) hX dL_law_193 (by decide) ?_
    refine z_lv [2, 3, 4, 5, 6] rfl ?_
    obtain rfl := Option.some.inj hr
    exact kk ad _ _ (by show k + 1 + 0 + 0 ≤ k + 200; omega) (by show n + 6 + 0 + 0 ≤ n + 1001; omega) rfl rfl rfl
  · refine z_aload_n hX dL_law_181 3 rfl ?_
    refine z_iconst hX dL_law_182 ?_
    refine z_laload (a := 50) (N := 1) (i := 0) (b := 1) (B := some ()) (o := ()) hX dL_law_183 13 rfl (by decide) rfl (if_pos (by decide)) (fun _ => ?_)
    refine z_iload hX dL_law_184 0 rfl ?_
    refine z_i2l hX dL_law_186 ?_
    refine z_lcmp hX dL_law_187 ?_
    refine z_if_eq (tgt := 193) hX dL_law_188 (by decide) rfl hr (fun hr => ?_) (fun hr => z_none hr)
    refine z_goto (tgt := 1287) hX dL_law_193 (by decide) ?_
    refine z_lv [2, 3, 4, 5, 6] rfl ?_
    obtain rfl := Option.some.inj hr
    exact kk ad _ _ (by show k + 1 + 0 + 0 ≤ k + 200; omega) (by show n + 6 + 0 + 0 ≤ n + 1001; omega) rfl rfl rfl
def fL_c1 (p1 : Int) (p2 : Int) (p3 : Int) (p4 : Int) (h : HS) : Option HS := (fL_addStep p1 p2 p3 p4 h).bind fun r1 => (fX6_addStep p1 p2 p3 p4 r1.2).bind fun r2 => (fX6_thrown r2.2).bind fun r3 => if wr r3 = wr r1.1 then (if wr r1.1 = 0 then (if wr (zcmp (Int64.ofInt (r2.2 50 0)) (iI r2.1).toInt64) = 0 then some r2.2 else none) else some r2.2) else none
set_option maxRecDepth 100000 in
set_option maxHeartbeats 4000000 in
theorem wL_c1 {G : ZG} {l0 : Launch} {X : ZX} {ad : Nat → Nat} {h o : HS} {k n b L : Nat} {xs : Nat → Int32} {i : Int} (hst : l0.stackTraces = false) (hX : ZC G l0 cL_law wsL_law RL 9 room_1 X) (hc : zSc b L xs X) (hL : L ≤ 2560) (hi : 0 ≤ i ∧ i + 4 < (L : Int)) (hk : k + 200 ≤ 601024 ∧ n + 1001 ≤ 7293034) (hr : fL_c1 (zxs xs (i + 1)) (zxs xs (i + 2)) (zxs xs (i + 3)) (zxs xs (i + 4)) h = some o) (kk : ∀ (ad1 : Nat → Nat) (k1 n1 : Nat), k1 ≤ k + 200 → n1 ≤ n + 1001 → ad1 0 = ad 0 → ad1 30 = ad 30 → ad1 50 = ad 50 → ZW G X shL ad1 o k1 n1 [(4, .int (iI i)), (3, .ref (ad1 50)), (2, .ref (ad1 30)), (1, .ref (ad1 0)), (0, .ref b)] 1287 []) : ZW G X shL ad h k n [(4, .int (iI i)), (3, .ref (ad 50)), (2, .ref (ad 30)), (1, .ref (ad 0)), (0, .ref b)] 196 [] := by
  unfold fL_c1 at hr
  refine z_aload_n hX dL_law_196 3 rfl ?_
  refine z_aload_n hX dL_law_197 4 rfl ?_
  refine z_iload hX dL_law_198 0 rfl ?_
  refine z_iconst hX dL_law_200 ?_
  refine z_iadd hX dL_law_201 ?_
  refine z_sld hX hc dL_law_202 (by omega) hL ?_
  refine z_aload_n hX dL_law_203 4 rfl ?_
  refine z_iload hX dL_law_204 0 rfl ?_
  refine z_iconst hX dL_law_206 ?_
  refine z_iadd hX dL_law_207 ?_
  refine z_sld hX hc dL_law_208 (by omega) hL ?_
  refine z_aload_n hX dL_law_209 4 rfl ?_
  refine z_iload hX dL_law_210 0 rfl ?_
  refine z_iconst hX dL_law_212 ?_
  refine z_iadd hX dL_law_213 ?_
  refine z_sld hX hc dL_law_214 (by omega) hL ?_
  refine z_aload_n hX dL_law_215 4 rfl ?_
  refine z_iload hX dL_law_216 0 rfl ?_
  refine z_iconst hX dL_law_218 ?_
  refine z_iadd hX dL_law_219 ?_
  refine z_sld hX hc dL_law_220 (by omega) hL ?_
  refine z_aload_n hX dL_law_221 1 rfl ?_
  obtain ⟨r1, hc1, hr⟩ := z_bind hr
  refine z_callH (rest := sh_8) (shc := sh_h) (As := [.ref (ad 0), .int (iI (zxs xs (i + 1))), .int (iI (zxs xs (i + 2))), .int (iI (zxs xs (i + 3))), .int (iI (zxs xs (i + 4))), .ref (ad 50)]) (nA := 6) (st := []) hX (mL_addStep hst hc1) dL_law_222 gL_law_L_addStep rfl ⟨by decide, by decide, by decide +kernel⟩ ⟨by decide, by decide⟩ ⟨by show k + 1 ≤ 601024; omega, by show n + 6 ≤ 7293034; omega⟩ rfl rfl (Nat.le_of_ble_eq_true rfl) rfl (by decide) z_Drf (fun hf => z_keep8 (fun _ _ => rfl) (by decide) hf) rfl rfl (fun hf1 => ?_)
  refine z_istore hX dL_law_225 (by decide) rfl ?_
  refine z_aload_n hX dL_law_227 3 rfl ?_
  refine z_aload_n hX dL_law_228 5 rfl ?_
  refine z_iload hX dL_law_229 1 rfl ?_
  refine z_iconst hX dL_law_231 ?_
  refine z_iadd hX dL_law_232 ?_
  refine z_sld hX hc dL_law_233 (by omega) hL ?_
  refine z_aload_n hX dL_law_234 5 rfl ?_
  refine z_iload hX dL_law_235 1 rfl ?_
  refine z_iconst hX dL_law_237 ?_
  refine z_iadd hX dL_law_238 ?_
  refine z_sld hX hc dL_law_239 (by omega) hL ?_
  refine z_aload_n hX dL_law_240 5 rfl ?_
  refine z_iload hX dL_law_241 1 rfl ?_
  refine z_iconst hX dL_law_243 ?_
  refine z_iadd hX dL_law_244 ?_
  refine z_sld hX hc dL_law_245 (by omega) hL ?_
  refine z_aload_n hX dL_law_246 5 rfl ?_
  refine z_iload hX dL_law_247 1 rfl ?_
  refine z_iconst hX dL_law_249 ?_
  refine z_iadd hX dL_law_250 ?_
  refine z_sld hX hc dL_law_251 (by omega) hL ?_
  obtain ⟨r2, hc2, hr⟩ := z_bind hr
  refine z_callV_i (As := [.int (iI (zxs xs (i + 1))), .int (iI (zxs xs (i + 2))), .int (iI (zxs xs (i + 3))), .int (iI (zxs xs (i + 4)))]) (nA := 4) (st := []) hX (mX6_addStep hc2) dL_law_252 gL_law_X6_addStep rfl ⟨rfl, by decide, by decide, by decide +kernel⟩ ⟨by decide, by decide⟩ ⟨by show k + 1 + 0 ≤ 601024; omega, by show n + 6 + 0 ≤ 7293034; omega⟩ 0 rfl rfl rfl rfl (Nat.le_of_ble_eq_true rfl) (by decide +kernel) rfl rfl (fun hg2 => ?_)
  refine z_istore hX dL_law_255 (by decide) rfl ?_
  refine z_aload_n hX dL_law_257 4 rfl ?_
  obtain ⟨r3, hc3, hr⟩ := z_bind hr
  refine z_callV_i (As := []) (nA := 0) (st := []) hX (mX6_thrown hc3) dL_law_258 gL_law_X6_thrown rfl ⟨rfl, by decide, by decide, by decide +kernel⟩ ⟨by decide, by decide⟩ ⟨by show k + 1 + 0 + 0 ≤ 601024; omega, by show n + 6 + 0 + 0 ≤ 7293034; omega⟩ 0 rfl rfl rfl rfl (Nat.le_of_ble_eq_true rfl) (by decide +kernel) rfl rfl (fun hg3 => ?_)
  refine z_iload hX dL_law_261 1 rfl ?_
  refine z_icmp_eq (tgt := 268) hX dL_law_263 (by decide) rfl rfl hr (fun hr => ?_) (fun hr => z_none hr)
  refine z_iload hX dL_law_268 1 rfl ?_
  refine z_if_ne (tgt := 285) hX dL_law_270 (by decide) rfl hr (fun hr => ?_) (fun hr => ?_)
  · refine z_goto (tgt := 1287) hX dL_law_285 (by decide) ?_
    refine z_lv [2, 3, 4, 5, 6] rfl ?_
    obtain rfl := Option.some.inj hr
    exact kk ad _ _ (by show k + 1 + 0 + 0 ≤ k + 200; omega) (by show n + 6 + 0 + 0 ≤ n + 1001; omega) rfl rfl rfl
  · refine z_aload_n hX dL_law_273 3 rfl ?_
    refine z_iconst hX dL_law_274 ?_
    refine z_laload (a := 50) (N := 1) (i := 0) (b := 1) (B := some ()) (o := ()) hX dL_law_275 13 rfl (by decide) rfl (if_pos (by decide)) (fun _ => ?_)
    refine z_iload hX dL_law_276 0 rfl ?_
    refine z_i2l hX dL_law_278 ?_
    refine z_lcmp hX dL_law_279 ?_
    refine z_if_eq (tgt := 285) hX dL_law_280 (by decide) rfl hr (fun hr => ?_) (fun hr => z_none hr)
    refine z_goto (tgt := 1287) hX dL_law_285 (by decide) ?_
    refine z_lv [2, 3, 4, 5, 6] rfl ?_
    obtain rfl := Option.some.inj hr
    exact kk ad _ _ (by show k + 1 + 0 + 0 ≤ k + 200; omega) (by show n + 6 + 0 + 0 ≤ n + 1001; omega) rfl rfl rfl
def fL_c2 (p1 : Int) (p2 : Int) (p3 : Int) (h : HS) : Option HS := (fL_put p1 p2 p3 h).bind fun r1 => (fX6_put p1 p2 p3 r1.2).bind fun r2 => (fX6_thrown r2.2).bind fun r3 => if wr r3 = wr r1.1 then (if wr r1.1 = 0 then (if wr (zcmp (Int64.ofInt (r2.2 50 0)) (iI r2.1).toInt64) = 0 then some r2.2 else none) else some r2.2) else none
set_option maxRecDepth 100000 in
set_option maxHeartbeats 4000000 in
theorem wL_c2 {G : ZG} {l0 : Launch} {X : ZX} {ad : Nat → Nat} {h o : HS} {k n b L : Nat} {xs : Nat → Int32} {i : Int} (hst : l0.stackTraces = false) (hX : ZC G l0 cL_law wsL_law RL 9 room_1 X) (hc : zSc b L xs X) (hL : L ≤ 2560) (hi : 0 ≤ i ∧ i + 4 < (L : Int)) (hk : k + 200 ≤ 601024 ∧ n + 1001 ≤ 7293034) (hr : fL_c2 (zxs xs (i + 1)) (zxs xs (i + 2)) (zxs xs (i + 3)) h = some o) (kk : ∀ (ad1 : Nat → Nat) (k1 n1 : Nat), k1 ≤ k + 200 → n1 ≤ n + 1001 → ad1 0 = ad 0 → ad1 30 = ad 30 → ad1 50 = ad 50 → ZW G X shL ad1 o k1 n1 [(4, .int (iI i)), (3, .ref (ad1 50)), (2, .ref (ad1 30)), (1, .ref (ad1 0)), (0, .ref b)] 1287 []) : ZW G X shL ad h k n [(4, .int (iI i)), (3, .ref (ad 50)), (2, .ref (ad 30)), (1, .ref (ad 0)), (0, .ref b)] 288 [] := by
  unfold fL_c2 at hr
  refine z_aload_n hX dL_law_288 3 rfl ?_
  refine z_aload_n hX dL_law_289 4 rfl ?_
  refine z_iload hX dL_law_290 0 rfl ?_
  refine z_iconst hX dL_law_292 ?_
  refine z_iadd hX dL_law_293 ?_
  refine z_sld hX hc dL_law_294 (by omega) hL ?_
  refine z_aload_n hX dL_law_295 4 rfl ?_
  refine z_iload hX dL_law_296 0 rfl ?_
  refine z_iconst hX dL_law_298 ?_
  refine z_iadd hX dL_law_299 ?_
  refine z_sld hX hc dL_law_300 (by omega) hL ?_
  refine z_aload_n hX dL_law_301 4 rfl ?_
  refine z_iload hX dL_law_302 0 rfl ?_
  refine z_iconst hX dL_law_304 ?_
  refine z_iadd hX dL_law_305 ?_
  refine z_sld hX hc dL_law_306 (by omega) hL ?_
  refine z_aload_n hX dL_law_307 1 rfl ?_
  obtain ⟨r1, hc1, hr⟩ := z_bind hr
  refine z_callH (rest := sh_8) (shc := sh_h) (As := [.ref (ad 0), .int (iI (zxs xs (i + 1))), .int (iI (zxs xs (i + 2))), .int (iI (zxs xs (i + 3))), .ref (ad 50)]) (nA := 5) (st := []) hX (mL_put hst hc1) dL_law_308 gL_law_L_put rfl ⟨by decide, by decide, by decide +kernel⟩ ⟨by decide, by decide⟩ ⟨by show k + 1 ≤ 601024; omega, by show n + 6 ≤ 7293034; omega⟩ rfl rfl (Nat.le_of_ble_eq_true rfl) rfl (by decide) z_Drf (fun hf => z_keep8 (fun _ _ => rfl) (by decide) hf) rfl rfl (fun hf1 => ?_)
  refine z_istore hX dL_law_311 (by decide) rfl ?_
  refine z_aload_n hX dL_law_313 3 rfl ?_
  refine z_aload_n hX dL_law_314 5 rfl ?_
  refine z_iload hX dL_law_315 1 rfl ?_
  refine z_iconst hX dL_law_317 ?_
  refine z_iadd hX dL_law_318 ?_
  refine z_sld hX hc dL_law_319 (by omega) hL ?_
  refine z_aload_n hX dL_law_320 5 rfl ?_
  refine z_iload hX dL_law_321 1 rfl ?_
  refine z_iconst hX dL_law_323 ?_
  refine z_iadd hX dL_law_324 ?_
  refine z_sld hX hc dL_law_325 (by omega) hL ?_
  refine z_aload_n hX dL_law_326 5 rfl ?_
  refine z_iload hX dL_law_327 1 rfl ?_
  refine z_iconst hX dL_law_329 ?_
  refine z_iadd hX dL_law_330 ?_
  refine z_sld hX hc dL_law_331 (by omega) hL ?_
  obtain ⟨r2, hc2, hr⟩ := z_bind hr
  refine z_callV_i (As := [.int (iI (zxs xs (i + 1))), .int (iI (zxs xs (i + 2))), .int (iI (zxs xs (i + 3)))]) (nA := 3) (st := []) hX (mX6_put hc2) dL_law_332 gL_law_X6_put rfl ⟨rfl, by decide, by decide, by decide +kernel⟩ ⟨by decide, by decide⟩ ⟨by show k + 1 + 0 ≤ 601024; omega, by show n + 6 + 0 ≤ 7293034; omega⟩ 0 rfl rfl rfl rfl (Nat.le_of_ble_eq_true rfl) (by decide +kernel) rfl rfl (fun hg2 => ?_)
  refine z_istore hX dL_law_335 (by decide) rfl ?_
  refine z_aload_n hX dL_law_337 4 rfl ?_
  obtain ⟨r3, hc3, hr⟩ := z_bind hr
  refine z_callV_i (As := []) (nA := 0) (st := []) hX (mX6_thrown hc3) dL_law_338 gL_law_X6_thrown rfl ⟨rfl, by decide, by decide, by decide +kernel⟩ ⟨by decide, by decide⟩ ⟨by show k + 1 + 0 + 0 ≤ 601024; omega, by show n + 6 + 0 + 0 ≤ 7293034; omega⟩ 0 rfl rfl rfl rfl (Nat.le_of_ble_eq_true rfl) (by decide +kernel) rfl rfl (fun hg3 => ?_)
  refine z_iload hX dL_law_341 1 rfl ?_
  refine z_icmp_eq (tgt := 348) hX dL_law_343 (by decide) rfl rfl hr (fun hr => ?_) (fun hr => z_none hr)
  refine z_iload hX dL_law_348 1 rfl ?_
  refine z_if_ne (tgt := 365) hX dL_law_350 (by decide) rfl hr (fun hr => ?_) (fun hr => ?_)
  · refine z_goto (tgt := 1287) hX dL_law_365 (by decide) ?_
    refine z_lv [2, 3, 4, 5, 6] rfl ?_
    obtain rfl := Option.some.inj hr
    exact kk ad _ _ (by show k + 1 + 0 + 0 ≤ k + 200; omega) (by show n + 6 + 0 + 0 ≤ n + 1001; omega) rfl rfl rfl
  · refine z_aload_n hX dL_law_353 3 rfl ?_
    refine z_iconst hX dL_law_354 ?_
    refine z_laload (a := 50) (N := 1) (i := 0) (b := 1) (B := some ()) (o := ()) hX dL_law_355 13 rfl (by decide) rfl (if_pos (by decide)) (fun _ => ?_)
    refine z_iload hX dL_law_356 0 rfl ?_
    refine z_i2l hX dL_law_358 ?_
    refine z_lcmp hX dL_law_359 ?_
    refine z_if_eq (tgt := 365) hX dL_law_360 (by decide) rfl hr (fun hr => ?_) (fun hr => z_none hr)
    refine z_goto (tgt := 1287) hX dL_law_365 (by decide) ?_
    refine z_lv [2, 3, 4, 5, 6] rfl ?_
    obtain rfl := Option.some.inj hr
    exact kk ad _ _ (by show k + 1 + 0 + 0 ≤ k + 200; omega) (by show n + 6 + 0 + 0 ≤ n + 1001; omega) rfl rfl rfl
def fL_c3 (p1 : Int) (h : HS) : Option HS := (fL_at p1 h).bind fun r1 => (fX6_at p1 r1.2).bind fun r2 => (fX6_thrown r2.2).bind fun r3 => if wr r3 = wr r1.1 then (if wr r1.1 = 0 then (if wr (zcmp (Int64.ofInt (r2.2 50 0)) (iI r2.1).toInt64) = 0 then some r2.2 else none) else some r2.2) else none
set_option maxRecDepth 100000 in
set_option maxHeartbeats 4000000 in
theorem wL_c3 {G : ZG} {l0 : Launch} {X : ZX} {ad : Nat → Nat} {h o : HS} {k n b L : Nat} {xs : Nat → Int32} {i : Int} (hst : l0.stackTraces = false) (hX : ZC G l0 cL_law wsL_law RL 9 room_1 X) (hc : zSc b L xs X) (hL : L ≤ 2560) (hi : 0 ≤ i ∧ i + 4 < (L : Int)) (hk : k + 200 ≤ 601024 ∧ n + 1001 ≤ 7293034) (hr : fL_c3 (zxs xs (i + 1)) h = some o) (kk : ∀ (ad1 : Nat → Nat) (k1 n1 : Nat), k1 ≤ k + 200 → n1 ≤ n + 1001 → ad1 0 = ad 0 → ad1 30 = ad 30 → ad1 50 = ad 50 → ZW G X shL ad1 o k1 n1 [(4, .int (iI i)), (3, .ref (ad1 50)), (2, .ref (ad1 30)), (1, .ref (ad1 0)), (0, .ref b)] 1287 []) : ZW G X shL ad h k n [(4, .int (iI i)), (3, .ref (ad 50)), (2, .ref (ad 30)), (1, .ref (ad 0)), (0, .ref b)] 368 [] := by
  unfold fL_c3 at hr
  refine z_aload_n hX dL_law_368 3 rfl ?_
  refine z_aload_n hX dL_law_369 4 rfl ?_
  refine z_iload hX dL_law_370 0 rfl ?_
  refine z_iconst hX dL_law_372 ?_
  refine z_iadd hX dL_law_373 ?_
  refine z_sld hX hc dL_law_374 (by omega) hL ?_
  refine z_aload_n hX dL_law_375 1 rfl ?_
  obtain ⟨r1, hc1, hr⟩ := z_bind hr
  refine z_callH (rest := sh_8) (shc := sh_h) (As := [.ref (ad 0), .int (iI (zxs xs (i + 1))), .ref (ad 50)]) (nA := 3) (st := []) hX (mL_at hst hc1) dL_law_376 gL_law_L_at rfl ⟨by decide, by decide, by decide +kernel⟩ ⟨by decide, by decide⟩ ⟨by show k + 1 ≤ 601024; omega, by show n + 6 ≤ 7293034; omega⟩ rfl rfl (Nat.le_of_ble_eq_true rfl) rfl (by decide) z_Drf (fun hf => z_keep8 (fun _ _ => rfl) (by decide) hf) rfl rfl (fun hf1 => ?_)
  refine z_istore hX dL_law_379 (by decide) rfl ?_
  refine z_aload_n hX dL_law_381 3 rfl ?_
  refine z_aload_n hX dL_law_382 5 rfl ?_
  refine z_iload hX dL_law_383 1 rfl ?_
  refine z_iconst hX dL_law_385 ?_
  refine z_iadd hX dL_law_386 ?_
  refine z_sld hX hc dL_law_387 (by omega) hL ?_
  obtain ⟨r2, hc2, hr⟩ := z_bind hr
  refine z_callV_i (As := [.int (iI (zxs xs (i + 1)))]) (nA := 1) (st := []) hX (mX6_at hc2) dL_law_388 gL_law_X6_at rfl ⟨rfl, by decide, by decide, by decide +kernel⟩ ⟨by decide, by decide⟩ ⟨by show k + 1 + 0 ≤ 601024; omega, by show n + 6 + 0 ≤ 7293034; omega⟩ 0 rfl rfl rfl rfl (Nat.le_of_ble_eq_true rfl) (by decide +kernel) rfl rfl (fun hg2 => ?_)
  refine z_istore hX dL_law_391 (by decide) rfl ?_
  refine z_aload_n hX dL_law_393 4 rfl ?_
  obtain ⟨r3, hc3, hr⟩ := z_bind hr
  refine z_callV_i (As := []) (nA := 0) (st := []) hX (mX6_thrown hc3) dL_law_394 gL_law_X6_thrown rfl ⟨rfl, by decide, by decide, by decide +kernel⟩ ⟨by decide, by decide⟩ ⟨by show k + 1 + 0 + 0 ≤ 601024; omega, by show n + 6 + 0 + 0 ≤ 7293034; omega⟩ 0 rfl rfl rfl rfl (Nat.le_of_ble_eq_true rfl) (by decide +kernel) rfl rfl (fun hg3 => ?_)
  refine z_iload hX dL_law_397 1 rfl ?_
  refine z_icmp_eq (tgt := 404) hX dL_law_399 (by decide) rfl rfl hr (fun hr => ?_) (fun hr => z_none hr)
  refine z_iload hX dL_law_404 1 rfl ?_
  refine z_if_ne (tgt := 421) hX dL_law_406 (by decide) rfl hr (fun hr => ?_) (fun hr => ?_)
  · refine z_goto (tgt := 1287) hX dL_law_421 (by decide) ?_
    refine z_lv [2, 3, 4, 5, 6] rfl ?_
    obtain rfl := Option.some.inj hr
    exact kk ad _ _ (by show k + 1 + 0 + 0 ≤ k + 200; omega) (by show n + 6 + 0 + 0 ≤ n + 1001; omega) rfl rfl rfl
  · refine z_aload_n hX dL_law_409 3 rfl ?_
    refine z_iconst hX dL_law_410 ?_
    refine z_laload (a := 50) (N := 1) (i := 0) (b := 1) (B := some ()) (o := ()) hX dL_law_411 13 rfl (by decide) rfl (if_pos (by decide)) (fun _ => ?_)
    refine z_iload hX dL_law_412 0 rfl ?_
    refine z_i2l hX dL_law_414 ?_
    refine z_lcmp hX dL_law_415 ?_
    refine z_if_eq (tgt := 421) hX dL_law_416 (by decide) rfl hr (fun hr => ?_) (fun hr => z_none hr)
    refine z_goto (tgt := 1287) hX dL_law_421 (by decide) ?_
    refine z_lv [2, 3, 4, 5, 6] rfl ?_
    obtain rfl := Option.some.inj hr
    exact kk ad _ _ (by show k + 1 + 0 + 0 ≤ k + 200; omega) (by show n + 6 + 0 + 0 ≤ n + 1001; omega) rfl rfl rfl
def fL_c4 (p1 : Int) (h : HS) : Option HS := (fL_state p1 h).bind fun r1 => (fX6_state p1 r1.2).bind fun r2 => (fX6_thrown r2.2).bind fun r3 => if wr r3 = wr r1.1 then (if wr r1.1 = 0 then (if wr (zcmp (Int64.ofInt (r2.2 50 0)) (iI r2.1).toInt64) = 0 then some r2.2 else none) else some r2.2) else none
set_option maxRecDepth 100000 in
set_option maxHeartbeats 4000000 in
theorem wL_c4 {G : ZG} {l0 : Launch} {X : ZX} {ad : Nat → Nat} {h o : HS} {k n b L : Nat} {xs : Nat → Int32} {i : Int} (hst : l0.stackTraces = false) (hX : ZC G l0 cL_law wsL_law RL 9 room_1 X) (hc : zSc b L xs X) (hL : L ≤ 2560) (hi : 0 ≤ i ∧ i + 4 < (L : Int)) (hk : k + 200 ≤ 601024 ∧ n + 1001 ≤ 7293034) (hr : fL_c4 (zxs xs (i + 1)) h = some o) (kk : ∀ (ad1 : Nat → Nat) (k1 n1 : Nat), k1 ≤ k + 200 → n1 ≤ n + 1001 → ad1 0 = ad 0 → ad1 30 = ad 30 → ad1 50 = ad 50 → ZW G X shL ad1 o k1 n1 [(4, .int (iI i)), (3, .ref (ad1 50)), (2, .ref (ad1 30)), (1, .ref (ad1 0)), (0, .ref b)] 1287 []) : ZW G X shL ad h k n [(4, .int (iI i)), (3, .ref (ad 50)), (2, .ref (ad 30)), (1, .ref (ad 0)), (0, .ref b)] 424 [] := by
  unfold fL_c4 at hr
  refine z_aload_n hX dL_law_424 3 rfl ?_
  refine z_aload_n hX dL_law_425 4 rfl ?_
  refine z_iload hX dL_law_426 0 rfl ?_
  refine z_iconst hX dL_law_428 ?_
  refine z_iadd hX dL_law_429 ?_
  refine z_sld hX hc dL_law_430 (by omega) hL ?_
  refine z_aload_n hX dL_law_431 1 rfl ?_
  obtain ⟨r1, hc1, hr⟩ := z_bind hr
  refine z_callH (rest := sh_8) (shc := sh_h) (As := [.ref (ad 0), .int (iI (zxs xs (i + 1))), .ref (ad 50)]) (nA := 3) (st := []) hX (mL_state hst hc1) dL_law_432 gL_law_L_state rfl ⟨by decide, by decide, by decide +kernel⟩ ⟨by decide, by decide⟩ ⟨by show k + 1 ≤ 601024; omega, by show n + 6 ≤ 7293034; omega⟩ rfl rfl (Nat.le_of_ble_eq_true rfl) rfl (by decide) z_Drf (fun hf => z_keep8 (fun _ _ => rfl) (by decide) hf) rfl rfl (fun hf1 => ?_)
  refine z_istore hX dL_law_435 (by decide) rfl ?_
  refine z_aload_n hX dL_law_437 3 rfl ?_
  refine z_aload_n hX dL_law_438 5 rfl ?_
  refine z_iload hX dL_law_439 1 rfl ?_
  refine z_iconst hX dL_law_441 ?_
  refine z_iadd hX dL_law_442 ?_
  refine z_sld hX hc dL_law_443 (by omega) hL ?_
  obtain ⟨r2, hc2, hr⟩ := z_bind hr
  refine z_callV_i (As := [.int (iI (zxs xs (i + 1)))]) (nA := 1) (st := []) hX (mX6_state hc2) dL_law_444 gL_law_X6_state rfl ⟨rfl, by decide, by decide, by decide +kernel⟩ ⟨by decide, by decide⟩ ⟨by show k + 1 + 0 ≤ 601024; omega, by show n + 6 + 0 ≤ 7293034; omega⟩ 0 rfl rfl rfl rfl (Nat.le_of_ble_eq_true rfl) (by decide +kernel) rfl rfl (fun hg2 => ?_)
  refine z_istore hX dL_law_447 (by decide) rfl ?_
  refine z_aload_n hX dL_law_449 4 rfl ?_
  obtain ⟨r3, hc3, hr⟩ := z_bind hr
  refine z_callV_i (As := []) (nA := 0) (st := []) hX (mX6_thrown hc3) dL_law_450 gL_law_X6_thrown rfl ⟨rfl, by decide, by decide, by decide +kernel⟩ ⟨by decide, by decide⟩ ⟨by show k + 1 + 0 + 0 ≤ 601024; omega, by show n + 6 + 0 + 0 ≤ 7293034; omega⟩ 0 rfl rfl rfl rfl (Nat.le_of_ble_eq_true rfl) (by decide +kernel) rfl rfl (fun hg3 => ?_)
  refine z_iload hX dL_law_453 1 rfl ?_
  refine z_icmp_eq (tgt := 460) hX dL_law_455 (by decide) rfl rfl hr (fun hr => ?_) (fun hr => z_none hr)
  refine z_iload hX dL_law_460 1 rfl ?_
  refine z_if_ne (tgt := 477) hX dL_law_462 (by decide) rfl hr (fun hr => ?_) (fun hr => ?_)
  · refine z_goto (tgt := 1287) hX dL_law_477 (by decide) ?_
    refine z_lv [2, 3, 4, 5, 6] rfl ?_
    obtain rfl := Option.some.inj hr
    exact kk ad _ _ (by show k + 1 + 0 + 0 ≤ k + 200; omega) (by show n + 6 + 0 + 0 ≤ n + 1001; omega) rfl rfl rfl
  · refine z_aload_n hX dL_law_465 3 rfl ?_
    refine z_iconst hX dL_law_466 ?_
    refine z_laload (a := 50) (N := 1) (i := 0) (b := 1) (B := some ()) (o := ()) hX dL_law_467 13 rfl (by decide) rfl (if_pos (by decide)) (fun _ => ?_)
    refine z_iload hX dL_law_468 0 rfl ?_
    refine z_i2l hX dL_law_470 ?_
    refine z_lcmp hX dL_law_471 ?_
    refine z_if_eq (tgt := 477) hX dL_law_472 (by decide) rfl hr (fun hr => ?_) (fun hr => z_none hr)
    refine z_goto (tgt := 1287) hX dL_law_477 (by decide) ?_
    refine z_lv [2, 3, 4, 5, 6] rfl ?_
    obtain rfl := Option.some.inj hr
    exact kk ad _ _ (by show k + 1 + 0 + 0 ≤ k + 200; omega) (by show n + 6 + 0 + 0 ≤ n + 1001; omega) rfl rfl rfl
def fL_c5 (p1 : Int) (p2 : Int) (h : HS) : Option HS := (fL_reason p1 p2 h).bind fun r1 => (fX6_reason p1 p2 r1.2).bind fun r2 => (fX6_thrown r2.2).bind fun r3 => if wr r3 = wr r1.1 then (if wr r1.1 = 0 then (if wr (zcmp (Int64.ofInt (r2.2 50 0)) (iI r2.1).toInt64) = 0 then some r2.2 else none) else some r2.2) else none
set_option maxRecDepth 100000 in
set_option maxHeartbeats 4000000 in
theorem wL_c5 {G : ZG} {l0 : Launch} {X : ZX} {ad : Nat → Nat} {h o : HS} {k n b L : Nat} {xs : Nat → Int32} {i : Int} (hst : l0.stackTraces = false) (hX : ZC G l0 cL_law wsL_law RL 9 room_1 X) (hc : zSc b L xs X) (hL : L ≤ 2560) (hi : 0 ≤ i ∧ i + 4 < (L : Int)) (hk : k + 200 ≤ 601024 ∧ n + 1001 ≤ 7293034) (hr : fL_c5 (zxs xs (i + 1)) (zxs xs (i + 2)) h = some o) (kk : ∀ (ad1 : Nat → Nat) (k1 n1 : Nat), k1 ≤ k + 200 → n1 ≤ n + 1001 → ad1 0 = ad 0 → ad1 30 = ad 30 → ad1 50 = ad 50 → ZW G X shL ad1 o k1 n1 [(4, .int (iI i)), (3, .ref (ad1 50)), (2, .ref (ad1 30)), (1, .ref (ad1 0)), (0, .ref b)] 1287 []) : ZW G X shL ad h k n [(4, .int (iI i)), (3, .ref (ad 50)), (2, .ref (ad 30)), (1, .ref (ad 0)), (0, .ref b)] 480 [] := by
  unfold fL_c5 at hr
  refine z_aload_n hX dL_law_480 3 rfl ?_
  refine z_aload_n hX dL_law_481 4 rfl ?_
  refine z_iload hX dL_law_482 0 rfl ?_
  refine z_iconst hX dL_law_484 ?_
  refine z_iadd hX dL_law_485 ?_
  refine z_sld hX hc dL_law_486 (by omega) hL ?_
  refine z_aload_n hX dL_law_487 4 rfl ?_
  refine z_iload hX dL_law_488 0 rfl ?_
  refine z_iconst hX dL_law_490 ?_
  refine z_iadd hX dL_law_491 ?_
  refine z_sld hX hc dL_law_492 (by omega) hL ?_
  refine z_aload_n hX dL_law_493 1 rfl ?_
  obtain ⟨r1, hc1, hr⟩ := z_bind hr
  refine z_callH (rest := sh_8) (shc := sh_h) (As := [.ref (ad 0), .int (iI (zxs xs (i + 1))), .int (iI (zxs xs (i + 2))), .ref (ad 50)]) (nA := 4) (st := []) hX (mL_reason hst hc1) dL_law_494 gL_law_L_reason rfl ⟨by decide, by decide, by decide +kernel⟩ ⟨by decide, by decide⟩ ⟨by show k + 1 ≤ 601024; omega, by show n + 6 ≤ 7293034; omega⟩ rfl rfl (Nat.le_of_ble_eq_true rfl) rfl (by decide) z_Drf (fun hf => z_keep8 (fun _ _ => rfl) (by decide) hf) rfl rfl (fun hf1 => ?_)
  refine z_istore hX dL_law_497 (by decide) rfl ?_
  refine z_aload_n hX dL_law_499 3 rfl ?_
  refine z_aload_n hX dL_law_500 5 rfl ?_
  refine z_iload hX dL_law_501 1 rfl ?_
  refine z_iconst hX dL_law_503 ?_
  refine z_iadd hX dL_law_504 ?_
  refine z_sld hX hc dL_law_505 (by omega) hL ?_
  refine z_aload_n hX dL_law_506 5 rfl ?_
  refine z_iload hX dL_law_507 1 rfl ?_
  refine z_iconst hX dL_law_509 ?_
  refine z_iadd hX dL_law_510 ?_
  refine z_sld hX hc dL_law_511 (by omega) hL ?_
  obtain ⟨r2, hc2, hr⟩ := z_bind hr
  refine z_callV_i (As := [.int (iI (zxs xs (i + 1))), .int (iI (zxs xs (i + 2)))]) (nA := 2) (st := []) hX (mX6_reason hc2) dL_law_512 gL_law_X6_reason rfl ⟨rfl, by decide, by decide, by decide +kernel⟩ ⟨by decide, by decide⟩ ⟨by show k + 1 + 0 ≤ 601024; omega, by show n + 6 + 0 ≤ 7293034; omega⟩ 0 rfl rfl rfl rfl (Nat.le_of_ble_eq_true rfl) (by decide +kernel) rfl rfl (fun hg2 => ?_)
  refine z_istore hX dL_law_515 (by decide) rfl ?_
  refine z_aload_n hX dL_law_517 4 rfl ?_
  obtain ⟨r3, hc3, hr⟩ := z_bind hr
  refine z_callV_i (As := []) (nA := 0) (st := []) hX (mX6_thrown hc3) dL_law_518 gL_law_X6_thrown rfl ⟨rfl, by decide, by decide, by decide +kernel⟩ ⟨by decide, by decide⟩ ⟨by show k + 1 + 0 + 0 ≤ 601024; omega, by show n + 6 + 0 + 0 ≤ 7293034; omega⟩ 0 rfl rfl rfl rfl (Nat.le_of_ble_eq_true rfl) (by decide +kernel) rfl rfl (fun hg3 => ?_)
  refine z_iload hX dL_law_521 1 rfl ?_
  refine z_icmp_eq (tgt := 528) hX dL_law_523 (by decide) rfl rfl hr (fun hr => ?_) (fun hr => z_none hr)
  refine z_iload hX dL_law_528 1 rfl ?_
  refine z_if_ne (tgt := 545) hX dL_law_530 (by decide) rfl hr (fun hr => ?_) (fun hr => ?_)
  · refine z_goto (tgt := 1287) hX dL_law_545 (by decide) ?_
    refine z_lv [2, 3, 4, 5, 6] rfl ?_
    obtain rfl := Option.some.inj hr
    exact kk ad _ _ (by show k + 1 + 0 + 0 ≤ k + 200; omega) (by show n + 6 + 0 + 0 ≤ n + 1001; omega) rfl rfl rfl
  · refine z_aload_n hX dL_law_533 3 rfl ?_
    refine z_iconst hX dL_law_534 ?_
    refine z_laload (a := 50) (N := 1) (i := 0) (b := 1) (B := some ()) (o := ()) hX dL_law_535 13 rfl (by decide) rfl (if_pos (by decide)) (fun _ => ?_)
    refine z_iload hX dL_law_536 0 rfl ?_
    refine z_i2l hX dL_law_538 ?_
    refine z_lcmp hX dL_law_539 ?_
    refine z_if_eq (tgt := 545) hX dL_law_540 (by decide) rfl hr (fun hr => ?_) (fun hr => z_none hr)
    refine z_goto (tgt := 1287) hX dL_law_545 (by decide) ?_
    refine z_lv [2, 3, 4, 5, 6] rfl ?_
    obtain rfl := Option.some.inj hr
    exact kk ad _ _ (by show k + 1 + 0 + 0 ≤ k + 200; omega) (by show n + 6 + 0 + 0 ≤ n + 1001; omega) rfl rfl rfl
def fL_c6 (p1 : Int) (p2 : Int) (h : HS) : Option HS := (fL_play p1 p2 h).bind fun r1 => (fX6_play_ p1 p2 r1.2).bind fun r2 => (fX6_thrown r2.2).bind fun r3 => if wr r3 = wr r1.1 then (if wr r1.1 = 0 then (if wr (zcmp (Int64.ofInt (r2.2 50 0)) (iI r2.1).toInt64) = 0 then some r2.2 else none) else some r2.2) else none
set_option maxRecDepth 100000 in
set_option maxHeartbeats 4000000 in
theorem wL_c6 {G : ZG} {l0 : Launch} {X : ZX} {ad : Nat → Nat} {h o : HS} {k n b L : Nat} {xs : Nat → Int32} {i : Int} (hst : l0.stackTraces = false) (hX : ZC G l0 cL_law wsL_law RL 9 room_1 X) (hc : zSc b L xs X) (hL : L ≤ 2560) (hi : 0 ≤ i ∧ i + 4 < (L : Int)) (hk : k + 200 ≤ 601024 ∧ n + 1001 ≤ 7293034) (hr : fL_c6 (zxs xs (i + 1)) (zxs xs (i + 2)) h = some o) (kk : ∀ (ad1 : Nat → Nat) (k1 n1 : Nat), k1 ≤ k + 200 → n1 ≤ n + 1001 → ad1 0 = ad 0 → ad1 30 = ad 30 → ad1 50 = ad 50 → ZW G X shL ad1 o k1 n1 [(4, .int (iI i)), (3, .ref (ad1 50)), (2, .ref (ad1 30)), (1, .ref (ad1 0)), (0, .ref b)] 1287 []) : ZW G X shL ad h k n [(4, .int (iI i)), (3, .ref (ad 50)), (2, .ref (ad 30)), (1, .ref (ad 0)), (0, .ref b)] 548 [] := by
  unfold fL_c6 at hr
  refine z_aload_n hX dL_law_548 3 rfl ?_
  refine z_aload_n hX dL_law_549 4 rfl ?_
  refine z_iload hX dL_law_550 0 rfl ?_
  refine z_iconst hX dL_law_552 ?_
  refine z_iadd hX dL_law_553 ?_
  refine z_sld hX hc dL_law_554 (by omega) hL ?_
  refine z_aload_n hX dL_law_555 4 rfl ?_
  refine z_iload hX dL_law_556 0 rfl ?_
  refine z_iconst hX dL_law_558 ?_
  refine z_iadd hX dL_law_559 ?_
  refine z_sld hX hc dL_law_560 (by omega) hL ?_
  refine z_aload_n hX dL_law_561 1 rfl ?_
  obtain ⟨r1, hc1, hr⟩ := z_bind hr
  refine z_callH (rest := sh_8) (shc := sh_h) (As := [.ref (ad 0), .int (iI (zxs xs (i + 1))), .int (iI (zxs xs (i + 2))), .ref (ad 50)]) (nA := 4) (st := []) hX (mL_play hst hc1) dL_law_562 gL_law_L_play rfl ⟨by decide, by decide, by decide +kernel⟩ ⟨by decide, by decide⟩ ⟨by show k + 1 ≤ 601024; omega, by show n + 6 ≤ 7293034; omega⟩ rfl rfl (Nat.le_of_ble_eq_true rfl) rfl (by decide) z_Drf (fun hf => z_keep8 (fun _ _ => rfl) (by decide) hf) rfl rfl (fun hf1 => ?_)
  refine z_istore hX dL_law_565 (by decide) rfl ?_
  refine z_aload_n hX dL_law_567 3 rfl ?_
  refine z_aload_n hX dL_law_568 5 rfl ?_
  refine z_iload hX dL_law_569 1 rfl ?_
  refine z_iconst hX dL_law_571 ?_
  refine z_iadd hX dL_law_572 ?_
  refine z_sld hX hc dL_law_573 (by omega) hL ?_
  refine z_aload_n hX dL_law_574 5 rfl ?_
  refine z_iload hX dL_law_575 1 rfl ?_
  refine z_iconst hX dL_law_577 ?_
  refine z_iadd hX dL_law_578 ?_
  refine z_sld hX hc dL_law_579 (by omega) hL ?_
  obtain ⟨r2, hc2, hr⟩ := z_bind hr
  refine z_callV_i (As := [.int (iI (zxs xs (i + 1))), .int (iI (zxs xs (i + 2)))]) (nA := 2) (st := []) hX (mX6_play_ hc2) dL_law_580 gL_law_X6_play_ rfl ⟨rfl, by decide, by decide, by decide +kernel⟩ ⟨by decide, by decide⟩ ⟨by show k + 1 + 1 ≤ 601024; omega, by show n + 6 + 5 ≤ 7293034; omega⟩ 0 rfl rfl rfl rfl (Nat.le_of_ble_eq_true rfl) (by decide +kernel) rfl rfl (fun hg2 => ?_)
  refine z_istore hX dL_law_583 (by decide) rfl ?_
  refine z_aload_n hX dL_law_585 4 rfl ?_
  obtain ⟨r3, hc3, hr⟩ := z_bind hr
  refine z_callV_i (As := []) (nA := 0) (st := []) hX (mX6_thrown hc3) dL_law_586 gL_law_X6_thrown rfl ⟨rfl, by decide, by decide, by decide +kernel⟩ ⟨by decide, by decide⟩ ⟨by show k + 1 + 1 + 0 ≤ 601024; omega, by show n + 6 + 5 + 0 ≤ 7293034; omega⟩ 0 rfl rfl rfl rfl (Nat.le_of_ble_eq_true rfl) (by decide +kernel) rfl rfl (fun hg3 => ?_)
  refine z_iload hX dL_law_589 1 rfl ?_
  refine z_icmp_eq (tgt := 596) hX dL_law_591 (by decide) rfl rfl hr (fun hr => ?_) (fun hr => z_none hr)
  refine z_iload hX dL_law_596 1 rfl ?_
  refine z_if_ne (tgt := 613) hX dL_law_598 (by decide) rfl hr (fun hr => ?_) (fun hr => ?_)
  · refine z_goto (tgt := 1287) hX dL_law_613 (by decide) ?_
    refine z_lv [2, 3, 4, 5, 6] rfl ?_
    obtain rfl := Option.some.inj hr
    exact kk ad _ _ (by show k + 1 + 1 + 0 ≤ k + 200; omega) (by show n + 6 + 5 + 0 ≤ n + 1001; omega) rfl rfl rfl
  · refine z_aload_n hX dL_law_601 3 rfl ?_
    refine z_iconst hX dL_law_602 ?_
    refine z_laload (a := 50) (N := 1) (i := 0) (b := 1) (B := some ()) (o := ()) hX dL_law_603 13 rfl (by decide) rfl (if_pos (by decide)) (fun _ => ?_)
    refine z_iload hX dL_law_604 0 rfl ?_
    refine z_i2l hX dL_law_606 ?_
    refine z_lcmp hX dL_law_607 ?_
    refine z_if_eq (tgt := 613) hX dL_law_608 (by decide) rfl hr (fun hr => ?_) (fun hr => z_none hr)
    refine z_goto (tgt := 1287) hX dL_law_613 (by decide) ?_
    refine z_lv [2, 3, 4, 5, 6] rfl ?_
    obtain rfl := Option.some.inj hr
    exact kk ad _ _ (by show k + 1 + 1 + 0 ≤ k + 200; omega) (by show n + 6 + 5 + 0 ≤ n + 1001; omega) rfl rfl rfl
def fL_c7 (p1 : Int) (p2 : Int) (p3 : Int) (p4 : Int) (h : HS) : Option HS := (fL_feed p1 p2 p3 p4 h).bind fun r1 => (fX6_feed p1 p2 p3 p4 r1.2).bind fun r2 => (fX6_thrown r2.2).bind fun r3 => if wr r3 = wr r1.1 then (if wr r1.1 = 0 then (if wr (zcmp (Int64.ofInt (r2.2 50 0)) (iI r2.1).toInt64) = 0 then some r2.2 else none) else some r2.2) else none
set_option maxRecDepth 100000 in
set_option maxHeartbeats 4000000 in
theorem wL_c7 {G : ZG} {l0 : Launch} {X : ZX} {ad : Nat → Nat} {h o : HS} {k n b L : Nat} {xs : Nat → Int32} {i : Int} (hst : l0.stackTraces = false) (hX : ZC G l0 cL_law wsL_law RL 9 room_1 X) (hc : zSc b L xs X) (hL : L ≤ 2560) (hi : 0 ≤ i ∧ i + 4 < (L : Int)) (hk : k + 200 ≤ 601024 ∧ n + 1001 ≤ 7293034) (hr : fL_c7 (zxs xs (i + 1)) (zxs xs (i + 2)) (zxs xs (i + 3)) (zxs xs (i + 4)) h = some o) (kk : ∀ (ad1 : Nat → Nat) (k1 n1 : Nat), k1 ≤ k + 200 → n1 ≤ n + 1001 → ad1 0 = ad 0 → ad1 30 = ad 30 → ad1 50 = ad 50 → ZW G X shL ad1 o k1 n1 [(4, .int (iI i)), (3, .ref (ad1 50)), (2, .ref (ad1 30)), (1, .ref (ad1 0)), (0, .ref b)] 1287 []) : ZW G X shL ad h k n [(4, .int (iI i)), (3, .ref (ad 50)), (2, .ref (ad 30)), (1, .ref (ad 0)), (0, .ref b)] 616 [] := by
  unfold fL_c7 at hr
  refine z_aload_n hX dL_law_616 3 rfl ?_
  refine z_aload_n hX dL_law_617 4 rfl ?_
  refine z_iload hX dL_law_618 0 rfl ?_
  refine z_iconst hX dL_law_620 ?_
  refine z_iadd hX dL_law_621 ?_
  refine z_sld hX hc dL_law_622 (by omega) hL ?_
  refine z_aload_n hX dL_law_623 4 rfl ?_
  refine z_iload hX dL_law_624 0 rfl ?_
  refine z_iconst hX dL_law_626 ?_
  refine z_iadd hX dL_law_627 ?_
  refine z_sld hX hc dL_law_628 (by omega) hL ?_
  refine z_aload_n hX dL_law_629 4 rfl ?_
  refine z_iload hX dL_law_630 0 rfl ?_
  refine z_iconst hX dL_law_632 ?_
  refine z_iadd hX dL_law_633 ?_
  refine z_sld hX hc dL_law_634 (by omega) hL ?_
  refine z_aload_n hX dL_law_635 4 rfl ?_
  refine z_iload hX dL_law_636 0 rfl ?_
  refine z_iconst hX dL_law_638 ?_
  refine z_iadd hX dL_law_639 ?_
  refine z_sld hX hc dL_law_640 (by omega) hL ?_
  refine z_aload_n hX dL_law_641 1 rfl ?_
  obtain ⟨r1, hc1, hr⟩ := z_bind hr
  refine z_callH (rest := sh_8) (shc := sh_h) (As := [.ref (ad 0), .int (iI (zxs xs (i + 1))), .int (iI (zxs xs (i + 2))), .int (iI (zxs xs (i + 3))), .int (iI (zxs xs (i + 4))), .ref (ad 50)]) (nA := 6) (st := []) hX (mL_feed hst hc1) dL_law_642 gL_law_L_feed rfl ⟨by decide, by decide, by decide +kernel⟩ ⟨by decide, by decide⟩ ⟨by show k + 1 ≤ 601024; omega, by show n + 6 ≤ 7293034; omega⟩ rfl rfl (Nat.le_of_ble_eq_true rfl) rfl (by decide) z_Drf (fun hf => z_keep8 (fun _ _ => rfl) (by decide) hf) rfl rfl (fun hf1 => ?_)
  refine z_istore hX dL_law_645 (by decide) rfl ?_
  refine z_aload_n hX dL_law_647 3 rfl ?_
  refine z_aload_n hX dL_law_648 5 rfl ?_
  refine z_iload hX dL_law_649 1 rfl ?_
  refine z_iconst hX dL_law_651 ?_
  refine z_iadd hX dL_law_652 ?_
  refine z_sld hX hc dL_law_653 (by omega) hL ?_
  refine z_aload_n hX dL_law_654 5 rfl ?_
  refine z_iload hX dL_law_655 1 rfl ?_
  refine z_iconst hX dL_law_657 ?_
  refine z_iadd hX dL_law_658 ?_
  refine z_sld hX hc dL_law_659 (by omega) hL ?_
  refine z_aload_n hX dL_law_660 5 rfl ?_
  refine z_iload hX dL_law_661 1 rfl ?_
  refine z_iconst hX dL_law_663 ?_
  refine z_iadd hX dL_law_664 ?_
  refine z_sld hX hc dL_law_665 (by omega) hL ?_
  refine z_aload_n hX dL_law_666 5 rfl ?_
  refine z_iload hX dL_law_667 1 rfl ?_
  refine z_iconst hX dL_law_669 ?_
  refine z_iadd hX dL_law_670 ?_
  refine z_sld hX hc dL_law_671 (by omega) hL ?_
  obtain ⟨r2, hc2, hr⟩ := z_bind hr
  refine z_callV_i (As := [.int (iI (zxs xs (i + 1))), .int (iI (zxs xs (i + 2))), .int (iI (zxs xs (i + 3))), .int (iI (zxs xs (i + 4)))]) (nA := 4) (st := []) hX (mX6_feed hc2) dL_law_672 gL_law_X6_feed rfl ⟨rfl, by decide, by decide, by decide +kernel⟩ ⟨by decide, by decide⟩ ⟨by show k + 1 + 1 ≤ 601024; omega, by show n + 6 + 3 ≤ 7293034; omega⟩ 0 rfl rfl rfl rfl (Nat.le_of_ble_eq_true rfl) (by decide +kernel) rfl rfl (fun hg2 => ?_)
  refine z_istore hX dL_law_675 (by decide) rfl ?_
  refine z_aload_n hX dL_law_677 4 rfl ?_
  obtain ⟨r3, hc3, hr⟩ := z_bind hr
  refine z_callV_i (As := []) (nA := 0) (st := []) hX (mX6_thrown hc3) dL_law_678 gL_law_X6_thrown rfl ⟨rfl, by decide, by decide, by decide +kernel⟩ ⟨by decide, by decide⟩ ⟨by show k + 1 + 1 + 0 ≤ 601024; omega, by show n + 6 + 3 + 0 ≤ 7293034; omega⟩ 0 rfl rfl rfl rfl (Nat.le_of_ble_eq_true rfl) (by decide +kernel) rfl rfl (fun hg3 => ?_)
  refine z_iload hX dL_law_681 1 rfl ?_
  refine z_icmp_eq (tgt := 688) hX dL_law_683 (by decide) rfl rfl hr (fun hr => ?_) (fun hr => z_none hr)
  refine z_iload hX dL_law_688 1 rfl ?_
  refine z_if_ne (tgt := 705) hX dL_law_690 (by decide) rfl hr (fun hr => ?_) (fun hr => ?_)
  · refine z_goto (tgt := 1287) hX dL_law_705 (by decide) ?_
    refine z_lv [2, 3, 4, 5, 6] rfl ?_
    obtain rfl := Option.some.inj hr
    exact kk ad _ _ (by show k + 1 + 1 + 0 ≤ k + 200; omega) (by show n + 6 + 3 + 0 ≤ n + 1001; omega) rfl rfl rfl
  · refine z_aload_n hX dL_law_693 3 rfl ?_
    refine z_iconst hX dL_law_694 ?_
    refine z_laload (a := 50) (N := 1) (i := 0) (b := 1) (B := some ()) (o := ()) hX dL_law_695 13 rfl (by decide) rfl (if_pos (by decide)) (fun _ => ?_)
    refine z_iload hX dL_law_696 0 rfl ?_
    refine z_i2l hX dL_law_698 ?_
    refine z_lcmp hX dL_law_699 ?_
    refine z_if_eq (tgt := 705) hX dL_law_700 (by decide) rfl hr (fun hr => ?_) (fun hr => z_none hr)
    refine z_goto (tgt := 1287) hX dL_law_705 (by decide) ?_
    refine z_lv [2, 3, 4, 5, 6] rfl ?_
    obtain rfl := Option.some.inj hr
    exact kk ad _ _ (by show k + 1 + 1 + 0 ≤ k + 200; omega) (by show n + 6 + 3 + 0 ≤ n + 1001; omega) rfl rfl rfl
def fL_c8 (h : HS) : Option HS := (fX5_empty h).bind fun r1 => (fX6_empty r1.2).bind fun r2 => if wr r1.1 = wr r2.1 then some r2.2 else none
set_option maxRecDepth 100000 in
set_option maxHeartbeats 4000000 in
theorem wL_c8 {G : ZG} {l0 : Launch} {X : ZX} {ad : Nat → Nat} {h o : HS} {k n b L : Nat} {xs : Nat → Int32} {i : Int} (hst : l0.stackTraces = false) (hX : ZC G l0 cL_law wsL_law RL 9 room_1 X) (hc : zSc b L xs X) (hL : L ≤ 2560) (hi : 0 ≤ i ∧ i + 4 < (L : Int)) (hk : k + 200 ≤ 601024 ∧ n + 1001 ≤ 7293034) (hr : fL_c8 h = some o) (kk : ∀ (ad1 : Nat → Nat) (k1 n1 : Nat), k1 ≤ k + 200 → n1 ≤ n + 1001 → ad1 0 = ad 0 → ad1 30 = ad 30 → ad1 50 = ad 50 → ZW G X shL ad1 o k1 n1 [(4, .int (iI i)), (3, .ref (ad1 50)), (2, .ref (ad1 30)), (1, .ref (ad1 0)), (0, .ref b)] 1287 []) : ZW G X shL ad h k n [(4, .int (iI i)), (3, .ref (ad 50)), (2, .ref (ad 30)), (1, .ref (ad 0)), (0, .ref b)] 708 [] := by
  unfold fL_c8 at hr
  refine z_aload_n hX dL_law_708 3 rfl ?_
  obtain ⟨r1, hc1, hr⟩ := z_bind hr
  refine z_callV_i (As := []) (nA := 0) (st := []) hX (mX5_empty hc1) dL_law_709 gL_law_X5_empty rfl ⟨rfl, by decide, by decide, by decide +kernel⟩ ⟨by decide, by decide⟩ ⟨by show k + 0 ≤ 601024; omega, by show n + 0 ≤ 7293034; omega⟩ 14 rfl rfl rfl rfl (Nat.le_of_ble_eq_true rfl) (by decide +kernel) rfl rfl (fun hg1 => ?_)
  refine z_aload_n hX dL_law_712 2 rfl ?_
  obtain ⟨r2, hc2, hr⟩ := z_bind hr
  refine z_callV_i (As := []) (nA := 0) (st := [.int (iI r1.1)]) hX (mX6_empty hc2) dL_law_713 gL_law_X6_empty rfl ⟨rfl, by decide, by decide, by decide +kernel⟩ ⟨by decide, by decide⟩ ⟨by show k + 0 + 0 ≤ 601024; omega, by show n + 0 + 0 ≤ 7293034; omega⟩ 0 rfl rfl rfl rfl (Nat.le_of_ble_eq_true rfl) (by decide +kernel) rfl rfl (fun hg2 => ?_)
  refine z_icmp_eq (tgt := 1287) hX dL_law_716 (by decide) rfl rfl hr (fun hr => ?_) (fun hr => z_none hr)
  obtain rfl := Option.some.inj hr
  exact kk ad _ _ (by show k + 0 + 0 ≤ k + 200; omega) (by show n + 0 + 0 ≤ n + 1001; omega) rfl rfl rfl
def fL_c9 (h : HS) : Option HS := (fX5_read h).bind fun r1 => (fX6_read r1.2).bind fun r2 => if wr r1.1 = wr r2.1 then some r2.2 else none
set_option maxRecDepth 100000 in
set_option maxHeartbeats 4000000 in
theorem wL_c9 {G : ZG} {l0 : Launch} {X : ZX} {ad : Nat → Nat} {h o : HS} {k n b L : Nat} {xs : Nat → Int32} {i : Int} (hst : l0.stackTraces = false) (hX : ZC G l0 cL_law wsL_law RL 9 room_1 X) (hc : zSc b L xs X) (hL : L ≤ 2560) (hi : 0 ≤ i ∧ i + 4 < (L : Int)) (hk : k + 200 ≤ 601024 ∧ n + 1001 ≤ 7293034) (hr : fL_c9 h = some o) (kk : ∀ (ad1 : Nat → Nat) (k1 n1 : Nat), k1 ≤ k + 200 → n1 ≤ n + 1001 → ad1 0 = ad 0 → ad1 30 = ad 30 → ad1 50 = ad 50 → ZW G X shL ad1 o k1 n1 [(4, .int (iI i)), (3, .ref (ad1 50)), (2, .ref (ad1 30)), (1, .ref (ad1 0)), (0, .ref b)] 1287 []) : ZW G X shL ad h k n [(4, .int (iI i)), (3, .ref (ad 50)), (2, .ref (ad 30)), (1, .ref (ad 0)), (0, .ref b)] 721 [] := by
  unfold fL_c9 at hr
  refine z_aload_n hX dL_law_721 3 rfl ?_
  obtain ⟨r1, hc1, hr⟩ := z_bind hr
  refine z_callV_i (As := []) (nA := 0) (st := []) hX (mX5_read hc1) dL_law_722 gL_law_X5_read rfl ⟨rfl, by decide, by decide, by decide +kernel⟩ ⟨by decide, by decide⟩ ⟨by show k + 0 ≤ 601024; omega, by show n + 0 ≤ 7293034; omega⟩ 14 rfl rfl rfl rfl (Nat.le_of_ble_eq_true rfl) (by decide +kernel) rfl rfl (fun hg1 => ?_)
  refine z_aload_n hX dL_law_725 2 rfl ?_
  obtain ⟨r2, hc2, hr⟩ := z_bind hr
  refine z_callV_i (As := []) (nA := 0) (st := [.int (iI r1.1)]) hX (mX6_read hc2) dL_law_726 gL_law_X6_read rfl ⟨rfl, by decide, by decide, by decide +kernel⟩ ⟨by decide, by decide⟩ ⟨by show k + 0 + 0 ≤ 601024; omega, by show n + 0 + 0 ≤ 7293034; omega⟩ 0 rfl rfl rfl rfl (Nat.le_of_ble_eq_true rfl) (by decide +kernel) rfl rfl (fun hg2 => ?_)
  refine z_icmp_eq (tgt := 1287) hX dL_law_729 (by decide) rfl rfl hr (fun hr => ?_) (fun hr => z_none hr)
  obtain rfl := Option.some.inj hr
  exact kk ad _ _ (by show k + 0 + 0 ≤ k + 200; omega) (by show n + 0 + 0 ≤ n + 1001; omega) rfl rfl rfl
def fL_c10 (p1 : Int) (h : HS) : Option HS := (fL_found p1 h).bind fun r1 => (fX6_found p1 r1.2).bind fun r2 => (fX6_thrown r2.2).bind fun r3 => if wr r3 = wr r1.1 then (if wr r1.1 = 0 then (if wr (zcmp (Int64.ofInt (r2.2 50 0)) (iI r2.1).toInt64) = 0 then some r2.2 else none) else some r2.2) else none
set_option maxRecDepth 100000 in
set_option maxHeartbeats 4000000 in
theorem wL_c10 {G : ZG} {l0 : Launch} {X : ZX} {ad : Nat → Nat} {h o : HS} {k n b L : Nat} {xs : Nat → Int32} {i : Int} (hst : l0.stackTraces = false) (hX : ZC G l0 cL_law wsL_law RL 9 room_1 X) (hc : zSc b L xs X) (hL : L ≤ 2560) (hi : 0 ≤ i ∧ i + 4 < (L : Int)) (hk : k + 200 ≤ 601024 ∧ n + 1001 ≤ 7293034) (hr : fL_c10 (zxs xs (i + 1)) h = some o) (kk : ∀ (ad1 : Nat → Nat) (k1 n1 : Nat), k1 ≤ k + 200 → n1 ≤ n + 1001 → ad1 0 = ad 0 → ad1 30 = ad 30 → ad1 50 = ad 50 → ZW G X shL ad1 o k1 n1 [(4, .int (iI i)), (3, .ref (ad1 50)), (2, .ref (ad1 30)), (1, .ref (ad1 0)), (0, .ref b)] 1287 []) : ZW G X shL ad h k n [(4, .int (iI i)), (3, .ref (ad 50)), (2, .ref (ad 30)), (1, .ref (ad 0)), (0, .ref b)] 734 [] := by
  unfold fL_c10 at hr
  refine z_aload_n hX dL_law_734 3 rfl ?_
  refine z_aload_n hX dL_law_735 4 rfl ?_
  refine z_iload hX dL_law_736 0 rfl ?_
  refine z_iconst hX dL_law_738 ?_
  refine z_iadd hX dL_law_739 ?_
  refine z_sld hX hc dL_law_740 (by omega) hL ?_
  refine z_aload_n hX dL_law_741 1 rfl ?_
  obtain ⟨r1, hc1, hr⟩ := z_bind hr
  refine z_callH (rest := sh_8) (shc := sh_h) (As := [.ref (ad 0), .int (iI (zxs xs (i + 1))), .ref (ad 50)]) (nA := 3) (st := []) hX (mL_found hst hc1) dL_law_742 gL_law_L_found rfl ⟨by decide, by decide, by decide +kernel⟩ ⟨by decide, by decide⟩ ⟨by show k + 1 ≤ 601024; omega, by show n + 6 ≤ 7293034; omega⟩ rfl rfl (Nat.le_of_ble_eq_true rfl) rfl (by decide) z_Drf (fun hf => z_keep8 (fun _ _ => rfl) (by decide) hf) rfl rfl (fun hf1 => ?_)
  refine z_istore hX dL_law_745 (by decide) rfl ?_
  refine z_aload_n hX dL_law_747 3 rfl ?_
  refine z_aload_n hX dL_law_748 5 rfl ?_
  refine z_iload hX dL_law_749 1 rfl ?_
  refine z_iconst hX dL_law_751 ?_
  refine z_iadd hX dL_law_752 ?_
  refine z_sld hX hc dL_law_753 (by omega) hL ?_
  obtain ⟨r2, hc2, hr⟩ := z_bind hr
  refine z_callV_i (As := [.int (iI (zxs xs (i + 1)))]) (nA := 1) (st := []) hX (mX6_found hc2) dL_law_754 gL_law_X6_found rfl ⟨rfl, by decide, by decide, by decide +kernel⟩ ⟨by decide, by decide⟩ ⟨by show k + 1 + 0 ≤ 601024; omega, by show n + 6 + 0 ≤ 7293034; omega⟩ 0 rfl rfl rfl rfl (Nat.le_of_ble_eq_true rfl) (by decide +kernel) rfl rfl (fun hg2 => ?_)
  refine z_istore hX dL_law_757 (by decide) rfl ?_
  refine z_aload_n hX dL_law_759 4 rfl ?_
  obtain ⟨r3, hc3, hr⟩ := z_bind hr
  refine z_callV_i (As := []) (nA := 0) (st := []) hX (mX6_thrown hc3) dL_law_760 gL_law_X6_thrown rfl ⟨rfl, by decide, by decide, by decide +kernel⟩ ⟨by decide, by decide⟩ ⟨by show k + 1 + 0 + 0 ≤ 601024; omega, by show n + 6 + 0 + 0 ≤ 7293034; omega⟩ 0 rfl rfl rfl rfl (Nat.le_of_ble_eq_true rfl) (by decide +kernel) rfl rfl (fun hg3 => ?_)
  refine z_iload hX dL_law_763 1 rfl ?_
  refine z_icmp_eq (tgt := 770) hX dL_law_765 (by decide) rfl rfl hr (fun hr => ?_) (fun hr => z_none hr)
  refine z_iload hX dL_law_770 1 rfl ?_
  refine z_if_ne (tgt := 787) hX dL_law_772 (by decide) rfl hr (fun hr => ?_) (fun hr => ?_)
  · refine z_goto (tgt := 1287) hX dL_law_787 (by decide) ?_
    refine z_lv [2, 3, 4, 5, 6] rfl ?_
    obtain rfl := Option.some.inj hr
    exact kk ad _ _ (by show k + 1 + 0 + 0 ≤ k + 200; omega) (by show n + 6 + 0 + 0 ≤ n + 1001; omega) rfl rfl rfl
  · refine z_aload_n hX dL_law_775 3 rfl ?_
    refine z_iconst hX dL_law_776 ?_
    refine z_laload (a := 50) (N := 1) (i := 0) (b := 1) (B := some ()) (o := ()) hX dL_law_777 13 rfl (by decide) rfl (if_pos (by decide)) (fun _ => ?_)
    refine z_iload hX dL_law_778 0 rfl ?_
    refine z_i2l hX dL_law_780 ?_
    refine z_lcmp hX dL_law_781 ?_
    refine z_if_eq (tgt := 787) hX dL_law_782 (by decide) rfl hr (fun hr => ?_) (fun hr => z_none hr)
    refine z_goto (tgt := 1287) hX dL_law_787 (by decide) ?_
    refine z_lv [2, 3, 4, 5, 6] rfl ?_
    obtain rfl := Option.some.inj hr
    exact kk ad _ _ (by show k + 1 + 0 + 0 ≤ k + 200; omega) (by show n + 6 + 0 + 0 ≤ n + 1001; omega) rfl rfl rfl
def fL_c11 (p1 : Int) (p2 : Int) (h : HS) : Option HS := (fL_write p1 p2 h).bind fun r1 => (fX6_write p1 p2 r1.2).bind fun r2 => (fX6_thrown r2.2).bind fun r3 => if wr r3 = wr r1.1 then (if wr r1.1 = 0 then (if wr (zcmp (Int64.ofInt (r2.2 50 0)) (iI r2.1).toInt64) = 0 then some r2.2 else none) else some r2.2) else none
set_option maxRecDepth 100000 in
set_option maxHeartbeats 4000000 in
theorem wL_c11 {G : ZG} {l0 : Launch} {X : ZX} {ad : Nat → Nat} {h o : HS} {k n b L : Nat} {xs : Nat → Int32} {i : Int} (hst : l0.stackTraces = false) (hX : ZC G l0 cL_law wsL_law RL 9 room_1 X) (hc : zSc b L xs X) (hL : L ≤ 2560) (hi : 0 ≤ i ∧ i + 4 < (L : Int)) (hk : k + 200 ≤ 601024 ∧ n + 1001 ≤ 7293034) (hr : fL_c11 (zxs xs (i + 1)) (zxs xs (i + 2)) h = some o) (kk : ∀ (ad1 : Nat → Nat) (k1 n1 : Nat), k1 ≤ k + 200 → n1 ≤ n + 1001 → ad1 0 = ad 0 → ad1 30 = ad 30 → ad1 50 = ad 50 → ZW G X shL ad1 o k1 n1 [(4, .int (iI i)), (3, .ref (ad1 50)), (2, .ref (ad1 30)), (1, .ref (ad1 0)), (0, .ref b)] 1287 []) : ZW G X shL ad h k n [(4, .int (iI i)), (3, .ref (ad 50)), (2, .ref (ad 30)), (1, .ref (ad 0)), (0, .ref b)] 790 [] := by
  unfold fL_c11 at hr
  refine z_aload_n hX dL_law_790 3 rfl ?_
  refine z_aload_n hX dL_law_791 4 rfl ?_
  refine z_iload hX dL_law_792 0 rfl ?_
  refine z_iconst hX dL_law_794 ?_
  refine z_iadd hX dL_law_795 ?_
  refine z_sld hX hc dL_law_796 (by omega) hL ?_
  refine z_aload_n hX dL_law_797 4 rfl ?_
  refine z_iload hX dL_law_798 0 rfl ?_
  refine z_iconst hX dL_law_800 ?_
  refine z_iadd hX dL_law_801 ?_
  refine z_sld hX hc dL_law_802 (by omega) hL ?_
  refine z_aload_n hX dL_law_803 1 rfl ?_
  obtain ⟨r1, hc1, hr⟩ := z_bind hr
  refine z_callH (rest := sh_8) (shc := sh_h) (As := [.ref (ad 0), .int (iI (zxs xs (i + 1))), .int (iI (zxs xs (i + 2))), .ref (ad 50)]) (nA := 4) (st := []) hX (mL_write hst hc1) dL_law_804 gL_law_L_write rfl ⟨by decide, by decide, by decide +kernel⟩ ⟨by decide, by decide⟩ ⟨by show k + 1 ≤ 601024; omega, by show n + 6 ≤ 7293034; omega⟩ rfl rfl (Nat.le_of_ble_eq_true rfl) rfl (by decide) z_Drf (fun hf => z_keep8 (fun _ _ => rfl) (by decide) hf) rfl rfl (fun hf1 => ?_)
  refine z_istore hX dL_law_807 (by decide) rfl ?_
  refine z_aload_n hX dL_law_809 3 rfl ?_
  refine z_aload_n hX dL_law_810 5 rfl ?_
  refine z_iload hX dL_law_811 1 rfl ?_
  refine z_iconst hX dL_law_813 ?_
  refine z_iadd hX dL_law_814 ?_
  refine z_sld hX hc dL_law_815 (by omega) hL ?_
  refine z_aload_n hX dL_law_816 5 rfl ?_
  refine z_iload hX dL_law_817 1 rfl ?_
  refine z_iconst hX dL_law_819 ?_
  refine z_iadd hX dL_law_820 ?_
  refine z_sld hX hc dL_law_821 (by omega) hL ?_
  obtain ⟨r2, hc2, hr⟩ := z_bind hr
  refine z_callV_i (As := [.int (iI (zxs xs (i + 1))), .int (iI (zxs xs (i + 2)))]) (nA := 2) (st := []) hX (mX6_write hc2) dL_law_822 gL_law_X6_write rfl ⟨rfl, by decide, by decide, by decide +kernel⟩ ⟨by decide, by decide⟩ ⟨by show k + 1 + 0 ≤ 601024; omega, by show n + 6 + 0 ≤ 7293034; omega⟩ 0 rfl rfl rfl rfl (Nat.le_of_ble_eq_true rfl) (by decide +kernel) rfl rfl (fun hg2 => ?_)
  refine z_istore hX dL_law_825 (by decide) rfl ?_
  refine z_aload_n hX dL_law_827 4 rfl ?_
  obtain ⟨r3, hc3, hr⟩ := z_bind hr
  refine z_callV_i (As := []) (nA := 0) (st := []) hX (mX6_thrown hc3) dL_law_828 gL_law_X6_thrown rfl ⟨rfl, by decide, by decide, by decide +kernel⟩ ⟨by decide, by decide⟩ ⟨by show k + 1 + 0 + 0 ≤ 601024; omega, by show n + 6 + 0 + 0 ≤ 7293034; omega⟩ 0 rfl rfl rfl rfl (Nat.le_of_ble_eq_true rfl) (by decide +kernel) rfl rfl (fun hg3 => ?_)
  refine z_iload hX dL_law_831 1 rfl ?_
  refine z_icmp_eq (tgt := 838) hX dL_law_833 (by decide) rfl rfl hr (fun hr => ?_) (fun hr => z_none hr)
  refine z_iload hX dL_law_838 1 rfl ?_
  refine z_if_ne (tgt := 855) hX dL_law_840 (by decide) rfl hr (fun hr => ?_) (fun hr => ?_)
  · refine z_goto (tgt := 1287) hX dL_law_855 (by decide) ?_
    refine z_lv [2, 3, 4, 5, 6] rfl ?_
    obtain rfl := Option.some.inj hr
    exact kk ad _ _ (by show k + 1 + 0 + 0 ≤ k + 200; omega) (by show n + 6 + 0 + 0 ≤ n + 1001; omega) rfl rfl rfl
  · refine z_aload_n hX dL_law_843 3 rfl ?_
    refine z_iconst hX dL_law_844 ?_
    refine z_laload (a := 50) (N := 1) (i := 0) (b := 1) (B := some ()) (o := ()) hX dL_law_845 13 rfl (by decide) rfl (if_pos (by decide)) (fun _ => ?_)
    refine z_iload hX dL_law_846 0 rfl ?_
    refine z_i2l hX dL_law_848 ?_
    refine z_lcmp hX dL_law_849 ?_
    refine z_if_eq (tgt := 855) hX dL_law_850 (by decide) rfl hr (fun hr => ?_) (fun hr => z_none hr)
    refine z_goto (tgt := 1287) hX dL_law_855 (by decide) ?_
    refine z_lv [2, 3, 4, 5, 6] rfl ?_
    obtain rfl := Option.some.inj hr
    exact kk ad _ _ (by show k + 1 + 0 + 0 ≤ k + 200; omega) (by show n + 6 + 0 + 0 ≤ n + 1001; omega) rfl rfl rfl
def fL_c12 (p1 : Int) (h : HS) : Option HS := (fL_byteAt p1 h).bind fun r1 => (fX6_byteAt p1 r1.2).bind fun r2 => (fX6_thrown r2.2).bind fun r3 => if wr r3 = wr r1.1 then (if wr r1.1 = 0 then (if wr (zcmp (Int64.ofInt (r2.2 50 0)) (iI r2.1).toInt64) = 0 then some r2.2 else none) else some r2.2) else none
set_option maxRecDepth 100000 in
set_option maxHeartbeats 4000000 in
theorem wL_c12 {G : ZG} {l0 : Launch} {X : ZX} {ad : Nat → Nat} {h o : HS} {k n b L : Nat} {xs : Nat → Int32} {i : Int} (hst : l0.stackTraces = false) (hX : ZC G l0 cL_law wsL_law RL 9 room_1 X) (hc : zSc b L xs X) (hL : L ≤ 2560) (hi : 0 ≤ i ∧ i + 4 < (L : Int)) (hk : k + 200 ≤ 601024 ∧ n + 1001 ≤ 7293034) (hr : fL_c12 (zxs xs (i + 1)) h = some o) (kk : ∀ (ad1 : Nat → Nat) (k1 n1 : Nat), k1 ≤ k + 200 → n1 ≤ n + 1001 → ad1 0 = ad 0 → ad1 30 = ad 30 → ad1 50 = ad 50 → ZW G X shL ad1 o k1 n1 [(4, .int (iI i)), (3, .ref (ad1 50)), (2, .ref (ad1 30)), (1, .ref (ad1 0)), (0, .ref b)] 1287 []) : ZW G X shL ad h k n [(4, .int (iI i)), (3, .ref (ad 50)), (2, .ref (ad 30)), (1, .ref (ad 0)), (0, .ref b)] 858 [] := by
  unfold fL_c12 at hr
  refine z_aload_n hX dL_law_858 3 rfl ?_
  refine z_aload_n hX dL_law_859 4 rfl ?_
  refine z_iload hX dL_law_860 0 rfl ?_
  refine z_iconst hX dL_law_862 ?_
  refine z_iadd hX dL_law_863 ?_
  refine z_sld hX hc dL_law_864 (by omega) hL ?_
  refine z_aload_n hX dL_law_865 1 rfl ?_
  obtain ⟨r1, hc1, hr⟩ := z_bind hr
  refine z_callH (rest := sh_8) (shc := sh_h) (As := [.ref (ad 0), .int (iI (zxs xs (i + 1))), .ref (ad 50)]) (nA := 3) (st := []) hX (mL_byteAt hst hc1) dL_law_866 gL_law_L_byteAt rfl ⟨by decide, by decide, by decide +kernel⟩ ⟨by decide, by decide⟩ ⟨by show k + 1 ≤ 601024; omega, by show n + 6 ≤ 7293034; omega⟩ rfl rfl (Nat.le_of_ble_eq_true rfl) rfl (by decide) z_Drf (fun hf => z_keep8 (fun _ _ => rfl) (by decide) hf) rfl rfl (fun hf1 => ?_)
  refine z_istore hX dL_law_869 (by decide) rfl ?_
  refine z_aload_n hX dL_law_871 3 rfl ?_
  refine z_aload_n hX dL_law_872 5 rfl ?_
  refine z_iload hX dL_law_873 1 rfl ?_
  refine z_iconst hX dL_law_875 ?_
  refine z_iadd hX dL_law_876 ?_
  refine z_sld hX hc dL_law_877 (by omega) hL ?_
  obtain ⟨r2, hc2, hr⟩ := z_bind hr
  refine z_callV_i (As := [.int (iI (zxs xs (i + 1)))]) (nA := 1) (st := []) hX (mX6_byteAt hc2) dL_law_878 gL_law_X6_byteAt rfl ⟨rfl, by decide, by decide, by decide +kernel⟩ ⟨by decide, by decide⟩ ⟨by show k + 1 + 0 ≤ 601024; omega, by show n + 6 + 0 ≤ 7293034; omega⟩ 0 rfl rfl rfl rfl (Nat.le_of_ble_eq_true rfl) (by decide +kernel) rfl rfl (fun hg2 => ?_)
  refine z_istore hX dL_law_881 (by decide) rfl ?_
  refine z_aload_n hX dL_law_883 4 rfl ?_
  obtain ⟨r3, hc3, hr⟩ := z_bind hr
  refine z_callV_i (As := []) (nA := 0) (st := []) hX (mX6_thrown hc3) dL_law_884 gL_law_X6_thrown rfl ⟨rfl, by decide, by decide, by decide +kernel⟩ ⟨by decide, by decide⟩ ⟨by show k + 1 + 0 + 0 ≤ 601024; omega, by show n + 6 + 0 + 0 ≤ 7293034; omega⟩ 0 rfl rfl rfl rfl (Nat.le_of_ble_eq_true rfl) (by decide +kernel) rfl rfl (fun hg3 => ?_)
  refine z_iload hX dL_law_887 1 rfl ?_
  refine z_icmp_eq (tgt := 894) hX dL_law_889 (by decide) rfl rfl hr (fun hr => ?_) (fun hr => z_none hr)
  refine z_iload hX dL_law_894 1 rfl ?_
  refine z_if_ne (tgt := 911) hX dL_law_896 (by decide) rfl hr (fun hr => ?_) (fun hr => ?_)
  · refine z_goto (tgt := 1287) hX dL_law_911 (by decide) ?_
    refine z_lv [2, 3, 4, 5, 6] rfl ?_
    obtain rfl := Option.some.inj hr
    exact kk ad _ _ (by show k + 1 + 0 + 0 ≤ k + 200; omega) (by show n + 6 + 0 + 0 ≤ n + 1001; omega) rfl rfl rfl
  · refine z_aload_n hX dL_law_899 3 rfl ?_
    refine z_iconst hX dL_law_900 ?_
    refine z_laload (a := 50) (N := 1) (i := 0) (b := 1) (B := some ()) (o := ()) hX dL_law_901 13 rfl (by decide) rfl (if_pos (by decide)) (fun _ => ?_)
    refine z_iload hX dL_law_902 0 rfl ?_
    refine z_i2l hX dL_law_904 ?_
    refine z_lcmp hX dL_law_905 ?_
    refine z_if_eq (tgt := 911) hX dL_law_906 (by decide) rfl hr (fun hr => ?_) (fun hr => z_none hr)
    refine z_goto (tgt := 1287) hX dL_law_911 (by decide) ?_
    refine z_lv [2, 3, 4, 5, 6] rfl ?_
    obtain rfl := Option.some.inj hr
    exact kk ad _ _ (by show k + 1 + 0 + 0 ≤ k + 200; omega) (by show n + 6 + 0 + 0 ≤ n + 1001; omega) rfl rfl rfl
def fL_c13 (p1 : Int) (p2 : Int) (h : HS) : Option HS := (fL_node p1 p2 h).bind fun r1 => (fX6_node p1 p2 r1.2).bind fun r2 => (fX6_thrown r2.2).bind fun r3 => if wr r3 = wr r1.1 then (if wr r1.1 = 0 then (if wr (zcmp (Int64.ofInt (r2.2 50 0)) (iI r2.1).toInt64) = 0 then some r2.2 else none) else some r2.2) else none
set_option maxRecDepth 100000 in
set_option maxHeartbeats 4000000 in
theorem wL_c13 {G : ZG} {l0 : Launch} {X : ZX} {ad : Nat → Nat} {h o : HS} {k n b L : Nat} {xs : Nat → Int32} {i : Int} (hst : l0.stackTraces = false) (hX : ZC G l0 cL_law wsL_law RL 9 room_1 X) (hc : zSc b L xs X) (hL : L ≤ 2560) (hi : 0 ≤ i ∧ i + 4 < (L : Int)) (hk : k + 200 ≤ 601024 ∧ n + 1001 ≤ 7293034) (hr : fL_c13 (zxs xs (i + 1)) (zxs xs (i + 2)) h = some o) (kk : ∀ (ad1 : Nat → Nat) (k1 n1 : Nat), k1 ≤ k + 200 → n1 ≤ n + 1001 → ad1 0 = ad 0 → ad1 30 = ad 30 → ad1 50 = ad 50 → ZW G X shL ad1 o k1 n1 [(4, .int (iI i)), (3, .ref (ad1 50)), (2, .ref (ad1 30)), (1, .ref (ad1 0)), (0, .ref b)] 1287 []) : ZW G X shL ad h k n [(4, .int (iI i)), (3, .ref (ad 50)), (2, .ref (ad 30)), (1, .ref (ad 0)), (0, .ref b)] 914 [] := by
  unfold fL_c13 at hr
  refine z_aload_n hX dL_law_914 3 rfl ?_
  refine z_aload_n hX dL_law_915 4 rfl ?_
  refine z_iload hX dL_law_916 0 rfl ?_
  refine z_iconst hX dL_law_918 ?_
  refine z_iadd hX dL_law_919 ?_
  refine z_sld hX hc dL_law_920 (by omega) hL ?_
  refine z_aload_n hX dL_law_921 4 rfl ?_
  refine z_iload hX dL_law_922 0 rfl ?_
  refine z_iconst hX dL_law_924 ?_
  refine z_iadd hX dL_law_925 ?_
  refine z_sld hX hc dL_law_926 (by omega) hL ?_
  refine z_aload_n hX dL_law_927 1 rfl ?_
  obtain ⟨r1, hc1, hr⟩ := z_bind hr
  refine z_callH (rest := sh_8) (shc := sh_h) (As := [.ref (ad 0), .int (iI (zxs xs (i + 1))), .int (iI (zxs xs (i + 2))), .ref (ad 50)]) (nA := 4) (st := []) hX (mL_node hst hc1) dL_law_928 gL_law_L_node rfl ⟨by decide, by decide, by decide +kernel⟩ ⟨by decide, by decide⟩ ⟨by show k + 1 ≤ 601024; omega, by show n + 6 ≤ 7293034; omega⟩ rfl rfl (Nat.le_of_ble_eq_true rfl) rfl (by decide) z_Drf (fun hf => z_keep8 (fun _ _ => rfl) (by decide) hf) rfl rfl (fun hf1 => ?_)
  refine z_istore hX dL_law_931 (by decide) rfl ?_
  refine z_aload_n hX dL_law_933 3 rfl ?_
  refine z_aload_n hX dL_law_934 5 rfl ?_
  refine z_iload hX dL_law_935 1 rfl ?_
  refine z_iconst hX dL_law_937 ?_
  refine z_iadd hX dL_law_938 ?_
  refine z_sld hX hc dL_law_939 (by omega) hL ?_
  refine z_aload_n hX dL_law_940 5 rfl ?_
  refine z_iload hX dL_law_941 1 rfl ?_
  refine z_iconst hX dL_law_943 ?_
  refine z_iadd hX dL_law_944 ?_
  refine z_sld hX hc dL_law_945 (by omega) hL ?_
  obtain ⟨r2, hc2, hr⟩ := z_bind hr
  refine z_callV_i (As := [.int (iI (zxs xs (i + 1))), .int (iI (zxs xs (i + 2)))]) (nA := 2) (st := []) hX (mX6_node hc2) dL_law_946 gL_law_X6_node rfl ⟨rfl, by decide, by decide, by decide +kernel⟩ ⟨by decide, by decide⟩ ⟨by show k + 1 + 0 ≤ 601024; omega, by show n + 6 + 0 ≤ 7293034; omega⟩ 0 rfl rfl rfl rfl (Nat.le_of_ble_eq_true rfl) (by decide +kernel) rfl rfl (fun hg2 => ?_)
  refine z_istore hX dL_law_949 (by decide) rfl ?_
  refine z_aload_n hX dL_law_951 4 rfl ?_
  obtain ⟨r3, hc3, hr⟩ := z_bind hr
  refine z_callV_i (As := []) (nA := 0) (st := []) hX (mX6_thrown hc3) dL_law_952 gL_law_X6_thrown rfl ⟨rfl, by decide, by decide, by decide +kernel⟩ ⟨by decide, by decide⟩ ⟨by show k + 1 + 0 + 0 ≤ 601024; omega, by show n + 6 + 0 + 0 ≤ 7293034; omega⟩ 0 rfl rfl rfl rfl (Nat.le_of_ble_eq_true rfl) (by decide +kernel) rfl rfl (fun hg3 => ?_)
  refine z_iload hX dL_law_955 1 rfl ?_
  refine z_icmp_eq (tgt := 962) hX dL_law_957 (by decide) rfl rfl hr (fun hr => ?_) (fun hr => z_none hr)
  refine z_iload hX dL_law_962 1 rfl ?_
  refine z_if_ne (tgt := 979) hX dL_law_964 (by decide) rfl hr (fun hr => ?_) (fun hr => ?_)
  · refine z_goto (tgt := 1287) hX dL_law_979 (by decide) ?_
    refine z_lv [2, 3, 4, 5, 6] rfl ?_
    obtain rfl := Option.some.inj hr
    exact kk ad _ _ (by show k + 1 + 0 + 0 ≤ k + 200; omega) (by show n + 6 + 0 + 0 ≤ n + 1001; omega) rfl rfl rfl
  · refine z_aload_n hX dL_law_967 3 rfl ?_
    refine z_iconst hX dL_law_968 ?_
    refine z_laload (a := 50) (N := 1) (i := 0) (b := 1) (B := some ()) (o := ()) hX dL_law_969 13 rfl (by decide) rfl (if_pos (by decide)) (fun _ => ?_)
    refine z_iload hX dL_law_970 0 rfl ?_
    refine z_i2l hX dL_law_972 ?_
    refine z_lcmp hX dL_law_973 ?_
    refine z_if_eq (tgt := 979) hX dL_law_974 (by decide) rfl hr (fun hr => ?_) (fun hr => z_none hr)
    refine z_goto (tgt := 1287) hX dL_law_979 (by decide) ?_
    refine z_lv [2, 3, 4, 5, 6] rfl ?_
    obtain rfl := Option.some.inj hr
    exact kk ad _ _ (by show k + 1 + 0 + 0 ≤ k + 200; omega) (by show n + 6 + 0 + 0 ≤ n + 1001; omega) rfl rfl rfl
def fL_c14 (p1 : Int) (p2 : Int) (h : HS) : Option HS := (fL_continuation p1 p2 h).bind fun r1 => (fX6_continuation p1 p2 r1.2).bind fun r2 => (fX6_thrown r2.2).bind fun r3 => if wr r3 = wr r1.1 then (if wr r1.1 = 0 then (if wr (zcmp (Int64.ofInt (r2.2 50 0)) (iI r2.1).toInt64) = 0 then some r2.2 else none) else some r2.2) else none
set_option maxRecDepth 100000 in
set_option maxHeartbeats 4000000 in
theorem wL_c14 {G : ZG} {l0 : Launch} {X : ZX} {ad : Nat → Nat} {h o : HS} {k n b L : Nat} {xs : Nat → Int32} {i : Int} (hst : l0.stackTraces = false) (hX : ZC G l0 cL_law wsL_law RL 9 room_1 X) (hc : zSc b L xs X) (hL : L ≤ 2560) (hi : 0 ≤ i ∧ i + 4 < (L : Int)) (hk : k + 200 ≤ 601024 ∧ n + 1001 ≤ 7293034) (hr : fL_c14 (zxs xs (i + 1)) (zxs xs (i + 2)) h = some o) (kk : ∀ (ad1 : Nat → Nat) (k1 n1 : Nat), k1 ≤ k + 200 → n1 ≤ n + 1001 → ad1 0 = ad 0 → ad1 30 = ad 30 → ad1 50 = ad 50 → ZW G X shL ad1 o k1 n1 [(4, .int (iI i)), (3, .ref (ad1 50)), (2, .ref (ad1 30)), (1, .ref (ad1 0)), (0, .ref b)] 1287 []) : ZW G X shL ad h k n [(4, .int (iI i)), (3, .ref (ad 50)), (2, .ref (ad 30)), (1, .ref (ad 0)), (0, .ref b)] 982 [] := by
  unfold fL_c14 at hr
  refine z_aload_n hX dL_law_982 3 rfl ?_
  refine z_aload_n hX dL_law_983 4 rfl ?_
  refine z_iload hX dL_law_984 0 rfl ?_
  refine z_iconst hX dL_law_986 ?_
  refine z_iadd hX dL_law_987 ?_
  refine z_sld hX hc dL_law_988 (by omega) hL ?_
  refine z_aload_n hX dL_law_989 4 rfl ?_
  refine z_iload hX dL_law_990 0 rfl ?_
  refine z_iconst hX dL_law_992 ?_
  refine z_iadd hX dL_law_993 ?_
  refine z_sld hX hc dL_law_994 (by omega) hL ?_
  refine z_aload_n hX dL_law_995 1 rfl ?_
  obtain ⟨r1, hc1, hr⟩ := z_bind hr
  refine z_callH (rest := sh_8) (shc := sh_h) (As := [.ref (ad 0), .int (iI (zxs xs (i + 1))), .int (iI (zxs xs (i + 2))), .ref (ad 50)]) (nA := 4) (st := []) hX (mL_continuation hst hc1) dL_law_996 gL_law_L_continuation rfl ⟨by decide, by decide, by decide +kernel⟩ ⟨by decide, by decide⟩ ⟨by show k + 1 ≤ 601024; omega, by show n + 6 ≤ 7293034; omega⟩ rfl rfl (Nat.le_of_ble_eq_true rfl) rfl (by decide) z_Drf (fun hf => z_keep8 (fun _ _ => rfl) (by decide) hf) rfl rfl (fun hf1 => ?_)
  refine z_istore hX dL_law_999 (by decide) rfl ?_
  refine z_aload_n hX dL_law_1001 3 rfl ?_
  refine z_aload_n hX dL_law_1002 5 rfl ?_
  refine z_iload hX dL_law_1003 1 rfl ?_
  refine z_iconst hX dL_law_1005 ?_
  refine z_iadd hX dL_law_1006 ?_
  refine z_sld hX hc dL_law_1007 (by omega) hL ?_
  refine z_aload_n hX dL_law_1008 5 rfl ?_
  refine z_iload hX dL_law_1009 1 rfl ?_
  refine z_iconst hX dL_law_1011 ?_
  refine z_iadd hX dL_law_1012 ?_
  refine z_sld hX hc dL_law_1013 (by omega) hL ?_
  obtain ⟨r2, hc2, hr⟩ := z_bind hr
  refine z_callV_i (As := [.int (iI (zxs xs (i + 1))), .int (iI (zxs xs (i + 2)))]) (nA := 2) (st := []) hX (mX6_continuation hc2) dL_law_1014 gL_law_X6_continuation rfl ⟨rfl, by decide, by decide, by decide +kernel⟩ ⟨by decide, by decide⟩ ⟨by show k + 1 + 0 ≤ 601024; omega, by show n + 6 + 0 ≤ 7293034; omega⟩ 0 rfl rfl rfl rfl (Nat.le_of_ble_eq_true rfl) (by decide +kernel) rfl rfl (fun hg2 => ?_)
  refine z_istore hX dL_law_1017 (by decide) rfl ?_
  refine z_aload_n hX dL_law_1019 4 rfl ?_
  obtain ⟨r3, hc3, hr⟩ := z_bind hr
  refine z_callV_i (As := []) (nA := 0) (st := []) hX (mX6_thrown hc3) dL_law_1020 gL_law_X6_thrown rfl ⟨rfl, by decide, by decide, by decide +kernel⟩ ⟨by decide, by decide⟩ ⟨by show k + 1 + 0 + 0 ≤ 601024; omega, by show n + 6 + 0 + 0 ≤ 7293034; omega⟩ 0 rfl rfl rfl rfl (Nat.le_of_ble_eq_true rfl) (by decide +kernel) rfl rfl (fun hg3 => ?_)
  refine z_iload hX dL_law_1023 1 rfl ?_
  refine z_icmp_eq (tgt := 1030) hX dL_law_1025 (by decide) rfl rfl hr (fun hr => ?_) (fun hr => z_none hr)
  refine z_iload hX dL_law_1030 1 rfl ?_
  refine z_if_ne (tgt := 1047) hX dL_law_1032 (by decide) rfl hr (fun hr => ?_) (fun hr => ?_)
  · refine z_goto (tgt := 1287) hX dL_law_1047 (by decide) ?_
    refine z_lv [2, 3, 4, 5, 6] rfl ?_
    obtain rfl := Option.some.inj hr
    exact kk ad _ _ (by show k + 1 + 0 + 0 ≤ k + 200; omega) (by show n + 6 + 0 + 0 ≤ n + 1001; omega) rfl rfl rfl
  · refine z_aload_n hX dL_law_1035 3 rfl ?_
    refine z_iconst hX dL_law_1036 ?_
    refine z_laload (a := 50) (N := 1) (i := 0) (b := 1) (B := some ()) (o := ()) hX dL_law_1037 13 rfl (by decide) rfl (if_pos (by decide)) (fun _ => ?_)
    refine z_iload hX dL_law_1038 0 rfl ?_
    refine z_i2l hX dL_law_1040 ?_
    refine z_lcmp hX dL_law_1041 ?_
    refine z_if_eq (tgt := 1047) hX dL_law_1042 (by decide) rfl hr (fun hr => ?_) (fun hr => z_none hr)
    refine z_goto (tgt := 1287) hX dL_law_1047 (by decide) ?_
    refine z_lv [2, 3, 4, 5, 6] rfl ?_
    obtain rfl := Option.some.inj hr
    exact kk ad _ _ (by show k + 1 + 0 + 0 ≤ k + 200; omega) (by show n + 6 + 0 + 0 ≤ n + 1001; omega) rfl rfl rfl
def fL_c15 (p1 : Int) (h : HS) : Option HS := (fL_goTo p1 h).bind fun r1 => (fX6_goTo p1 r1.2).bind fun r2 => (fX6_thrown r2.2).bind fun r3 => if wr r3 = wr r1.1 then (if wr r1.1 = 0 then (if wr (zcmp (Int64.ofInt (r2.2 50 0)) (iI r2.1).toInt64) = 0 then some r2.2 else none) else some r2.2) else none
set_option maxRecDepth 100000 in
set_option maxHeartbeats 4000000 in
theorem wL_c15 {G : ZG} {l0 : Launch} {X : ZX} {ad : Nat → Nat} {h o : HS} {k n b L : Nat} {xs : Nat → Int32} {i : Int} (hst : l0.stackTraces = false) (hX : ZC G l0 cL_law wsL_law RL 9 room_1 X) (hc : zSc b L xs X) (hL : L ≤ 2560) (hi : 0 ≤ i ∧ i + 4 < (L : Int)) (hk : k + 200 ≤ 601024 ∧ n + 1001 ≤ 7293034) (hr : fL_c15 (zxs xs (i + 1)) h = some o) (kk : ∀ (ad1 : Nat → Nat) (k1 n1 : Nat), k1 ≤ k + 200 → n1 ≤ n + 1001 → ad1 0 = ad 0 → ad1 30 = ad 30 → ad1 50 = ad 50 → ZW G X shL ad1 o k1 n1 [(4, .int (iI i)), (3, .ref (ad1 50)), (2, .ref (ad1 30)), (1, .ref (ad1 0)), (0, .ref b)] 1287 []) : ZW G X shL ad h k n [(4, .int (iI i)), (3, .ref (ad 50)), (2, .ref (ad 30)), (1, .ref (ad 0)), (0, .ref b)] 1050 [] := by
  unfold fL_c15 at hr
  refine z_aload_n hX dL_law_1050 3 rfl ?_
  refine z_aload_n hX dL_law_1051 4 rfl ?_
  refine z_iload hX dL_law_1052 0 rfl ?_
  refine z_iconst hX dL_law_1054 ?_
  refine z_iadd hX dL_law_1055 ?_
  refine z_sld hX hc dL_law_1056 (by omega) hL ?_
  refine z_aload_n hX dL_law_1057 1 rfl ?_
  obtain ⟨r1, hc1, hr⟩ := z_bind hr
  refine z_callH (rest := sh_8) (shc := sh_h) (As := [.ref (ad 0), .int (iI (zxs xs (i + 1))), .ref (ad 50)]) (nA := 3) (st := []) hX (mL_goTo hst hc1) dL_law_1058 gL_law_L_goTo rfl ⟨by decide, by decide, by decide +kernel⟩ ⟨by decide, by decide⟩ ⟨by show k + 1 ≤ 601024; omega, by show n + 6 ≤ 7293034; omega⟩ rfl rfl (Nat.le_of_ble_eq_true rfl) rfl (by decide) z_Drf (fun hf => z_keep8 (fun _ _ => rfl) (by decide) hf) rfl rfl (fun hf1 => ?_)
  refine z_istore hX dL_law_1061 (by decide) rfl ?_
  refine z_aload_n hX dL_law_1063 3 rfl ?_
  refine z_aload_n hX dL_law_1064 5 rfl ?_
  refine z_iload hX dL_law_1065 1 rfl ?_
  refine z_iconst hX dL_law_1067 ?_
  refine z_iadd hX dL_law_1068 ?_
  refine z_sld hX hc dL_law_1069 (by omega) hL ?_
  obtain ⟨r2, hc2, hr⟩ := z_bind hr
  refine z_callV_i (As := [.int (iI (zxs xs (i + 1)))]) (nA := 1) (st := []) hX (mX6_goTo hc2) dL_law_1070 gL_law_X6_goTo rfl ⟨rfl, by decide, by decide, by decide +kernel⟩ ⟨by decide, by decide⟩ ⟨by show k + 1 + 0 ≤ 601024; omega, by show n + 6 + 0 ≤ 7293034; omega⟩ 0 rfl rfl rfl rfl (Nat.le_of_ble_eq_true rfl) (by decide +kernel) rfl rfl (fun hg2 => ?_)
  refine z_istore hX dL_law_1073 (by decide) rfl ?_
  refine z_aload_n hX dL_law_1075 4 rfl ?_
  obtain ⟨r3, hc3, hr⟩ := z_bind hr
  refine z_callV_i (As := []) (nA := 0) (st := []) hX (mX6_thrown hc3) dL_law_1076 gL_law_X6_thrown rfl ⟨rfl, by decide, by decide, by decide +kernel⟩ ⟨by decide, by decide⟩ ⟨by show k + 1 + 0 + 0 ≤ 601024; omega, by show n + 6 + 0 + 0 ≤ 7293034; omega⟩ 0 rfl rfl rfl rfl (Nat.le_of_ble_eq_true rfl) (by decide +kernel) rfl rfl (fun hg3 => ?_)
  refine z_iload hX dL_law_1079 1 rfl ?_
  refine z_icmp_eq (tgt := 1086) hX dL_law_1081 (by decide) rfl rfl hr (fun hr => ?_) (fun hr => z_none hr)
  refine z_iload hX dL_law_1086 1 rfl ?_
  refine z_if_ne (tgt := 1103) hX dL_law_1088 (by decide) rfl hr (fun hr => ?_) (fun hr => ?_)
  · refine z_goto (tgt := 1287) hX dL_law_1103 (by decide) ?_
    refine z_lv [2, 3, 4, 5, 6] rfl ?_
    obtain rfl := Option.some.inj hr
    exact kk ad _ _ (by show k + 1 + 0 + 0 ≤ k + 200; omega) (by show n + 6 + 0 + 0 ≤ n + 1001; omega) rfl rfl rfl
  · refine z_aload_n hX dL_law_1091 3 rfl ?_
    refine z_iconst hX dL_law_1092 ?_
    refine z_laload (a := 50) (N := 1) (i := 0) (b := 1) (B := some ()) (o := ()) hX dL_law_1093 13 rfl (by decide) rfl (if_pos (by decide)) (fun _ => ?_)
    refine z_iload hX dL_law_1094 0 rfl ?_
    refine z_i2l hX dL_law_1096 ?_
    refine z_lcmp hX dL_law_1097 ?_
    refine z_if_eq (tgt := 1103) hX dL_law_1098 (by decide) rfl hr (fun hr => ?_) (fun hr => z_none hr)
    refine z_goto (tgt := 1287) hX dL_law_1103 (by decide) ?_
    refine z_lv [2, 3, 4, 5, 6] rfl ?_
    obtain rfl := Option.some.inj hr
    exact kk ad _ _ (by show k + 1 + 0 + 0 ≤ k + 200; omega) (by show n + 6 + 0 + 0 ≤ n + 1001; omega) rfl rfl rfl
def fL_c16 (p1 : Int) (h : HS) : Option HS := (fL_promote p1 h).bind fun r1 => (fX6_promote p1 r1.2).bind fun r2 => (fX6_thrown r2.2).bind fun r3 => if wr r3 = wr r1.1 then (if wr r1.1 = 0 then (if wr (zcmp (Int64.ofInt (r2.2 50 0)) (iI r2.1).toInt64) = 0 then some r2.2 else none) else some r2.2) else none
set_option maxRecDepth 100000 in
set_option maxHeartbeats 4000000 in
theorem wL_c16 {G : ZG} {l0 : Launch} {X : ZX} {ad : Nat → Nat} {h o : HS} {k n b L : Nat} {xs : Nat → Int32} {i : Int} (hst : l0.stackTraces = false) (hX : ZC G l0 cL_law wsL_law RL 9 room_1 X) (hc : zSc b L xs X) (hL : L ≤ 2560) (hi : 0 ≤ i ∧ i + 4 < (L : Int)) (hk : k + 200 ≤ 601024 ∧ n + 1001 ≤ 7293034) (hr : fL_c16 (zxs xs (i + 1)) h = some o) (kk : ∀ (ad1 : Nat → Nat) (k1 n1 : Nat), k1 ≤ k + 200 → n1 ≤ n + 1001 → ad1 0 = ad 0 → ad1 30 = ad 30 → ad1 50 = ad 50 → ZW G X shL ad1 o k1 n1 [(4, .int (iI i)), (3, .ref (ad1 50)), (2, .ref (ad1 30)), (1, .ref (ad1 0)), (0, .ref b)] 1287 []) : ZW G X shL ad h k n [(4, .int (iI i)), (3, .ref (ad 50)), (2, .ref (ad 30)), (1, .ref (ad 0)), (0, .ref b)] 1106 [] := by
  unfold fL_c16 at hr
  refine z_aload_n hX dL_law_1106 3 rfl ?_
  refine z_aload_n hX dL_law_1107 4 rfl ?_
  refine z_iload hX dL_law_1108 0 rfl ?_
  refine z_iconst hX dL_law_1110 ?_
  refine z_iadd hX dL_law_1111 ?_
  refine z_sld hX hc dL_law_1112 (by omega) hL ?_
  refine z_aload_n hX dL_law_1113 1 rfl ?_
  obtain ⟨r1, hc1, hr⟩ := z_bind hr
  refine z_callH (rest := sh_8) (shc := sh_h) (As := [.ref (ad 0), .int (iI (zxs xs (i + 1))), .ref (ad 50)]) (nA := 3) (st := []) hX (mL_promote hst hc1) dL_law_1114 gL_law_L_promote rfl ⟨by decide, by decide, by decide +kernel⟩ ⟨by decide, by decide⟩ ⟨by show k + 1 ≤ 601024; omega, by show n + 6 ≤ 7293034; omega⟩ rfl rfl (Nat.le_of_ble_eq_true rfl) rfl (by decide) z_Drf (fun hf => z_keep8 (fun _ _ => rfl) (by decide) hf) rfl rfl (fun hf1 => ?_)
  refine z_istore hX dL_law_1117 (by decide) rfl ?_
  refine z_aload_n hX dL_law_1119 3 rfl ?_
  refine z_aload_n hX dL_law_1120 5 rfl ?_
  refine z_iload hX dL_law_1121 1 rfl ?_
  refine z_iconst hX dL_law_1123 ?_
  refine z_iadd hX dL_law_1124 ?_
  refine z_sld hX hc dL_law_1125 (by omega) hL ?_
  obtain ⟨r2, hc2, hr⟩ := z_bind hr
  refine z_callV_i (As := [.int (iI (zxs xs (i + 1)))]) (nA := 1) (st := []) hX (mX6_promote hc2) dL_law_1126 gL_law_X6_promote rfl ⟨rfl, by decide, by decide, by decide +kernel⟩ ⟨by decide, by decide⟩ ⟨by show k + 1 + 0 ≤ 601024; omega, by show n + 6 + 0 ≤ 7293034; omega⟩ 0 rfl rfl rfl rfl (Nat.le_of_ble_eq_true rfl) (by decide +kernel) rfl rfl (fun hg2 => ?_)
  refine z_istore hX dL_law_1129 (by decide) rfl ?_
  refine z_aload_n hX dL_law_1131 4 rfl ?_
  obtain ⟨r3, hc3, hr⟩ := z_bind hr
  refine z_callV_i (As := []) (nA := 0) (st := []) hX (mX6_thrown hc3) dL_law_1132 gL_law_X6_thrown rfl ⟨rfl, by decide, by decide, by decide +kernel⟩ ⟨by decide, by decide⟩ ⟨by show k + 1 + 0 + 0 ≤ 601024; omega, by show n + 6 + 0 + 0 ≤ 7293034; omega⟩ 0 rfl rfl rfl rfl (Nat.le_of_ble_eq_true rfl) (by decide +kernel) rfl rfl (fun hg3 => ?_)
  refine z_iload hX dL_law_1135 1 rfl ?_
  refine z_icmp_eq (tgt := 1142) hX dL_law_1137 (by decide) rfl rfl hr (fun hr => ?_) (fun hr => z_none hr)
  refine z_iload hX dL_law_1142 1 rfl ?_
  refine z_if_ne (tgt := 1159) hX dL_law_1144 (by decide) rfl hr (fun hr => ?_) (fun hr => ?_)
  · refine z_goto (tgt := 1287) hX dL_law_1159 (by decide) ?_
    refine z_lv [2, 3, 4, 5, 6] rfl ?_
    obtain rfl := Option.some.inj hr
    exact kk ad _ _ (by show k + 1 + 0 + 0 ≤ k + 200; omega) (by show n + 6 + 0 + 0 ≤ n + 1001; omega) rfl rfl rfl
  · refine z_aload_n hX dL_law_1147 3 rfl ?_
    refine z_iconst hX dL_law_1148 ?_
    refine z_laload (a := 50) (N := 1) (i := 0) (b := 1) (B := some ()) (o := ()) hX dL_law_1149 13 rfl (by decide) rfl (if_pos (by decide)) (fun _ => ?_)
    refine z_iload hX dL_law_1150 0 rfl ?_
    refine z_i2l hX dL_law_1152 ?_
    refine z_lcmp hX dL_law_1153 ?_
    refine z_if_eq (tgt := 1159) hX dL_law_1154 (by decide) rfl hr (fun hr => ?_) (fun hr => z_none hr)
    refine z_goto (tgt := 1287) hX dL_law_1159 (by decide) ?_
    refine z_lv [2, 3, 4, 5, 6] rfl ?_
    obtain rfl := Option.some.inj hr
    exact kk ad _ _ (by show k + 1 + 0 + 0 ≤ k + 200; omega) (by show n + 6 + 0 + 0 ≤ n + 1001; omega) rfl rfl rfl
def fL_c17 (h : HS) : Option HS := (fL_writeGame h).bind fun r1 => (fX6_writeGame r1.2).bind fun r2 => (fX6_thrown r2.2).bind fun r3 => if wr r3 = wr r1.1 then (if wr r1.1 = 0 then (if wr (zcmp (Int64.ofInt (r2.2 50 0)) (iI r2.1).toInt64) = 0 then some r2.2 else none) else some r2.2) else none
set_option maxRecDepth 100000 in
set_option maxHeartbeats 4000000 in
theorem wL_c17 {G : ZG} {l0 : Launch} {X : ZX} {ad : Nat → Nat} {h o : HS} {k n b L : Nat} {xs : Nat → Int32} {i : Int} (hst : l0.stackTraces = false) (hX : ZC G l0 cL_law wsL_law RL 9 room_1 X) (hc : zSc b L xs X) (hL : L ≤ 2560) (hi : 0 ≤ i ∧ i + 4 < (L : Int)) (hk : k + 200 ≤ 601024 ∧ n + 1001 ≤ 7293034) (hr : fL_c17 h = some o) (kk : ∀ (ad1 : Nat → Nat) (k1 n1 : Nat), k1 ≤ k + 200 → n1 ≤ n + 1001 → ad1 0 = ad 0 → ad1 30 = ad 30 → ad1 50 = ad 50 → ZW G X shL ad1 o k1 n1 [(4, .int (iI i)), (3, .ref (ad1 50)), (2, .ref (ad1 30)), (1, .ref (ad1 0)), (0, .ref b)] 1287 []) : ZW G X shL ad h k n [(4, .int (iI i)), (3, .ref (ad 50)), (2, .ref (ad 30)), (1, .ref (ad 0)), (0, .ref b)] 1162 [] := by
  unfold fL_c17 at hr
  refine z_aload_n hX dL_law_1162 3 rfl ?_
  refine z_aload_n hX dL_law_1163 1 rfl ?_
  obtain ⟨r1, hc1, hr⟩ := z_bind hr
  have hDw : ∀ A : Nat → Prop, va_D A (wz G sh_h ad h) → va_D A (wz G sh_h (if r1.1 = (0 : Int) then asw ad else ad) r1.2) := by
    intro A hA
    by_cases e : r1.1 = (0 : Int)
    · rw [if_pos e]; exact z_Dsw (by decide) (by decide) A hA
    · rw [if_neg e]; exact z_Drf A hA
  have hKw : ∀ j, 23 ≤ j → (if r1.1 = (0 : Int) then asw ad else ad) j = ad j := by
    intro j hj
    by_cases e : r1.1 = (0 : Int)
    · rw [if_pos e]; unfold asw; rw [zsw_big hj]
    · rw [if_neg e]
  refine z_callH (rest := sh_8) (shc := sh_h) (As := [.ref (ad 0), .ref (ad 50)]) (nA := 2) (st := []) hX (mL_writeGame hst hc1) dL_law_1164 gL_law_L_writeGame rfl ⟨by decide, by decide, by decide +kernel⟩ ⟨by decide, by decide⟩ ⟨by show k + 1 ≤ 601024; omega, by show n + 6 ≤ 7293034; omega⟩ rfl rfl (Nat.le_of_ble_eq_true rfl) rfl (by decide) hDw (fun hf => z_keep8 hKw (by decide) hf) rfl rfl (fun hf1 => ?_)
  obtain ⟨ad1, had⟩ : ∃ a : Nat → Nat, a = (if r1.1 = (0 : Int) then asw ad else ad) := ⟨_, rfl⟩
  rw [← had]
  have e0 : ad1 0 = ad 0 := by
    rw [had]
    by_cases e : r1.1 = (0 : Int)
    · rw [if_pos e]; rfl
    · rw [if_neg e]
  have e30 : ad1 30 = ad 30 := by
    rw [had]
    by_cases e : r1.1 = (0 : Int)
    · rw [if_pos e]; rfl
    · rw [if_neg e]
  have e50 : ad1 50 = ad 50 := by
    rw [had]
    by_cases e : r1.1 = (0 : Int)
    · rw [if_pos e]; rfl
    · rw [if_neg e]
  rw [← e0, ← e30, ← e50]
  refine z_istore hX dL_law_1167 (by decide) rfl ?_
  refine z_aload_n hX dL_law_1169 3 rfl ?_
  obtain ⟨r2, hc2, hr⟩ := z_bind hr
  refine z_callV_i (As := []) (nA := 0) (st := []) hX (mX6_writeGame hc2) dL_law_1170 gL_law_X6_writeGame rfl ⟨rfl, by decide, by decide, by decide +kernel⟩ ⟨by decide, by decide⟩ ⟨by show k + 1 + 0 ≤ 601024; omega, by show n + 6 + 0 ≤ 7293034; omega⟩ 0 rfl rfl rfl rfl (Nat.le_of_ble_eq_true rfl) (by decide +kernel) rfl rfl (fun hg2 => ?_)
  refine z_istore hX dL_law_1173 (by decide) rfl ?_
  refine z_aload_n hX dL_law_1175 4 rfl ?_
  obtain ⟨r3, hc3, hr⟩ := z_bind hr
  refine z_callV_i (As := []) (nA := 0) (st := []) hX (mX6_thrown hc3) dL_law_1176 gL_law_X6_thrown rfl ⟨rfl, by decide, by decide, by decide +kernel⟩ ⟨by decide, by decide⟩ ⟨by show k + 1 + 0 + 0 ≤ 601024; omega, by show n + 6 + 0 + 0 ≤ 7293034; omega⟩ 0 rfl rfl rfl rfl (Nat.le_of_ble_eq_true rfl) (by decide +kernel) rfl rfl (fun hg3 => ?_)
  refine z_iload hX dL_law_1179 1 rfl ?_
  refine z_icmp_eq (tgt := 1186) hX dL_law_1181 (by decide) rfl rfl hr (fun hr => ?_) (fun hr => z_none hr)
  refine z_iload hX dL_law_1186 1 rfl ?_
  refine z_if_ne (tgt := 1203) hX dL_law_1188 (by decide) rfl hr (fun hr => ?_) (fun hr => ?_)
  · refine z_goto (tgt := 1287) hX dL_law_1203 (by decide) ?_
    refine z_lv [2, 3, 4, 5, 6] rfl ?_
    obtain rfl := Option.some.inj hr
    exact kk ad1 _ _ (by show k + 1 + 0 + 0 ≤ k + 200; omega) (by show n + 6 + 0 + 0 ≤ n + 1001; omega) e0 e30 e50
  · refine z_aload_n hX dL_law_1191 3 rfl ?_
    refine z_iconst hX dL_law_1192 ?_
    refine z_laload (a := 50) (N := 1) (i := 0) (b := 1) (B := some ()) (o := ()) hX dL_law_1193 13 rfl (by decide) rfl (if_pos (by decide)) (fun _ => ?_)
    refine z_iload hX dL_law_1194 0 rfl ?_
    refine z_i2l hX dL_law_1196 ?_
    refine z_lcmp hX dL_law_1197 ?_
    refine z_if_eq (tgt := 1203) hX dL_law_1198 (by decide) rfl hr (fun hr => ?_) (fun hr => z_none hr)
    refine z_goto (tgt := 1287) hX dL_law_1203 (by decide) ?_
    refine z_lv [2, 3, 4, 5, 6] rfl ?_
    obtain rfl := Option.some.inj hr
    exact kk ad1 _ _ (by show k + 1 + 0 + 0 ≤ k + 200; omega) (by show n + 6 + 0 + 0 ≤ n + 1001; omega) e0 e30 e50
def fL_c18 (h : HS) : Option HS := (fX5_readGame h).bind fun r1 => (fX6_readGame r1.2).bind fun r2 => if wr r1.1 = wr r2.1 then some r2.2 else none
set_option maxRecDepth 100000 in
set_option maxHeartbeats 4000000 in
theorem wL_c18 {G : ZG} {l0 : Launch} {X : ZX} {ad : Nat → Nat} {h o : HS} {k n b L : Nat} {xs : Nat → Int32} {i : Int} (hst : l0.stackTraces = false) (hX : ZC G l0 cL_law wsL_law RL 9 room_1 X) (hc : zSc b L xs X) (hL : L ≤ 2560) (hi : 0 ≤ i ∧ i + 4 < (L : Int)) (hk : k + 200 ≤ 601024 ∧ n + 1001 ≤ 7293034) (hr : fL_c18 h = some o) (kk : ∀ (ad1 : Nat → Nat) (k1 n1 : Nat), k1 ≤ k + 200 → n1 ≤ n + 1001 → ad1 0 = ad 0 → ad1 30 = ad 30 → ad1 50 = ad 50 → ZW G X shL ad1 o k1 n1 [(4, .int (iI i)), (3, .ref (ad1 50)), (2, .ref (ad1 30)), (1, .ref (ad1 0)), (0, .ref b)] 1287 []) : ZW G X shL ad h k n [(4, .int (iI i)), (3, .ref (ad 50)), (2, .ref (ad 30)), (1, .ref (ad 0)), (0, .ref b)] 1206 [] := by
  unfold fL_c18 at hr
  refine z_aload_n hX dL_law_1206 3 rfl ?_
  obtain ⟨r1, hc1, hr⟩ := z_bind hr
  refine z_callV_i (As := []) (nA := 0) (st := []) hX (mX5_readGame hc1) dL_law_1207 gL_law_X5_readGame rfl ⟨rfl, by decide, by decide, by decide +kernel⟩ ⟨by decide, by decide⟩ ⟨by show k + 0 ≤ 601024; omega, by show n + 0 ≤ 7293034; omega⟩ 14 rfl rfl rfl rfl (Nat.le_of_ble_eq_true rfl) (by decide +kernel) rfl rfl (fun hg1 => ?_)
  refine z_aload_n hX dL_law_1210 2 rfl ?_
  obtain ⟨r2, hc2, hr⟩ := z_bind hr
  refine z_callV_i (As := []) (nA := 0) (st := [.int (iI r1.1)]) hX (mX6_readGame hc2) dL_law_1211 gL_law_X6_readGame rfl ⟨rfl, by decide, by decide, by decide +kernel⟩ ⟨by decide, by decide⟩ ⟨by show k + 0 + 199 ≤ 601024; omega, by show n + 0 + 995 ≤ 7293034; omega⟩ 0 rfl rfl rfl rfl (Nat.le_of_ble_eq_true rfl) (by decide +kernel) rfl rfl (fun hg2 => ?_)
  refine z_icmp_eq (tgt := 1287) hX dL_law_1214 (by decide) rfl rfl hr (fun hr => ?_) (fun hr => z_none hr)
  obtain rfl := Option.some.inj hr
  exact kk ad _ _ (by show k + 0 + 199 ≤ k + 200; omega) (by show n + 0 + 995 ≤ n + 1001; omega) rfl rfl rfl
def fL_c19 (h : HS) : Option HS := (fX5_clear h).bind fun r1 => (fX6_clear r1.2).bind fun r2 => if wr r1.1 = wr r2.1 then some r2.2 else none
set_option maxRecDepth 100000 in
set_option maxHeartbeats 4000000 in
theorem wL_c19 {G : ZG} {l0 : Launch} {X : ZX} {ad : Nat → Nat} {h o : HS} {k n b L : Nat} {xs : Nat → Int32} {i : Int} (hst : l0.stackTraces = false) (hX : ZC G l0 cL_law wsL_law RL 9 room_1 X) (hc : zSc b L xs X) (hL : L ≤ 2560) (hi : 0 ≤ i ∧ i + 4 < (L : Int)) (hk : k + 200 ≤ 601024 ∧ n + 1001 ≤ 7293034) (hr : fL_c19 h = some o) (kk : ∀ (ad1 : Nat → Nat) (k1 n1 : Nat), k1 ≤ k + 200 → n1 ≤ n + 1001 → ad1 0 = ad 0 → ad1 30 = ad 30 → ad1 50 = ad 50 → ZW G X shL ad1 o k1 n1 [(4, .int (iI i)), (3, .ref (ad1 50)), (2, .ref (ad1 30)), (1, .ref (ad1 0)), (0, .ref b)] 1287 []) : ZW G X shL ad h k n [(4, .int (iI i)), (3, .ref (ad 50)), (2, .ref (ad 30)), (1, .ref (ad 0)), (0, .ref b)] 1219 [] := by
  unfold fL_c19 at hr
  refine z_aload_n hX dL_law_1219 3 rfl ?_
  obtain ⟨r1, hc1, hr⟩ := z_bind hr
  refine z_callV_i (As := []) (nA := 0) (st := []) hX (mX5_clear hc1) dL_law_1220 gL_law_X5_clear rfl ⟨rfl, by decide, by decide, by decide +kernel⟩ ⟨by decide, by decide⟩ ⟨by show k + 0 ≤ 601024; omega, by show n + 0 ≤ 7293034; omega⟩ 14 rfl rfl rfl rfl (Nat.le_of_ble_eq_true rfl) (by decide +kernel) rfl rfl (fun hg1 => ?_)
  refine z_aload_n hX dL_law_1223 2 rfl ?_
  obtain ⟨r2, hc2, hr⟩ := z_bind hr
  refine z_callV_i (As := []) (nA := 0) (st := [.int (iI r1.1)]) hX (mX6_clear hc2) dL_law_1224 gL_law_X6_clear rfl ⟨rfl, by decide, by decide, by decide +kernel⟩ ⟨by decide, by decide⟩ ⟨by show k + 0 + 0 ≤ 601024; omega, by show n + 0 + 0 ≤ 7293034; omega⟩ 0 rfl rfl rfl rfl (Nat.le_of_ble_eq_true rfl) (by decide +kernel) rfl rfl (fun hg2 => ?_)
  refine z_icmp_eq (tgt := 1287) hX dL_law_1227 (by decide) rfl rfl hr (fun hr => ?_) (fun hr => z_none hr)
  obtain rfl := Option.some.inj hr
  exact kk ad _ _ (by show k + 0 + 0 ≤ k + 200; omega) (by show n + 0 + 0 ≤ n + 1001; omega) rfl rfl rfl
def fL_c20 (h : HS) : Option HS := (fX5_branching h).bind fun r1 => (fX6_branching h).bind fun r2 => if r1.1 = r2.1.1 ∧ wr r1.2.1 = wr r2.1.2.1 ∧ wr r1.2.2 = wr r2.1.2.2 then some r2.2 else none
def fL_c21 (h : HS) : Option HS := (fX5_digest h).bind fun r1 => (fX6_digest r1.2).bind fun r2 => if wr (zcmp r1.1 r2.1) = 0 then some r2.2 else none
set_option maxRecDepth 100000 in
set_option maxHeartbeats 4000000 in
theorem wL_c21 {G : ZG} {l0 : Launch} {X : ZX} {ad : Nat → Nat} {h o : HS} {k n b L : Nat} {xs : Nat → Int32} {i : Int} (hst : l0.stackTraces = false) (hX : ZC G l0 cL_law wsL_law RL 9 room_1 X) (hc : zSc b L xs X) (hL : L ≤ 2560) (hi : 0 ≤ i ∧ i + 4 < (L : Int)) (hk : k + 200 ≤ 601024 ∧ n + 1001 ≤ 7293034) (hr : fL_c21 h = some o) (kk : ∀ (ad1 : Nat → Nat) (k1 n1 : Nat), k1 ≤ k + 200 → n1 ≤ n + 1001 → ad1 0 = ad 0 → ad1 30 = ad 30 → ad1 50 = ad 50 → ZW G X shL ad1 o k1 n1 [(4, .int (iI i)), (3, .ref (ad1 50)), (2, .ref (ad1 30)), (1, .ref (ad1 0)), (0, .ref b)] 1287 []) : ZW G X shL ad h k n [(4, .int (iI i)), (3, .ref (ad 50)), (2, .ref (ad 30)), (1, .ref (ad 0)), (0, .ref b)] 1273 [] := by
  unfold fL_c21 at hr
  refine z_aload_n hX dL_law_1273 3 rfl ?_
  obtain ⟨r1, hc1, hr⟩ := z_bind hr
  refine z_callV_l (As := []) (nA := 0) (st := []) hX (mX5_digest hc1) dL_law_1274 gL_law_X5_digest rfl ⟨rfl, by decide, by decide, by decide +kernel⟩ ⟨by decide, by decide⟩ ⟨by show k + 0 ≤ 601024; omega, by show n + 0 ≤ 7293034; omega⟩ 14 rfl rfl rfl rfl (Nat.le_of_ble_eq_true rfl) (by decide +kernel) rfl rfl (fun hg1 => ?_)
  refine z_aload_n hX dL_law_1277 2 rfl ?_
  obtain ⟨r2, hc2, hr⟩ := z_bind hr
  refine z_callV_l (As := []) (nA := 0) (st := [.long r1.1]) hX (mX6_digest hc2) dL_law_1278 gL_law_X6_digest rfl ⟨rfl, by decide, by decide, by decide +kernel⟩ ⟨by decide, by decide⟩ ⟨by show k + 0 + 0 ≤ 601024; omega, by show n + 0 + 0 ≤ 7293034; omega⟩ 0 rfl rfl rfl rfl (Nat.le_of_ble_eq_true rfl) (by decide +kernel) rfl rfl (fun hg2 => ?_)
  refine z_lcmp hX dL_law_1281 ?_
  refine z_if_eq (tgt := 1287) hX dL_law_1282 (by decide) rfl hr (fun hr => ?_) (fun hr => z_none hr)
  obtain rfl := Option.some.inj hr
  exact kk ad _ _ (by show k + 0 + 0 ≤ k + 200; omega) (by show n + 0 + 0 ≤ n + 1001; omega) rfl rfl rfl
