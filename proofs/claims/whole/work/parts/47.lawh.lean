def fL_addKind (p1 : Int) (h : HS) : Option (Int × HS) := (fX5_addKind p1 h).bind fun o => if o.1 = (0 : Int) then some (0, hs o.2.2 50 0 (wr o.2.1)) else if o.1 = (2 : Int) then some (1, o.2.2) else if o.1 = (3 : Int) then some (2, o.2.2) else none
set_option maxRecDepth 100000 in
set_option maxHeartbeats 4000000 in
theorem mL_addKind {G : ZG} {l0 : Launch} {ad : Nat → Nat} {h0 : HS} {p1 : Int} {o : Int × HS} (hst : l0.stackTraces = false) (hr : fL_addKind p1 h0 = some o) : ZHi G l0 yL_addKind wsL_addKind ({ frames := 7, cells := 1, slots := 6, locals := 111 } : Room) [.ref (ad 0), .int (iI p1), .ref (ad 50)] sh_h ad ad h0 [1, 2, 50] o.1 o.2 := by
  refine ZHi.of (cc := cL_addKind) (maxL := 4) (ret := (some .int)) (own := RL) (hh := [(0, 9, 12, 13), (0, 9, 15, 15)]) (lv0 := [(0, .ref (ad 0)), (1, .int (iI p1)), (2, .ref (ad 50))]) (by decide) rfl rfl rfl (Nat.le_of_ble_eq_true rfl) rfl ?_
  intro X hX htab hQ
  unfold fL_addKind at hr
  obtain ⟨r1, hc1, hr⟩ := z_bind hr
  refine z_aload_n hX dL_addKind_0 2 rfl ?_
  refine z_iconst hX dL_addKind_1 ?_
  refine z_aload_n hX dL_addKind_2 0 rfl ?_
  refine z_iload_n hX dL_addKind_3 1 rfl ?_
  refine z_callC (rest := [(50, .inr (.inl 1))]) (shc := sh_7) (hh := [(0, 9, 12, 13), (0, 9, 15, 15)]) (As := [.int (iI p1)]) (nA := 1) (k1 := 1) (n1 := 6) hX htab (mX5_addKind hst hc1) dL_addKind_4 gL_addKind_X5_addKind rfl ⟨rfl, by decide, by decide, by decide +kernel⟩ ⟨by decide, by decide⟩ ⟨by decide, by decide⟩ 1 rfl rfl rfl rfl (Nat.le_of_ble_eq_true rfl) rfl (by decide) (z_Drf) (fun hf => z_h50 rfl (by decide) hf) (fun hf => z_h50 rfl (by decide) hf) rfl rfl (fun h00 hf => ?_) (fun h00 hf => ?_)
  · rw [if_neg h00] at hr
    by_cases e2 : r1.1 = (2 : Int)
    · rw [if_pos e2] at hr
      obtain rfl := Option.some.inj hr
      rw [e2]
      refine ⟨[], [⟨0, 9, 15, 15⟩], ⟨0, 9, 12, 13⟩, rfl, (fun z hz => absurd hz List.not_mem_nil), by decide, by decide, (by decide +kernel : Cond.classLink RL 13 (zExc 2) ∈ wsL_addKind), fun U hU => hU.2.2.2.2.2.2.2.2.2.2.2.1, fun q9 => ?_⟩
      refine z_astore_n (v := q9) hX dL_addKind_12 (by decide) rfl ?_
      refine z_iconst hX dL_addKind_13 ?_
      exact hQ _ _ dL_addKind_14 (zfr_tr zfr_rf (by decide) hf)
    · rw [if_neg e2] at hr
      by_cases e3 : r1.1 = (3 : Int)
      · rw [if_pos e3] at hr
        obtain rfl := Option.some.inj hr
        rw [e3]
        refine ⟨[⟨0, 9, 12, 13⟩], [], ⟨0, 9, 15, 15⟩, rfl, (fun z hz => by
          obtain rfl := List.mem_singleton.mp hz
          exact Or.inr ⟨by decide, _, (by decide +kernel : Cond.classLink RL 13 (zExc 2) ∈ wsL_addKind), fun U hU => hU.2.2.2.2.2.2.2.2.2.2.2.2.2.2.2.1⟩), by decide, by decide, (by decide +kernel : Cond.classLink RL 15 (zExc 3) ∈ wsL_addKind), fun U hU => hU.2.2.2.2.2.2.2.2.2.2.2.2.1, fun q9 => ?_⟩
        refine z_astore_n (v := q9) hX dL_addKind_15 (by decide) rfl ?_
        refine z_iconst hX dL_addKind_16 ?_
        exact hQ _ _ dL_addKind_17 (zfr_tr zfr_rf (by decide) hf)
      · rw [if_neg e3] at hr
        cases hr
  · rw [if_pos h00] at hr
    obtain rfl := Option.some.inj hr
    refine z_i2l hX dL_addKind_7 ?_
    refine z_lastore (a := 50) (N := 1) (i := 0) (b := 1) (B := some ()) (o := ()) hX dL_addKind_8 0 rfl (by decide) rfl (if_pos (by decide)) (fun _ => ?_)
    rw [z_i64]
    refine z_goto (tgt := 18) hX dL_addKind_9 (by decide) ?_
    refine z_iconst hX dL_addKind_18 ?_
    exact hQ _ _ dL_addKind_19 (zfr_hs (zfr_tr zfr_rf (by decide) hf) (by decide))

def fL_addStep (p1 : Int) (p2 : Int) (p3 : Int) (p4 : Int) (h : HS) : Option (Int × HS) := (fX5_addStep p1 p2 p3 p4 h).bind fun o => if o.1 = (0 : Int) then some (0, hs o.2.2 50 0 (wr o.2.1)) else if o.1 = (1 : Int) then some (1, o.2.2) else if o.1 = (2 : Int) then some (2, o.2.2) else if o.1 = (3 : Int) then some (3, o.2.2) else none
set_option maxRecDepth 100000 in
set_option maxHeartbeats 4000000 in
theorem mL_addStep {G : ZG} {l0 : Launch} {ad : Nat → Nat} {h0 : HS} {p1 : Int} {p2 : Int} {p3 : Int} {p4 : Int} {o : Int × HS} (hst : l0.stackTraces = false) (hr : fL_addStep p1 p2 p3 p4 h0 = some o) : ZHi G l0 yL_addStep wsL_addStep ({ frames := 7, cells := 1, slots := 6, locals := 114 } : Room) [.ref (ad 0), .int (iI p1), .int (iI p2), .int (iI p3), .int (iI p4), .ref (ad 50)] sh_h ad ad h0 [3, 4, 5, 6, 50] o.1 o.2 := by
  refine ZHi.of (cc := cL_addStep) (maxL := 7) (ret := (some .int)) (own := RL) (hh := [(0, 14, 17, 21), (0, 14, 21, 13), (0, 14, 25, 15)]) (lv0 := [(0, .ref (ad 0)), (1, .int (iI p1)), (2, .int (iI p2)), (3, .int (iI p3)), (4, .int (iI p4)), (5, .ref (ad 50))]) (by decide) rfl rfl rfl (Nat.le_of_ble_eq_true rfl) rfl ?_
  intro X hX htab hQ
  unfold fL_addStep at hr
  obtain ⟨r1, hc1, hr⟩ := z_bind hr
  refine z_aload hX dL_addStep_0 5 rfl ?_
  refine z_iconst hX dL_addStep_2 ?_
  refine z_aload_n hX dL_addStep_3 0 rfl ?_
  refine z_iload_n hX dL_addStep_4 1 rfl ?_
  refine z_iload_n hX dL_addStep_5 2 rfl ?_
  refine z_iload_n hX dL_addStep_6 3 rfl ?_
  refine z_iload hX dL_addStep_7 4 rfl ?_
  refine z_callC (rest := [(50, .inr (.inl 1))]) (shc := sh_7) (hh := [(0, 14, 17, 21), (0, 14, 21, 13), (0, 14, 25, 15)]) (As := [.int (iI p1), .int (iI p2), .int (iI p3), .int (iI p4)]) (nA := 4) (k1 := 1) (n1 := 6) hX htab (mX5_addStep hst hc1) dL_addStep_9 gL_addStep_X5_addStep rfl ⟨rfl, by decide, by decide, by decide +kernel⟩ ⟨by decide, by decide⟩ ⟨by decide, by decide⟩ 1 rfl rfl rfl rfl (Nat.le_of_ble_eq_true rfl) rfl (by decide) (z_Drf) (fun hf => z_h50 rfl (by decide) hf) (fun hf => z_h50 rfl (by decide) hf) rfl rfl (fun h00 hf => ?_) (fun h00 hf => ?_)
  · rw [if_neg h00] at hr
    by_cases e1 : r1.1 = (1 : Int)
    · rw [if_pos e1] at hr
      obtain rfl := Option.some.inj hr
      rw [e1]
      refine ⟨[], [⟨0, 14, 21, 13⟩, ⟨0, 14, 25, 15⟩], ⟨0, 14, 17, 21⟩, rfl, (fun z hz => absurd hz List.not_mem_nil), by decide, by decide, (by decide +kernel : Cond.classLink RL 21 (zExc 1) ∈ wsL_addStep), fun U hU => hU.2.2.2.2.2.2.2.2.2.2.1, fun q9 => ?_⟩
      refine z_astore (v := q9) hX dL_addStep_17 (by decide) rfl ?_
      refine z_iconst hX dL_addStep_19 ?_
      exact hQ _ _ dL_addStep_20 (zfr_tr zfr_rf (by decide) hf)
    · rw [if_neg e1] at hr
      by_cases e2 : r1.1 = (2 : Int)
      · rw [if_pos e2] at hr
        obtain rfl := Option.some.inj hr
        rw [e2]
        refine ⟨[⟨0, 14, 17, 21⟩], [⟨0, 14, 25, 15⟩], ⟨0, 14, 21, 13⟩, rfl, (fun z hz => by
          obtain rfl := List.mem_singleton.mp hz
          exact Or.inr ⟨by decide, _, (by decide +kernel : Cond.classLink RL 21 (zExc 1) ∈ wsL_addStep), fun U hU => hU.2.2.2.2.2.2.2.2.2.2.2.2.2.1⟩), by decide, by decide, (by decide +kernel : Cond.classLink RL 13 (zExc 2) ∈ wsL_addStep), fun U hU => hU.2.2.2.2.2.2.2.2.2.2.2.1, fun q9 => ?_⟩
        refine z_astore (v := q9) hX dL_addStep_21 (by decide) rfl ?_
        refine z_iconst hX dL_addStep_23 ?_
        exact hQ _ _ dL_addStep_24 (zfr_tr zfr_rf (by decide) hf)
      · rw [if_neg e2] at hr
        by_cases e3 : r1.1 = (3 : Int)
        · rw [if_pos e3] at hr
          obtain rfl := Option.some.inj hr
          rw [e3]
          refine ⟨[⟨0, 14, 17, 21⟩, ⟨0, 14, 21, 13⟩], [], ⟨0, 14, 25, 15⟩, rfl, (fun z hz => by
          rcases List.mem_cons.mp hz with rfl | hz
          · exact Or.inr ⟨by decide, _, (by decide +kernel : Cond.classLink RL 21 (zExc 1) ∈ wsL_addStep), fun U hU => hU.2.2.2.2.2.2.2.2.2.2.2.2.2.2.1⟩
          · obtain rfl := List.mem_singleton.mp hz
            exact Or.inr ⟨by decide, _, (by decide +kernel : Cond.classLink RL 13 (zExc 2) ∈ wsL_addStep), fun U hU => hU.2.2.2.2.2.2.2.2.2.2.2.2.2.2.2.1⟩), by decide, by decide, (by decide +kernel : Cond.classLink RL 15 (zExc 3) ∈ wsL_addStep), fun U hU => hU.2.2.2.2.2.2.2.2.2.2.2.2.1, fun q9 => ?_⟩
          refine z_astore (v := q9) hX dL_addStep_25 (by decide) rfl ?_
          refine z_iconst hX dL_addStep_27 ?_
          exact hQ _ _ dL_addStep_28 (zfr_tr zfr_rf (by decide) hf)
        · rw [if_neg e3] at hr
          cases hr
  · rw [if_pos h00] at hr
    obtain rfl := Option.some.inj hr
    refine z_i2l hX dL_addStep_12 ?_
    refine z_lastore (a := 50) (N := 1) (i := 0) (b := 1) (B := some ()) (o := ()) hX dL_addStep_13 0 rfl (by decide) rfl (if_pos (by decide)) (fun _ => ?_)
    rw [z_i64]
    refine z_goto (tgt := 29) hX dL_addStep_14 (by decide) ?_
    refine z_iconst hX dL_addStep_29 ?_
    exact hQ _ _ dL_addStep_30 (zfr_hs (zfr_tr zfr_rf (by decide) hf) (by decide))

def fL_put (p1 : Int) (p2 : Int) (p3 : Int) (h : HS) : Option (Int × HS) := (fX5_put p1 p2 p3 h).bind fun o => if o.1 = (0 : Int) then some (0, hs o.2.2 50 0 (wr o.2.1)) else if o.1 = (1 : Int) then some (1, o.2.2) else if o.1 = (2 : Int) then some (2, o.2.2) else if o.1 = (3 : Int) then some (3, o.2.2) else none
set_option maxRecDepth 100000 in
set_option maxHeartbeats 4000000 in
theorem mL_put {G : ZG} {l0 : Launch} {ad : Nat → Nat} {h0 : HS} {p1 : Int} {p2 : Int} {p3 : Int} {o : Int × HS} (hst : l0.stackTraces = false) (hr : fL_put p1 p2 p3 h0 = some o) : ZHi G l0 yL_put wsL_put ({ frames := 7, cells := 1, slots := 6, locals := 113 } : Room) [.ref (ad 0), .int (iI p1), .int (iI p2), .int (iI p3), .ref (ad 50)] sh_h ad ad h0 [8, 50] o.1 o.2 := by
  refine ZHi.of (cc := cL_put) (maxL := 6) (ret := (some .int)) (own := RL) (hh := [(0, 12, 15, 21), (0, 12, 19, 13), (0, 12, 23, 15)]) (lv0 := [(0, .ref (ad 0)), (1, .int (iI p1)), (2, .int (iI p2)), (3, .int (iI p3)), (4, .ref (ad 50))]) (by decide) rfl rfl rfl (Nat.le_of_ble_eq_true rfl) rfl ?_
  intro X hX htab hQ
  unfold fL_put at hr
  obtain ⟨r1, hc1, hr⟩ := z_bind hr
  refine z_aload hX dL_put_0 4 rfl ?_
  refine z_iconst hX dL_put_2 ?_
  refine z_aload_n hX dL_put_3 0 rfl ?_
  refine z_iload_n hX dL_put_4 1 rfl ?_
  refine z_iload_n hX dL_put_5 2 rfl ?_
  refine z_iload_n hX dL_put_6 3 rfl ?_
  refine z_callC (rest := [(50, .inr (.inl 1))]) (shc := sh_7) (hh := [(0, 12, 15, 21), (0, 12, 19, 13), (0, 12, 23, 15)]) (As := [.int (iI p1), .int (iI p2), .int (iI p3)]) (nA := 3) (k1 := 1) (n1 := 6) hX htab (mX5_put hst hc1) dL_put_7 gL_put_X5_put rfl ⟨rfl, by decide, by decide, by decide +kernel⟩ ⟨by decide, by decide⟩ ⟨by decide, by decide⟩ 1 rfl rfl rfl rfl (Nat.le_of_ble_eq_true rfl) rfl (by decide) (z_Drf) (fun hf => z_h50 rfl (by decide) hf) (fun hf => z_h50 rfl (by decide) hf) rfl rfl (fun h00 hf => ?_) (fun h00 hf => ?_)
  · rw [if_neg h00] at hr
    by_cases e1 : r1.1 = (1 : Int)
    · rw [if_pos e1] at hr
      obtain rfl := Option.some.inj hr
      rw [e1]
      refine ⟨[], [⟨0, 12, 19, 13⟩, ⟨0, 12, 23, 15⟩], ⟨0, 12, 15, 21⟩, rfl, (fun z hz => absurd hz List.not_mem_nil), by decide, by decide, (by decide +kernel : Cond.classLink RL 21 (zExc 1) ∈ wsL_put), fun U hU => hU.2.2.2.2.2.2.2.2.2.2.1, fun q9 => ?_⟩
      refine z_astore (v := q9) hX dL_put_15 (by decide) rfl ?_
      refine z_iconst hX dL_put_17 ?_
      exact hQ _ _ dL_put_18 (zfr_tr zfr_rf (by decide) hf)
    · rw [if_neg e1] at hr
      by_cases e2 : r1.1 = (2 : Int)
      · rw [if_pos e2] at hr
        obtain rfl := Option.some.inj hr
        rw [e2]
        refine ⟨[⟨0, 12, 15, 21⟩], [⟨0, 12, 23, 15⟩], ⟨0, 12, 19, 13⟩, rfl, (fun z hz => by
          obtain rfl := List.mem_singleton.mp hz
          exact Or.inr ⟨by decide, _, (by decide +kernel : Cond.classLink RL 21 (zExc 1) ∈ wsL_put), fun U hU => hU.2.2.2.2.2.2.2.2.2.2.2.2.2.1⟩), by decide, by decide, (by decide +kernel : Cond.classLink RL 13 (zExc 2) ∈ wsL_put), fun U hU => hU.2.2.2.2.2.2.2.2.2.2.2.1, fun q9 => ?_⟩
        refine z_astore (v := q9) hX dL_put_19 (by decide) rfl ?_
        refine z_iconst hX dL_put_21 ?_
        exact hQ _ _ dL_put_22 (zfr_tr zfr_rf (by decide) hf)
      · rw [if_neg e2] at hr
        by_cases e3 : r1.1 = (3 : Int)
        · rw [if_pos e3] at hr
          obtain rfl := Option.some.inj hr
          rw [e3]
          refine ⟨[⟨0, 12, 15, 21⟩, ⟨0, 12, 19, 13⟩], [], ⟨0, 12, 23, 15⟩, rfl, (fun z hz => by
          rcases List.mem_cons.mp hz with rfl | hz
          · exact Or.inr ⟨by decide, _, (by decide +kernel : Cond.classLink RL 21 (zExc 1) ∈ wsL_put), fun U hU => hU.2.2.2.2.2.2.2.2.2.2.2.2.2.2.1⟩
          · obtain rfl := List.mem_singleton.mp hz
            exact Or.inr ⟨by decide, _, (by decide +kernel : Cond.classLink RL 13 (zExc 2) ∈ wsL_put), fun U hU => hU.2.2.2.2.2.2.2.2.2.2.2.2.2.2.2.1⟩), by decide, by decide, (by decide +kernel : Cond.classLink RL 15 (zExc 3) ∈ wsL_put), fun U hU => hU.2.2.2.2.2.2.2.2.2.2.2.2.1, fun q9 => ?_⟩
          refine z_astore (v := q9) hX dL_put_23 (by decide) rfl ?_
          refine z_iconst hX dL_put_25 ?_
          exact hQ _ _ dL_put_26 (zfr_tr zfr_rf (by decide) hf)
        · rw [if_neg e3] at hr
          cases hr
  · rw [if_pos h00] at hr
    obtain rfl := Option.some.inj hr
    refine z_i2l hX dL_put_10 ?_
    refine z_lastore (a := 50) (N := 1) (i := 0) (b := 1) (B := some ()) (o := ()) hX dL_put_11 0 rfl (by decide) rfl (if_pos (by decide)) (fun _ => ?_)
    rw [z_i64]
    refine z_goto (tgt := 27) hX dL_put_12 (by decide) ?_
    refine z_iconst hX dL_put_27 ?_
    exact hQ _ _ dL_put_28 (zfr_hs (zfr_tr zfr_rf (by decide) hf) (by decide))

def fL_at (p1 : Int) (h : HS) : Option (Int × HS) := (fX5_at p1 h).bind fun o => if o.1 = (0 : Int) then some (0, hs o.2.2 50 0 (wr o.2.1)) else if o.1 = (1 : Int) then some (1, o.2.2) else none
set_option maxRecDepth 100000 in
set_option maxHeartbeats 4000000 in
theorem mL_at {G : ZG} {l0 : Launch} {ad : Nat → Nat} {h0 : HS} {p1 : Int} {o : Int × HS} (hst : l0.stackTraces = false) (hr : fL_at p1 h0 = some o) : ZHi G l0 yL_at wsL_at ({ frames := 7, cells := 1, slots := 6, locals := 111 } : Room) [.ref (ad 0), .int (iI p1), .ref (ad 50)] sh_h ad ad h0 [50] o.1 o.2 := by
  refine ZHi.of (cc := cL_at) (maxL := 4) (ret := (some .int)) (own := RL) (hh := [(0, 9, 12, 21)]) (lv0 := [(0, .ref (ad 0)), (1, .int (iI p1)), (2, .ref (ad 50))]) (by decide) rfl rfl rfl (Nat.le_of_ble_eq_true rfl) rfl ?_
  intro X hX htab hQ
  unfold fL_at at hr
  obtain ⟨r1, hc1, hr⟩ := z_bind hr
  refine z_aload_n hX dL_at_0 2 rfl ?_
  refine z_iconst hX dL_at_1 ?_
  refine z_aload_n hX dL_at_2 0 rfl ?_
  refine z_iload_n hX dL_at_3 1 rfl ?_
  refine z_callC (rest := [(50, .inr (.inl 1))]) (shc := sh_7) (hh := [(0, 9, 12, 21)]) (As := [.int (iI p1)]) (nA := 1) (k1 := 1) (n1 := 6) hX htab (mX5_at hst hc1) dL_at_4 gL_at_X5_at rfl ⟨rfl, by decide, by decide, by decide +kernel⟩ ⟨by decide, by decide⟩ ⟨by decide, by decide⟩ 1 rfl rfl rfl rfl (Nat.le_of_ble_eq_true rfl) rfl (by decide) (z_Drf) (fun hf => z_h50 rfl (by decide) hf) (fun hf => z_h50 rfl (by decide) hf) rfl rfl (fun h00 hf => ?_) (fun h00 hf => ?_)
  · rw [if_neg h00] at hr
    by_cases e1 : r1.1 = (1 : Int)
    · rw [if_pos e1] at hr
      obtain rfl := Option.some.inj hr
      rw [e1]
      refine ⟨[], [], ⟨0, 9, 12, 21⟩, rfl, (fun z hz => absurd hz List.not_mem_nil), by decide, by decide, (by decide +kernel : Cond.classLink RL 21 (zExc 1) ∈ wsL_at), fun U hU => hU.2.2.2.2.2.2.2.2.2.2.1, fun q9 => ?_⟩
      refine z_astore_n (v := q9) hX dL_at_12 (by decide) rfl ?_
      refine z_iconst hX dL_at_13 ?_
      exact hQ _ _ dL_at_14 (zfr_tr zfr_rf (by decide) hf)
    · rw [if_neg e1] at hr
      cases hr
  · rw [if_pos h00] at hr
    obtain rfl := Option.some.inj hr
    refine z_i2l hX dL_at_7 ?_
    refine z_lastore (a := 50) (N := 1) (i := 0) (b := 1) (B := some ()) (o := ()) hX dL_at_8 0 rfl (by decide) rfl (if_pos (by decide)) (fun _ => ?_)
    rw [z_i64]
    refine z_goto (tgt := 15) hX dL_at_9 (by decide) ?_
    refine z_iconst hX dL_at_15 ?_
    exact hQ _ _ dL_at_16 (zfr_hs (zfr_tr zfr_rf (by decide) hf) (by decide))

def fL_state (p1 : Int) (h : HS) : Option (Int × HS) := (fX5_state p1 h).bind fun o => if o.1 = (0 : Int) then some (0, hs o.2.2 50 0 (wr o.2.1)) else if o.1 = (1 : Int) then some (1, o.2.2) else none
set_option maxRecDepth 100000 in
set_option maxHeartbeats 4000000 in
theorem mL_state {G : ZG} {l0 : Launch} {ad : Nat → Nat} {h0 : HS} {p1 : Int} {o : Int × HS} (hst : l0.stackTraces = false) (hr : fL_state p1 h0 = some o) : ZHi G l0 yL_state wsL_state ({ frames := 7, cells := 1, slots := 6, locals := 133 } : Room) [.ref (ad 0), .int (iI p1), .ref (ad 50)] sh_h ad ad h0 [8, 50] o.1 o.2 := by
  refine ZHi.of (cc := cL_state) (maxL := 4) (ret := (some .int)) (own := RL) (hh := [(0, 9, 12, 21)]) (lv0 := [(0, .ref (ad 0)), (1, .int (iI p1)), (2, .ref (ad 50))]) (by decide) rfl rfl rfl (Nat.le_of_ble_eq_true rfl) rfl ?_
  intro X hX htab hQ
  unfold fL_state at hr
  obtain ⟨r1, hc1, hr⟩ := z_bind hr
  refine z_aload_n hX dL_state_0 2 rfl ?_
  refine z_iconst hX dL_state_1 ?_
  refine z_aload_n hX dL_state_2 0 rfl ?_
  refine z_iload_n hX dL_state_3 1 rfl ?_
  refine z_callC (rest := [(50, .inr (.inl 1))]) (shc := sh_7) (hh := [(0, 9, 12, 21)]) (As := [.int (iI p1)]) (nA := 1) (k1 := 1) (n1 := 6) hX htab (mX5_state hst hc1) dL_state_4 gL_state_X5_state rfl ⟨rfl, by decide, by decide, by decide +kernel⟩ ⟨by decide, by decide⟩ ⟨by decide, by decide⟩ 1 rfl rfl rfl rfl (Nat.le_of_ble_eq_true rfl) rfl (by decide) (z_Drf) (fun hf => z_h50 rfl (by decide) hf) (fun hf => z_h50 rfl (by decide) hf) rfl rfl (fun h00 hf => ?_) (fun h00 hf => ?_)
  · rw [if_neg h00] at hr
    by_cases e1 : r1.1 = (1 : Int)
    · rw [if_pos e1] at hr
      obtain rfl := Option.some.inj hr
      rw [e1]
      refine ⟨[], [], ⟨0, 9, 12, 21⟩, rfl, (fun z hz => absurd hz List.not_mem_nil), by decide, by decide, (by decide +kernel : Cond.classLink RL 21 (zExc 1) ∈ wsL_state), fun U hU => hU.2.2.2.2.2.2.2.2.2.2.1, fun q9 => ?_⟩
      refine z_astore_n (v := q9) hX dL_state_12 (by decide) rfl ?_
      refine z_iconst hX dL_state_13 ?_
      exact hQ _ _ dL_state_14 (zfr_tr zfr_rf (by decide) hf)
    · rw [if_neg e1] at hr
      cases hr
  · rw [if_pos h00] at hr
    obtain rfl := Option.some.inj hr
    refine z_i2l hX dL_state_7 ?_
    refine z_lastore (a := 50) (N := 1) (i := 0) (b := 1) (B := some ()) (o := ()) hX dL_state_8 0 rfl (by decide) rfl (if_pos (by decide)) (fun _ => ?_)
    rw [z_i64]
    refine z_goto (tgt := 15) hX dL_state_9 (by decide) ?_
    refine z_iconst hX dL_state_15 ?_
    exact hQ _ _ dL_state_16 (zfr_hs (zfr_tr zfr_rf (by decide) hf) (by decide))

def fL_reason (p1 : Int) (p2 : Int) (h : HS) : Option (Int × HS) := (fX5_reason p1 p2 h).bind fun o => if o.1 = (0 : Int) then some (0, hs o.2.2 50 0 (wr o.2.1)) else if o.1 = (1 : Int) then some (1, o.2.2) else none
set_option maxRecDepth 100000 in
set_option maxHeartbeats 4000000 in
theorem mL_reason {G : ZG} {l0 : Launch} {ad : Nat → Nat} {h0 : HS} {p1 : Int} {p2 : Int} {o : Int × HS} (hst : l0.stackTraces = false) (hr : fL_reason p1 p2 h0 = some o) : ZHi G l0 yL_reason wsL_reason ({ frames := 7, cells := 1, slots := 6, locals := 129 } : Room) [.ref (ad 0), .int (iI p1), .int (iI p2), .ref (ad 50)] sh_h ad ad h0 [8, 50] o.1 o.2 := by
  refine ZHi.of (cc := cL_reason) (maxL := 5) (ret := (some .int)) (own := RL) (hh := [(0, 10, 13, 21)]) (lv0 := [(0, .ref (ad 0)), (1, .int (iI p1)), (2, .int (iI p2)), (3, .ref (ad 50))]) (by decide) rfl rfl rfl (Nat.le_of_ble_eq_true rfl) rfl ?_
  intro X hX htab hQ
  unfold fL_reason at hr
  obtain ⟨r1, hc1, hr⟩ := z_bind hr
  refine z_aload_n hX dL_reason_0 3 rfl ?_
  refine z_iconst hX dL_reason_1 ?_
  refine z_aload_n hX dL_reason_2 0 rfl ?_
  refine z_iload_n hX dL_reason_3 1 rfl ?_
  refine z_iload_n hX dL_reason_4 2 rfl ?_
  refine z_callC (rest := [(50, .inr (.inl 1))]) (shc := sh_7) (hh := [(0, 10, 13, 21)]) (As := [.int (iI p1), .int (iI p2)]) (nA := 2) (k1 := 1) (n1 := 6) hX htab (mX5_reason hst hc1) dL_reason_5 gL_reason_X5_reason rfl ⟨rfl, by decide, by decide, by decide +kernel⟩ ⟨by decide, by decide⟩ ⟨by decide, by decide⟩ 1 rfl rfl rfl rfl (Nat.le_of_ble_eq_true rfl) rfl (by decide) (z_Drf) (fun hf => z_h50 rfl (by decide) hf) (fun hf => z_h50 rfl (by decide) hf) rfl rfl (fun h00 hf => ?_) (fun h00 hf => ?_)
  · rw [if_neg h00] at hr
    by_cases e1 : r1.1 = (1 : Int)
    · rw [if_pos e1] at hr
      obtain rfl := Option.some.inj hr
      rw [e1]
      refine ⟨[], [], ⟨0, 10, 13, 21⟩, rfl, (fun z hz => absurd hz List.not_mem_nil), by decide, by decide, (by decide +kernel : Cond.classLink RL 21 (zExc 1) ∈ wsL_reason), fun U hU => hU.2.2.2.2.2.2.2.2.2.2.1, fun q9 => ?_⟩
      refine z_astore (v := q9) hX dL_reason_13 (by decide) rfl ?_
      refine z_iconst hX dL_reason_15 ?_
      exact hQ _ _ dL_reason_16 (zfr_tr zfr_rf (by decide) hf)
    · rw [if_neg e1] at hr
      cases hr
  · rw [if_pos h00] at hr
    obtain rfl := Option.some.inj hr
    refine z_i2l hX dL_reason_8 ?_
    refine z_lastore (a := 50) (N := 1) (i := 0) (b := 1) (B := some ()) (o := ()) hX dL_reason_9 0 rfl (by decide) rfl (if_pos (by decide)) (fun _ => ?_)
    rw [z_i64]
    refine z_goto (tgt := 17) hX dL_reason_10 (by decide) ?_
    refine z_iconst hX dL_reason_17 ?_
    exact hQ _ _ dL_reason_18 (zfr_hs (zfr_tr zfr_rf (by decide) hf) (by decide))

def fL_play (p1 : Int) (p2 : Int) (h : HS) : Option (Int × HS) := (fX5_play p1 p2 h).bind fun o => if o.1 = (0 : Int) then some (0, hs o.2.2 50 0 (wr o.2.1)) else if o.1 = (1 : Int) then some (1, o.2.2) else if o.1 = (3 : Int) then some (2, o.2.2) else none
set_option maxRecDepth 100000 in
set_option maxHeartbeats 4000000 in
theorem mL_play {G : ZG} {l0 : Launch} {ad : Nat → Nat} {h0 : HS} {p1 : Int} {p2 : Int} {o : Int × HS} (hst : l0.stackTraces = false) (hr : fL_play p1 p2 h0 = some o) : ZHi G l0 yL_play wsL_play ({ frames := 7, cells := 1, slots := 6, locals := 129 } : Room) [.ref (ad 0), .int (iI p1), .int (iI p2), .ref (ad 50)] sh_h ad ad h0 [0, 8, 9, 10, 11, 12, 13, 14, 15, 16, 17, 50] o.1 o.2 := by
  refine ZHi.of (cc := cL_play) (maxL := 5) (ret := (some .int)) (own := RL) (hh := [(0, 10, 13, 21), (0, 10, 17, 15)]) (lv0 := [(0, .ref (ad 0)), (1, .int (iI p1)), (2, .int (iI p2)), (3, .ref (ad 50))]) (by decide) rfl rfl rfl (Nat.le_of_ble_eq_true rfl) rfl ?_
  intro X hX htab hQ
  unfold fL_play at hr
  obtain ⟨r1, hc1, hr⟩ := z_bind hr
  refine z_aload_n hX dL_play_0 3 rfl ?_
  refine z_iconst hX dL_play_1 ?_
  refine z_aload_n hX dL_play_2 0 rfl ?_
  refine z_iload_n hX dL_play_3 1 rfl ?_
  refine z_iload_n hX dL_play_4 2 rfl ?_
  refine z_callC (rest := [(50, .inr (.inl 1))]) (shc := sh_7) (hh := [(0, 10, 13, 21), (0, 10, 17, 15)]) (As := [.int (iI p1), .int (iI p2)]) (nA := 2) (k1 := 1) (n1 := 6) hX htab (mX5_play hst hc1) dL_play_5 gL_play_X5_play rfl ⟨rfl, by decide, by decide, by decide +kernel⟩ ⟨by decide, by decide⟩ ⟨by decide, by decide⟩ 1 rfl rfl rfl rfl (Nat.le_of_ble_eq_true rfl) rfl (by decide) (z_Drf) (fun hf => z_h50 rfl (by decide) hf) (fun hf => z_h50 rfl (by decide) hf) rfl rfl (fun h00 hf => ?_) (fun h00 hf => ?_)
  · rw [if_neg h00] at hr
    by_cases e1 : r1.1 = (1 : Int)
    · rw [if_pos e1] at hr
      obtain rfl := Option.some.inj hr
      rw [e1]
      refine ⟨[], [⟨0, 10, 17, 15⟩], ⟨0, 10, 13, 21⟩, rfl, (fun z hz => absurd hz List.not_mem_nil), by decide, by decide, (by decide +kernel : Cond.classLink RL 21 (zExc 1) ∈ wsL_play), fun U hU => hU.2.2.2.2.2.2.2.2.2.2.1, fun q9 => ?_⟩
      refine z_astore (v := q9) hX dL_play_13 (by decide) rfl ?_
      refine z_iconst hX dL_play_15 ?_
      exact hQ _ _ dL_play_16 (zfr_tr zfr_rf (by decide) hf)
    · rw [if_neg e1] at hr
      by_cases e3 : r1.1 = (3 : Int)
      · rw [if_pos e3] at hr
        obtain rfl := Option.some.inj hr
        rw [e3]
        refine ⟨[⟨0, 10, 13, 21⟩], [], ⟨0, 10, 17, 15⟩, rfl, (fun z hz => by
          obtain rfl := List.mem_singleton.mp hz
          exact Or.inr ⟨by decide, _, (by decide +kernel : Cond.classLink RL 21 (zExc 1) ∈ wsL_play), fun U hU => hU.2.2.2.2.2.2.2.2.2.2.2.2.2.2.1⟩), by decide, by decide, (by decide +kernel : Cond.classLink RL 15 (zExc 3) ∈ wsL_play), fun U hU => hU.2.2.2.2.2.2.2.2.2.2.2.2.1, fun q9 => ?_⟩
        refine z_astore (v := q9) hX dL_play_17 (by decide) rfl ?_
        refine z_iconst hX dL_play_19 ?_
        exact hQ _ _ dL_play_20 (zfr_tr zfr_rf (by decide) hf)
      · rw [if_neg e3] at hr
        cases hr
  · rw [if_pos h00] at hr
    obtain rfl := Option.some.inj hr
    refine z_i2l hX dL_play_8 ?_
    refine z_lastore (a := 50) (N := 1) (i := 0) (b := 1) (B := some ()) (o := ()) hX dL_play_9 0 rfl (by decide) rfl (if_pos (by decide)) (fun _ => ?_)
    rw [z_i64]
    refine z_goto (tgt := 21) hX dL_play_10 (by decide) ?_
    refine z_iconst hX dL_play_21 ?_
    exact hQ _ _ dL_play_22 (zfr_hs (zfr_tr zfr_rf (by decide) hf) (by decide))

def fL_feed (p1 : Int) (p2 : Int) (p3 : Int) (p4 : Int) (h : HS) : Option (Int × HS) := (fX5_feed p1 p2 p3 p4 h).bind fun o => if o.1 = (0 : Int) then some (0, hs o.2.2 50 0 (wr o.2.1)) else if o.1 = (2 : Int) then some (1, o.2.2) else if o.1 = (3 : Int) then some (2, o.2.2) else none
set_option maxRecDepth 100000 in
set_option maxHeartbeats 4000000 in
theorem mL_feed {G : ZG} {l0 : Launch} {ad : Nat → Nat} {h0 : HS} {p1 : Int} {p2 : Int} {p3 : Int} {p4 : Int} {o : Int × HS} (hst : l0.stackTraces = false) (hr : fL_feed p1 p2 p3 p4 h0 = some o) : ZHi G l0 yL_feed wsL_feed ({ frames := 7, cells := 1, slots := 6, locals := 115 } : Room) [.ref (ad 0), .int (iI p1), .int (iI p2), .int (iI p3), .int (iI p4), .ref (ad 50)] sh_h ad ad h0 [19, 20, 50] o.1 o.2 := by
  refine ZHi.of (cc := cL_feed) (maxL := 7) (ret := (some .int)) (own := RL) (hh := [(0, 14, 17, 13), (0, 14, 21, 15)]) (lv0 := [(0, .ref (ad 0)), (1, .int (iI p1)), (2, .int (iI p2)), (3, .int (iI p3)), (4, .int (iI p4)), (5, .ref (ad 50))]) (by decide) rfl rfl rfl (Nat.le_of_ble_eq_true rfl) rfl ?_
  intro X hX htab hQ
  unfold fL_feed at hr
  obtain ⟨r1, hc1, hr⟩ := z_bind hr
  refine z_aload hX dL_feed_0 5 rfl ?_
  refine z_iconst hX dL_feed_2 ?_
  refine z_aload_n hX dL_feed_3 0 rfl ?_
  refine z_iload_n hX dL_feed_4 1 rfl ?_
  refine z_iload_n hX dL_feed_5 2 rfl ?_
  refine z_iload_n hX dL_feed_6 3 rfl ?_
  refine z_iload hX dL_feed_7 4 rfl ?_
  refine z_callC (rest := [(50, .inr (.inl 1))]) (shc := sh_7) (hh := [(0, 14, 17, 13), (0, 14, 21, 15)]) (As := [.int (iI p1), .int (iI p2), .int (iI p3), .int (iI p4)]) (nA := 4) (k1 := 1) (n1 := 6) hX htab (mX5_feed hst hc1) dL_feed_9 gL_feed_X5_feed rfl ⟨rfl, by decide, by decide, by decide +kernel⟩ ⟨by decide, by decide⟩ ⟨by decide, by decide⟩ 1 rfl rfl rfl rfl (Nat.le_of_ble_eq_true rfl) rfl (by decide) (z_Drf) (fun hf => z_h50 rfl (by decide) hf) (fun hf => z_h50 rfl (by decide) hf) rfl rfl (fun h00 hf => ?_) (fun h00 hf => ?_)
  · rw [if_neg h00] at hr
    by_cases e2 : r1.1 = (2 : Int)
    · rw [if_pos e2] at hr
      obtain rfl := Option.some.inj hr
      rw [e2]
      refine ⟨[], [⟨0, 14, 21, 15⟩], ⟨0, 14, 17, 13⟩, rfl, (fun z hz => absurd hz List.not_mem_nil), by decide, by decide, (by decide +kernel : Cond.classLink RL 13 (zExc 2) ∈ wsL_feed), fun U hU => hU.2.2.2.2.2.2.2.2.2.2.2.1, fun q9 => ?_⟩
      refine z_astore (v := q9) hX dL_feed_17 (by decide) rfl ?_
      refine z_iconst hX dL_feed_19 ?_
      exact hQ _ _ dL_feed_20 (zfr_tr zfr_rf (by decide) hf)
    · rw [if_neg e2] at hr
      by_cases e3 : r1.1 = (3 : Int)
      · rw [if_pos e3] at hr
        obtain rfl := Option.some.inj hr
        rw [e3]
        refine ⟨[⟨0, 14, 17, 13⟩], [], ⟨0, 14, 21, 15⟩, rfl, (fun z hz => by
          obtain rfl := List.mem_singleton.mp hz
          exact Or.inr ⟨by decide, _, (by decide +kernel : Cond.classLink RL 13 (zExc 2) ∈ wsL_feed), fun U hU => hU.2.2.2.2.2.2.2.2.2.2.2.2.2.2.2.1⟩), by decide, by decide, (by decide +kernel : Cond.classLink RL 15 (zExc 3) ∈ wsL_feed), fun U hU => hU.2.2.2.2.2.2.2.2.2.2.2.2.1, fun q9 => ?_⟩
        refine z_astore (v := q9) hX dL_feed_21 (by decide) rfl ?_
        refine z_iconst hX dL_feed_23 ?_
        exact hQ _ _ dL_feed_24 (zfr_tr zfr_rf (by decide) hf)
      · rw [if_neg e3] at hr
        cases hr
  · rw [if_pos h00] at hr
    obtain rfl := Option.some.inj hr
    refine z_i2l hX dL_feed_12 ?_
    refine z_lastore (a := 50) (N := 1) (i := 0) (b := 1) (B := some ()) (o := ()) hX dL_feed_13 0 rfl (by decide) rfl (if_pos (by decide)) (fun _ => ?_)
    rw [z_i64]
    refine z_goto (tgt := 25) hX dL_feed_14 (by decide) ?_
    refine z_iconst hX dL_feed_25 ?_
    exact hQ _ _ dL_feed_26 (zfr_hs (zfr_tr zfr_rf (by decide) hf) (by decide))

def fL_found (p1 : Int) (h : HS) : Option (Int × HS) := (fX5_found p1 h).bind fun o => if o.1 = (0 : Int) then some (0, hs o.2.2 50 0 (wr o.2.1)) else if o.1 = (1 : Int) then some (1, o.2.2) else none
set_option maxRecDepth 100000 in
set_option maxHeartbeats 4000000 in
theorem mL_found {G : ZG} {l0 : Launch} {ad : Nat → Nat} {h0 : HS} {p1 : Int} {o : Int × HS} (hst : l0.stackTraces = false) (hr : fL_found p1 h0 = some o) : ZHi G l0 yL_found wsL_found ({ frames := 7, cells := 1, slots := 6, locals := 111 } : Room) [.ref (ad 0), .int (iI p1), .ref (ad 50)] sh_h ad ad h0 [50] o.1 o.2 := by
  refine ZHi.of (cc := cL_found) (maxL := 4) (ret := (some .int)) (own := RL) (hh := [(0, 9, 12, 21)]) (lv0 := [(0, .ref (ad 0)), (1, .int (iI p1)), (2, .ref (ad 50))]) (by decide) rfl rfl rfl (Nat.le_of_ble_eq_true rfl) rfl ?_
  intro X hX htab hQ
  unfold fL_found at hr
  obtain ⟨r1, hc1, hr⟩ := z_bind hr
  refine z_aload_n hX dL_found_0 2 rfl ?_
  refine z_iconst hX dL_found_1 ?_
  refine z_aload_n hX dL_found_2 0 rfl ?_
  refine z_iload_n hX dL_found_3 1 rfl ?_
  refine z_callC (rest := [(50, .inr (.inl 1))]) (shc := sh_7) (hh := [(0, 9, 12, 21)]) (As := [.int (iI p1)]) (nA := 1) (k1 := 1) (n1 := 6) hX htab (mX5_found hst hc1) dL_found_4 gL_found_X5_found rfl ⟨rfl, by decide, by decide, by decide +kernel⟩ ⟨by decide, by decide⟩ ⟨by decide, by decide⟩ 1 rfl rfl rfl rfl (Nat.le_of_ble_eq_true rfl) rfl (by decide) (z_Drf) (fun hf => z_h50 rfl (by decide) hf) (fun hf => z_h50 rfl (by decide) hf) rfl rfl (fun h00 hf => ?_) (fun h00 hf => ?_)
  · rw [if_neg h00] at hr
    by_cases e1 : r1.1 = (1 : Int)
    · rw [if_pos e1] at hr
      obtain rfl := Option.some.inj hr
      rw [e1]
      refine ⟨[], [], ⟨0, 9, 12, 21⟩, rfl, (fun z hz => absurd hz List.not_mem_nil), by decide, by decide, (by decide +kernel : Cond.classLink RL 21 (zExc 1) ∈ wsL_found), fun U hU => hU.2.2.2.2.2.2.2.2.2.2.1, fun q9 => ?_⟩
      refine z_astore_n (v := q9) hX dL_found_12 (by decide) rfl ?_
      refine z_iconst hX dL_found_13 ?_
      exact hQ _ _ dL_found_14 (zfr_tr zfr_rf (by decide) hf)
    · rw [if_neg e1] at hr
      cases hr
  · rw [if_pos h00] at hr
    obtain rfl := Option.some.inj hr
    refine z_i2l hX dL_found_7 ?_
    refine z_lastore (a := 50) (N := 1) (i := 0) (b := 1) (B := some ()) (o := ()) hX dL_found_8 0 rfl (by decide) rfl (if_pos (by decide)) (fun _ => ?_)
    rw [z_i64]
    refine z_goto (tgt := 15) hX dL_found_9 (by decide) ?_
    refine z_iconst hX dL_found_15 ?_
    exact hQ _ _ dL_found_16 (zfr_hs (zfr_tr zfr_rf (by decide) hf) (by decide))

def fL_write (p1 : Int) (p2 : Int) (h : HS) : Option (Int × HS) := (fX5_write p1 p2 h).bind fun o => if o.1 = (0 : Int) then some (0, hs o.2.2 50 0 (wr o.2.1)) else if o.1 = (1 : Int) then some (1, o.2.2) else if o.1 = (3 : Int) then some (2, o.2.2) else none
set_option maxRecDepth 100000 in
set_option maxHeartbeats 4000000 in
theorem mL_write {G : ZG} {l0 : Launch} {ad : Nat → Nat} {h0 : HS} {p1 : Int} {p2 : Int} {o : Int × HS} (hst : l0.stackTraces = false) (hr : fL_write p1 p2 h0 = some o) : ZHi G l0 yL_write wsL_write ({ frames := 7, cells := 1, slots := 6, locals := 184 } : Room) [.ref (ad 0), .int (iI p1), .int (iI p2), .ref (ad 50)] sh_h ad ad h0 [8, 19, 20, 50] o.1 o.2 := by
  refine ZHi.of (cc := cL_write) (maxL := 5) (ret := (some .int)) (own := RL) (hh := [(0, 10, 13, 21), (0, 10, 17, 15)]) (lv0 := [(0, .ref (ad 0)), (1, .int (iI p1)), (2, .int (iI p2)), (3, .ref (ad 50))]) (by decide) rfl rfl rfl (Nat.le_of_ble_eq_true rfl) rfl ?_
  intro X hX htab hQ
  unfold fL_write at hr
  obtain ⟨r1, hc1, hr⟩ := z_bind hr
  refine z_aload_n hX dL_write_0 3 rfl ?_
  refine z_iconst hX dL_write_1 ?_
  refine z_aload_n hX dL_write_2 0 rfl ?_
  refine z_iload_n hX dL_write_3 1 rfl ?_
  refine z_iload_n hX dL_write_4 2 rfl ?_
  refine z_callC (rest := [(50, .inr (.inl 1))]) (shc := sh_7) (hh := [(0, 10, 13, 21), (0, 10, 17, 15)]) (As := [.int (iI p1), .int (iI p2)]) (nA := 2) (k1 := 1) (n1 := 6) hX htab (mX5_write hst hc1) dL_write_5 gL_write_X5_write rfl ⟨rfl, by decide, by decide, by decide +kernel⟩ ⟨by decide, by decide⟩ ⟨by decide, by decide⟩ 1 rfl rfl rfl rfl (Nat.le_of_ble_eq_true rfl) rfl (by decide) (z_Drf) (fun hf => z_h50 rfl (by decide) hf) (fun hf => z_h50 rfl (by decide) hf) rfl rfl (fun h00 hf => ?_) (fun h00 hf => ?_)
  · rw [if_neg h00] at hr
    by_cases e1 : r1.1 = (1 : Int)
    · rw [if_pos e1] at hr
      obtain rfl := Option.some.inj hr
      rw [e1]
      refine ⟨[], [⟨0, 10, 17, 15⟩], ⟨0, 10, 13, 21⟩, rfl, (fun z hz => absurd hz List.not_mem_nil), by decide, by decide, (by decide +kernel : Cond.classLink RL 21 (zExc 1) ∈ wsL_write), fun U hU => hU.2.2.2.2.2.2.2.2.2.2.1, fun q9 => ?_⟩
      refine z_astore (v := q9) hX dL_write_13 (by decide) rfl ?_
      refine z_iconst hX dL_write_15 ?_
      exact hQ _ _ dL_write_16 (zfr_tr zfr_rf (by decide) hf)
    · rw [if_neg e1] at hr
      by_cases e3 : r1.1 = (3 : Int)
      · rw [if_pos e3] at hr
        obtain rfl := Option.some.inj hr
        rw [e3]
        refine ⟨[⟨0, 10, 13, 21⟩], [], ⟨0, 10, 17, 15⟩, rfl, (fun z hz => by
          obtain rfl := List.mem_singleton.mp hz
          exact Or.inr ⟨by decide, _, (by decide +kernel : Cond.classLink RL 21 (zExc 1) ∈ wsL_write), fun U hU => hU.2.2.2.2.2.2.2.2.2.2.2.2.2.2.1⟩), by decide, by decide, (by decide +kernel : Cond.classLink RL 15 (zExc 3) ∈ wsL_write), fun U hU => hU.2.2.2.2.2.2.2.2.2.2.2.2.1, fun q9 => ?_⟩
        refine z_astore (v := q9) hX dL_write_17 (by decide) rfl ?_
        refine z_iconst hX dL_write_19 ?_
        exact hQ _ _ dL_write_20 (zfr_tr zfr_rf (by decide) hf)
      · rw [if_neg e3] at hr
        cases hr
  · rw [if_pos h00] at hr
    obtain rfl := Option.some.inj hr
    refine z_i2l hX dL_write_8 ?_
    refine z_lastore (a := 50) (N := 1) (i := 0) (b := 1) (B := some ()) (o := ()) hX dL_write_9 0 rfl (by decide) rfl (if_pos (by decide)) (fun _ => ?_)
    rw [z_i64]
    refine z_goto (tgt := 21) hX dL_write_10 (by decide) ?_
    refine z_iconst hX dL_write_21 ?_
    exact hQ _ _ dL_write_22 (zfr_hs (zfr_tr zfr_rf (by decide) hf) (by decide))

def fL_byteAt (p1 : Int) (h : HS) : Option (Int × HS) := (fX5_byteAt p1 h).bind fun o => if o.1 = (0 : Int) then some (0, hs o.2.2 50 0 (wr o.2.1)) else if o.1 = (1 : Int) then some (1, o.2.2) else none
set_option maxRecDepth 100000 in
set_option maxHeartbeats 4000000 in
theorem mL_byteAt {G : ZG} {l0 : Launch} {ad : Nat → Nat} {h0 : HS} {p1 : Int} {o : Int × HS} (hst : l0.stackTraces = false) (hr : fL_byteAt p1 h0 = some o) : ZHi G l0 yL_byteAt wsL_byteAt ({ frames := 7, cells := 1, slots := 6, locals := 111 } : Room) [.ref (ad 0), .int (iI p1), .ref (ad 50)] sh_h ad ad h0 [50] o.1 o.2 := by
  refine ZHi.of (cc := cL_byteAt) (maxL := 4) (ret := (some .int)) (own := RL) (hh := [(0, 9, 12, 21)]) (lv0 := [(0, .ref (ad 0)), (1, .int (iI p1)), (2, .ref (ad 50))]) (by decide) rfl rfl rfl (Nat.le_of_ble_eq_true rfl) rfl ?_
  intro X hX htab hQ
  unfold fL_byteAt at hr
  obtain ⟨r1, hc1, hr⟩ := z_bind hr
  refine z_aload_n hX dL_byteAt_0 2 rfl ?_
  refine z_iconst hX dL_byteAt_1 ?_
  refine z_aload_n hX dL_byteAt_2 0 rfl ?_
  refine z_iload_n hX dL_byteAt_3 1 rfl ?_
  refine z_callC (rest := [(50, .inr (.inl 1))]) (shc := sh_7) (hh := [(0, 9, 12, 21)]) (As := [.int (iI p1)]) (nA := 1) (k1 := 1) (n1 := 6) hX htab (mX5_byteAt hst hc1) dL_byteAt_4 gL_byteAt_X5_byteAt rfl ⟨rfl, by decide, by decide, by decide +kernel⟩ ⟨by decide, by decide⟩ ⟨by decide, by decide⟩ 1 rfl rfl rfl rfl (Nat.le_of_ble_eq_true rfl) rfl (by decide) (z_Drf) (fun hf => z_h50 rfl (by decide) hf) (fun hf => z_h50 rfl (by decide) hf) rfl rfl (fun h00 hf => ?_) (fun h00 hf => ?_)
  · rw [if_neg h00] at hr
    by_cases e1 : r1.1 = (1 : Int)
    · rw [if_pos e1] at hr
      obtain rfl := Option.some.inj hr
      rw [e1]
      refine ⟨[], [], ⟨0, 9, 12, 21⟩, rfl, (fun z hz => absurd hz List.not_mem_nil), by decide, by decide, (by decide +kernel : Cond.classLink RL 21 (zExc 1) ∈ wsL_byteAt), fun U hU => hU.2.2.2.2.2.2.2.2.2.2.1, fun q9 => ?_⟩
      refine z_astore_n (v := q9) hX dL_byteAt_12 (by decide) rfl ?_
      refine z_iconst hX dL_byteAt_13 ?_
      exact hQ _ _ dL_byteAt_14 (zfr_tr zfr_rf (by decide) hf)
    · rw [if_neg e1] at hr
      cases hr
  · rw [if_pos h00] at hr
    obtain rfl := Option.some.inj hr
    refine z_i2l hX dL_byteAt_7 ?_
    refine z_lastore (a := 50) (N := 1) (i := 0) (b := 1) (B := some ()) (o := ()) hX dL_byteAt_8 0 rfl (by decide) rfl (if_pos (by decide)) (fun _ => ?_)
    rw [z_i64]
    refine z_goto (tgt := 15) hX dL_byteAt_9 (by decide) ?_
    refine z_iconst hX dL_byteAt_15 ?_
    exact hQ _ _ dL_byteAt_16 (zfr_hs (zfr_tr zfr_rf (by decide) hf) (by decide))

def fL_node (p1 : Int) (p2 : Int) (h : HS) : Option (Int × HS) := (fX5_node p1 p2 h).bind fun o => if o.1 = (0 : Int) then some (0, hs o.2.2 50 0 (wr o.2.1)) else if o.1 = (1 : Int) then some (1, o.2.2) else none
set_option maxRecDepth 100000 in
set_option maxHeartbeats 4000000 in
theorem mL_node {G : ZG} {l0 : Launch} {ad : Nat → Nat} {h0 : HS} {p1 : Int} {p2 : Int} {o : Int × HS} (hst : l0.stackTraces = false) (hr : fL_node p1 p2 h0 = some o) : ZHi G l0 yL_node wsL_node ({ frames := 7, cells := 1, slots := 6, locals := 112 } : Room) [.ref (ad 0), .int (iI p1), .int (iI p2), .ref (ad 50)] sh_h ad ad h0 [50] o.1 o.2 := by
  refine ZHi.of (cc := cL_node) (maxL := 5) (ret := (some .int)) (own := RL) (hh := [(0, 10, 13, 21)]) (lv0 := [(0, .ref (ad 0)), (1, .int (iI p1)), (2, .int (iI p2)), (3, .ref (ad 50))]) (by decide) rfl rfl rfl (Nat.le_of_ble_eq_true rfl) rfl ?_
  intro X hX htab hQ
  unfold fL_node at hr
  obtain ⟨r1, hc1, hr⟩ := z_bind hr
  refine z_aload_n hX dL_node_0 3 rfl ?_
  refine z_iconst hX dL_node_1 ?_
  refine z_aload_n hX dL_node_2 0 rfl ?_
  refine z_iload_n hX dL_node_3 1 rfl ?_
  refine z_iload_n hX dL_node_4 2 rfl ?_
  refine z_callC (rest := [(50, .inr (.inl 1))]) (shc := sh_7) (hh := [(0, 10, 13, 21)]) (As := [.int (iI p1), .int (iI p2)]) (nA := 2) (k1 := 1) (n1 := 6) hX htab (mX5_node hst hc1) dL_node_5 gL_node_X5_node rfl ⟨rfl, by decide, by decide, by decide +kernel⟩ ⟨by decide, by decide⟩ ⟨by decide, by decide⟩ 1 rfl rfl rfl rfl (Nat.le_of_ble_eq_true rfl) rfl (by decide) (z_Drf) (fun hf => z_h50 rfl (by decide) hf) (fun hf => z_h50 rfl (by decide) hf) rfl rfl (fun h00 hf => ?_) (fun h00 hf => ?_)
  · rw [if_neg h00] at hr
    by_cases e1 : r1.1 = (1 : Int)
    · rw [if_pos e1] at hr
      obtain rfl := Option.some.inj hr
      rw [e1]
      refine ⟨[], [], ⟨0, 10, 13, 21⟩, rfl, (fun z hz => absurd hz List.not_mem_nil), by decide, by decide, (by decide +kernel : Cond.classLink RL 21 (zExc 1) ∈ wsL_node), fun U hU => hU.2.2.2.2.2.2.2.2.2.2.1, fun q9 => ?_⟩
      refine z_astore (v := q9) hX dL_node_13 (by decide) rfl ?_
      refine z_iconst hX dL_node_15 ?_
      exact hQ _ _ dL_node_16 (zfr_tr zfr_rf (by decide) hf)
    · rw [if_neg e1] at hr
      cases hr
  · rw [if_pos h00] at hr
    obtain rfl := Option.some.inj hr
    refine z_i2l hX dL_node_8 ?_
    refine z_lastore (a := 50) (N := 1) (i := 0) (b := 1) (B := some ()) (o := ()) hX dL_node_9 0 rfl (by decide) rfl (if_pos (by decide)) (fun _ => ?_)
    rw [z_i64]
    refine z_goto (tgt := 17) hX dL_node_10 (by decide) ?_
    refine z_iconst hX dL_node_17 ?_
    exact hQ _ _ dL_node_18 (zfr_hs (zfr_tr zfr_rf (by decide) hf) (by decide))

def fL_continuation (p1 : Int) (p2 : Int) (h : HS) : Option (Int × HS) := (fX5_continuation p1 p2 h).bind fun o => if o.1 = (0 : Int) then some (0, hs o.2.2 50 0 (wr o.2.1)) else if o.1 = (1 : Int) then some (1, o.2.2) else none
set_option maxRecDepth 100000 in
set_option maxHeartbeats 4000000 in
theorem mL_continuation {G : ZG} {l0 : Launch} {ad : Nat → Nat} {h0 : HS} {p1 : Int} {p2 : Int} {o : Int × HS} (hst : l0.stackTraces = false) (hr : fL_continuation p1 p2 h0 = some o) : ZHi G l0 yL_continuation wsL_continuation ({ frames := 7, cells := 1, slots := 6, locals := 112 } : Room) [.ref (ad 0), .int (iI p1), .int (iI p2), .ref (ad 50)] sh_h ad ad h0 [50] o.1 o.2 := by
  refine ZHi.of (cc := cL_continuation) (maxL := 5) (ret := (some .int)) (own := RL) (hh := [(0, 10, 13, 21)]) (lv0 := [(0, .ref (ad 0)), (1, .int (iI p1)), (2, .int (iI p2)), (3, .ref (ad 50))]) (by decide) rfl rfl rfl (Nat.le_of_ble_eq_true rfl) rfl ?_
  intro X hX htab hQ
  unfold fL_continuation at hr
  obtain ⟨r1, hc1, hr⟩ := z_bind hr
  refine z_aload_n hX dL_continuation_0 3 rfl ?_
  refine z_iconst hX dL_continuation_1 ?_
  refine z_aload_n hX dL_continuation_2 0 rfl ?_
  refine z_iload_n hX dL_continuation_3 1 rfl ?_
  refine z_iload_n hX dL_continuation_4 2 rfl ?_
  refine z_callC (rest := [(50, .inr (.inl 1))]) (shc := sh_7) (hh := [(0, 10, 13, 21)]) (As := [.int (iI p1), .int (iI p2)]) (nA := 2) (k1 := 1) (n1 := 6) hX htab (mX5_continuation hst hc1) dL_continuation_5 gL_continuation_X5_continuation rfl ⟨rfl, by decide, by decide, by decide +kernel⟩ ⟨by decide, by decide⟩ ⟨by decide, by decide⟩ 1 rfl rfl rfl rfl (Nat.le_of_ble_eq_true rfl) rfl (by decide) (z_Drf) (fun hf => z_h50 rfl (by decide) hf) (fun hf => z_h50 rfl (by decide) hf) rfl rfl (fun h00 hf => ?_) (fun h00 hf => ?_)
  · rw [if_neg h00] at hr
    by_cases e1 : r1.1 = (1 : Int)
    · rw [if_pos e1] at hr
      obtain rfl := Option.some.inj hr
      rw [e1]
      refine ⟨[], [], ⟨0, 10, 13, 21⟩, rfl, (fun z hz => absurd hz List.not_mem_nil), by decide, by decide, (by decide +kernel : Cond.classLink RL 21 (zExc 1) ∈ wsL_continuation), fun U hU => hU.2.2.2.2.2.2.2.2.2.2.1, fun q9 => ?_⟩
      refine z_astore (v := q9) hX dL_continuation_13 (by decide) rfl ?_
      refine z_iconst hX dL_continuation_15 ?_
      exact hQ _ _ dL_continuation_16 (zfr_tr zfr_rf (by decide) hf)
    · rw [if_neg e1] at hr
      cases hr
  · rw [if_pos h00] at hr
    obtain rfl := Option.some.inj hr
    refine z_i2l hX dL_continuation_8 ?_
    refine z_lastore (a := 50) (N := 1) (i := 0) (b := 1) (B := some ()) (o := ()) hX dL_continuation_9 0 rfl (by decide) rfl (if_pos (by decide)) (fun _ => ?_)
    rw [z_i64]
    refine z_goto (tgt := 17) hX dL_continuation_10 (by decide) ?_
    refine z_iconst hX dL_continuation_17 ?_
    exact hQ _ _ dL_continuation_18 (zfr_hs (zfr_tr zfr_rf (by decide) hf) (by decide))

def fL_goTo (p1 : Int) (h : HS) : Option (Int × HS) := (fX5_goTo p1 h).bind fun o => if o.1 = (0 : Int) then some (0, hs o.2.2 50 0 (wr o.2.1)) else if o.1 = (1 : Int) then some (1, o.2.2) else none
set_option maxRecDepth 100000 in
set_option maxHeartbeats 4000000 in
theorem mL_goTo {G : ZG} {l0 : Launch} {ad : Nat → Nat} {h0 : HS} {p1 : Int} {o : Int × HS} (hst : l0.stackTraces = false) (hr : fL_goTo p1 h0 = some o) : ZHi G l0 yL_goTo wsL_goTo ({ frames := 7, cells := 1, slots := 6, locals := 111 } : Room) [.ref (ad 0), .int (iI p1), .ref (ad 50)] sh_h ad ad h0 [0, 8, 13, 23, 50] o.1 o.2 := by
  refine ZHi.of (cc := cL_goTo) (maxL := 4) (ret := (some .int)) (own := RL) (hh := [(0, 9, 12, 21)]) (lv0 := [(0, .ref (ad 0)), (1, .int (iI p1)), (2, .ref (ad 50))]) (by decide) rfl rfl rfl (Nat.le_of_ble_eq_true rfl) rfl ?_
  intro X hX htab hQ
  unfold fL_goTo at hr
  obtain ⟨r1, hc1, hr⟩ := z_bind hr
  refine z_aload_n hX dL_goTo_0 2 rfl ?_
  refine z_iconst hX dL_goTo_1 ?_
  refine z_aload_n hX dL_goTo_2 0 rfl ?_
  refine z_iload_n hX dL_goTo_3 1 rfl ?_
  refine z_callC (rest := [(50, .inr (.inl 1))]) (shc := sh_7) (hh := [(0, 9, 12, 21)]) (As := [.int (iI p1)]) (nA := 1) (k1 := 1) (n1 := 6) hX htab (mX5_goTo hst hc1) dL_goTo_4 gL_goTo_X5_goTo rfl ⟨rfl, by decide, by decide, by decide +kernel⟩ ⟨by decide, by decide⟩ ⟨by decide, by decide⟩ 1 rfl rfl rfl rfl (Nat.le_of_ble_eq_true rfl) rfl (by decide) (z_Drf) (fun hf => z_h50 rfl (by decide) hf) (fun hf => z_h50 rfl (by decide) hf) rfl rfl (fun h00 hf => ?_) (fun h00 hf => ?_)
  · rw [if_neg h00] at hr
    by_cases e1 : r1.1 = (1 : Int)
    · rw [if_pos e1] at hr
      obtain rfl := Option.some.inj hr
      rw [e1]
      refine ⟨[], [], ⟨0, 9, 12, 21⟩, rfl, (fun z hz => absurd hz List.not_mem_nil), by decide, by decide, (by decide +kernel : Cond.classLink RL 21 (zExc 1) ∈ wsL_goTo), fun U hU => hU.2.2.2.2.2.2.2.2.2.2.1, fun q9 => ?_⟩
      refine z_astore_n (v := q9) hX dL_goTo_12 (by decide) rfl ?_
      refine z_iconst hX dL_goTo_13 ?_
      exact hQ _ _ dL_goTo_14 (zfr_tr zfr_rf (by decide) hf)
    · rw [if_neg e1] at hr
      cases hr
  · rw [if_pos h00] at hr
    obtain rfl := Option.some.inj hr
    refine z_i2l hX dL_goTo_7 ?_
    refine z_lastore (a := 50) (N := 1) (i := 0) (b := 1) (B := some ()) (o := ()) hX dL_goTo_8 0 rfl (by decide) rfl (if_pos (by decide)) (fun _ => ?_)
    rw [z_i64]
    refine z_goto (tgt := 15) hX dL_goTo_9 (by decide) ?_
    refine z_iconst hX dL_goTo_15 ?_
    exact hQ _ _ dL_goTo_16 (zfr_hs (zfr_tr zfr_rf (by decide) hf) (by decide))

def fL_promote (p1 : Int) (h : HS) : Option (Int × HS) := (fX5_promote p1 h).bind fun o => if o.1 = (0 : Int) then some (0, hs o.2.2 50 0 (wr o.2.1)) else if o.1 = (1 : Int) then some (1, o.2.2) else none
set_option maxRecDepth 100000 in
set_option maxHeartbeats 4000000 in
theorem mL_promote {G : ZG} {l0 : Launch} {ad : Nat → Nat} {h0 : HS} {p1 : Int} {o : Int × HS} (hst : l0.stackTraces = false) (hr : fL_promote p1 h0 = some o) : ZHi G l0 yL_promote wsL_promote ({ frames := 7, cells := 1, slots := 6, locals := 113 } : Room) [.ref (ad 0), .int (iI p1), .ref (ad 50)] sh_h ad ad h0 [16, 17, 50] o.1 o.2 := by
  refine ZHi.of (cc := cL_promote) (maxL := 4) (ret := (some .int)) (own := RL) (hh := [(0, 9, 12, 21)]) (lv0 := [(0, .ref (ad 0)), (1, .int (iI p1)), (2, .ref (ad 50))]) (by decide) rfl rfl rfl (Nat.le_of_ble_eq_true rfl) rfl ?_
  intro X hX htab hQ
  unfold fL_promote at hr
  obtain ⟨r1, hc1, hr⟩ := z_bind hr
  refine z_aload_n hX dL_promote_0 2 rfl ?_
  refine z_iconst hX dL_promote_1 ?_
  refine z_aload_n hX dL_promote_2 0 rfl ?_
  refine z_iload_n hX dL_promote_3 1 rfl ?_
  refine z_callC (rest := [(50, .inr (.inl 1))]) (shc := sh_7) (hh := [(0, 9, 12, 21)]) (As := [.int (iI p1)]) (nA := 1) (k1 := 1) (n1 := 6) hX htab (mX5_promote hst hc1) dL_promote_4 gL_promote_X5_promote rfl ⟨rfl, by decide, by decide, by decide +kernel⟩ ⟨by decide, by decide⟩ ⟨by decide, by decide⟩ 1 rfl rfl rfl rfl (Nat.le_of_ble_eq_true rfl) rfl (by decide) (z_Drf) (fun hf => z_h50 rfl (by decide) hf) (fun hf => z_h50 rfl (by decide) hf) rfl rfl (fun h00 hf => ?_) (fun h00 hf => ?_)
  · rw [if_neg h00] at hr
    by_cases e1 : r1.1 = (1 : Int)
    · rw [if_pos e1] at hr
      obtain rfl := Option.some.inj hr
      rw [e1]
      refine ⟨[], [], ⟨0, 9, 12, 21⟩, rfl, (fun z hz => absurd hz List.not_mem_nil), by decide, by decide, (by decide +kernel : Cond.classLink RL 21 (zExc 1) ∈ wsL_promote), fun U hU => hU.2.2.2.2.2.2.2.2.2.2.1, fun q9 => ?_⟩
      refine z_astore_n (v := q9) hX dL_promote_12 (by decide) rfl ?_
      refine z_iconst hX dL_promote_13 ?_
      exact hQ _ _ dL_promote_14 (zfr_tr zfr_rf (by decide) hf)
    · rw [if_neg e1] at hr
      cases hr
  · rw [if_pos h00] at hr
    obtain rfl := Option.some.inj hr
    refine z_i2l hX dL_promote_7 ?_
    refine z_lastore (a := 50) (N := 1) (i := 0) (b := 1) (B := some ()) (o := ()) hX dL_promote_8 0 rfl (by decide) rfl (if_pos (by decide)) (fun _ => ?_)
    rw [z_i64]
    refine z_goto (tgt := 15) hX dL_promote_9 (by decide) ?_
    refine z_iconst hX dL_promote_15 ?_
    exact hQ _ _ dL_promote_16 (zfr_hs (zfr_tr zfr_rf (by decide) hf) (by decide))

def fL_writeGame (h : HS) : Option (Int × HS) := (fX5_writeGame h).bind fun o => if o.1 = (0 : Int) then some (0, hs o.2.2 50 0 (wr o.2.1)) else if o.1 = (3 : Int) then some (1, o.2.2) else none
set_option maxRecDepth 100000 in
set_option maxHeartbeats 4000000 in
theorem mL_writeGame {G : ZG} {l0 : Launch} {ad : Nat → Nat} {h0 : HS} {o : Int × HS} (hst : l0.stackTraces = false) (hr : fL_writeGame h0 = some o) : ZHi G l0 yL_writeGame wsL_writeGame ({ frames := 7, cells := 1, slots := 6, locals := 186 } : Room) [.ref (ad 0), .ref (ad 50)] sh_h ad (if o.1 = (0 : Int) then asw ad else ad) h0 [0, 8, 13, 19, 20, 21, 22, 23, 50] o.1 o.2 := by
  refine ZHi.of (cc := cL_writeGame) (maxL := 3) (ret := (some .int)) (own := RL) (hh := [(0, 8, 11, 15)]) (lv0 := [(0, .ref (ad 0)), (1, .ref (ad 50))]) (by decide) rfl rfl rfl (Nat.le_of_ble_eq_true rfl) rfl ?_
  intro X hX htab hQ
  unfold fL_writeGame at hr
  obtain ⟨r1, hc1, hr⟩ := z_bind hr
  refine z_aload_n hX dL_writeGame_0 1 rfl ?_
  refine z_iconst hX dL_writeGame_1 ?_
  refine z_aload_n hX dL_writeGame_2 0 rfl ?_
  refine z_callC (rest := [(50, .inr (.inl 1))]) (shc := sh_7) (hh := [(0, 8, 11, 15)]) (As := []) (nA := 0) (k1 := 1) (n1 := 6) hX htab (mX5_writeGame hst hc1) dL_writeGame_3 gL_writeGame_X5_writeGame rfl ⟨rfl, by decide, by decide, by decide +kernel⟩ ⟨by decide, by decide⟩ ⟨by decide, by decide⟩ 1 rfl rfl rfl rfl (Nat.le_of_ble_eq_true rfl) rfl (by decide) (z_Dsw (by decide) (by decide)) (fun hf => z_h50 rfl (by decide) hf) (fun hf => z_h50 rfl (by decide) hf) rfl rfl (fun h00 hf => ?_) (fun h00 hf => ?_)
  · rw [if_neg h00] at hr
    by_cases e3 : r1.1 = (3 : Int)
    · rw [if_pos e3] at hr
      obtain rfl := Option.some.inj hr
      rw [e3]
      refine ⟨[], [], ⟨0, 8, 11, 15⟩, rfl, (fun z hz => absurd hz List.not_mem_nil), by decide, by decide, (by decide +kernel : Cond.classLink RL 15 (zExc 3) ∈ wsL_writeGame), fun U hU => hU.2.2.2.2.2.2.2.2.2.2.2.2.1, fun q9 => ?_⟩
      refine z_astore_n (v := q9) hX dL_writeGame_11 (by decide) rfl ?_
      refine z_iconst hX dL_writeGame_12 ?_
      exact hQ _ _ dL_writeGame_13 (zfr_tr zfr_rf (by decide) hf)
    · rw [if_neg e3] at hr
      cases hr
  · rw [if_pos h00] at hr
    obtain rfl := Option.some.inj hr
    refine z_i2l hX dL_writeGame_6 ?_
    refine z_lastore (a := 50) (N := 1) (i := 0) (b := 1) (B := some ()) (o := ()) hX dL_writeGame_7 0 rfl (by decide) rfl (if_pos (by decide)) (fun _ => ?_)
    rw [z_i64]
    refine z_goto (tgt := 14) hX dL_writeGame_8 (by decide) ?_
    refine z_iconst hX dL_writeGame_14 ?_
    exact hQ _ _ dL_writeGame_15 (zfr_hs (zfr_tr zfr_rf (by decide) hf) (by decide))
