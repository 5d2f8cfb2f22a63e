section ZSTART
theorem z_given {p : Program} {e : Env} {s : State} {m : MethodId} {below : List Frame} {meth : Method} {c : Code} {l : Launch} {b L : Nat} {xs : Nat → Int32} (Q : State → Prop) (C0 : lw_At p s m meth c b L xs) : ∃ G : ZG, ZC G l cL_law wsL_law RL 9 room_1 (p, l, e, room_1, s, m, #[.ref b], below, meth, c, (fun q => s.heap.size ≤ q), Q) ∧ zSc b L xs (p, l, e, room_1, s, m, #[.ref b], below, meth, c, (fun q => s.heap.size ≤ q), Q) := by
  obtain ⟨hx, hb, hr, hml, hown, hts, hX, hbl, hlocks, hgv⟩ := C0
  have hfl : ∀ w ∈ zFlat, w.before #[Value.ref b] s = true := flat_of_before _ hgv
  have hA : ∀ a : Nat, a < s.heap.size → ¬ (fun q : Nat => s.heap.size ≤ q) a := fun a ha => Nat.not_le.mpr ha
  obtain ⟨a1, a2, n0, n1, n2, n3, n4, n5, n6⟩ := z_aW
  obtain ⟨c0, i0, k0⟩ := u_known (C := RX0) (T := TX0) (N := 2) (n := 2) hts inX0 (hts _ n0)
  obtain ⟨c1, i1, k1⟩ := u_known (C := RX1) (T := TX1) (N := 6) (n := 6) hts inX1 (hts _ n1)
  obtain ⟨c2, i2, k2⟩ := u_known (C := RX2) (T := TX2) (N := 8) (n := 8) hts inX2 (hts _ n2)
  obtain ⟨c3, i3, k3⟩ := u_known (C := RX3) (T := TX3) (N := 3) (n := 3) hts inX3 (hts _ n3)
  obtain ⟨c4, i4, k4⟩ := u_known (C := RX4) (T := TX4) (N := 9) (n := 9) hts inX4 (hts _ n4)
  obtain ⟨c5, i5, k5⟩ := u_known (C := RX5) (T := TX5) (N := 16) (n := 16) hts inX5 (hts _ n5)
  obtain ⟨c6, i6, k6⟩ := u_known (C := RX6) (T := TX6) (N := 26) (n := 26) hts inX6 (hts _ n6)
  obtain ⟨D, hD⟩ : ∃ D : va_G, ∀ (k : Nat) (q : vw_C), vwCl[k]? = some q → u_Kn s q.1 q.2.1 q.2.2 (D.1 k) (D.2 k) := by
    refine ⟨(fun k => if k = 0 then c0 else if k = 1 then c1 else if k = 2 then c2 else if k = 3 then c3 else if k = 4 then c4 else if k = 5 then c5 else c6, fun k => if k = 0 then i0 else if k = 1 then i1 else if k = 2 then i2 else if k = 3 then i3 else if k = 4 then i4 else if k = 5 then i5 else i6), ?_⟩
    intro k q hq
    match k, hq with
    | 0, hq => cases hq; exact k0
    | 1, hq => cases hq; exact k1
    | 2, hq => cases hq; exact k2
    | 3, hq => cases hq; exact k3
    | 4, hq => cases hq; exact k4
    | 5, hq => cases hq; exact k5
    | 6, hq => cases hq; exact k6
    | k + 7, hq => simp [vwCl] at hq
  obtain ⟨cI, hI1, hI2⟩ := z_arrOf (hts _ a1)
  obtain ⟨cL, hL1, hL2⟩ := z_arrOf (hts _ a2)
  have hf1 : ∀ i : Nat, i < 16 → ∃ a : Nat, (zFm i).eval #[Value.ref b] s none [] s = some (.ref a) := fun i hi => z_refOf (hfl _ (z_f1 i hi))
  have hne : ∀ i j : Nat, i < 16 → j < 16 → i ≠ j → (Cond.not (Cond.eq (zFm i) (zFm j))).before #[Value.ref b] s = true := by
    intro i j hi hj hij
    obtain ⟨ai, hai⟩ := hf1 i hi
    obtain ⟨aj, haj⟩ := hf1 j hj
    refine z_neq (fun e => ?_) hai haj
    have e0 : (zFm i).eval #[Value.ref b] s none [] s = (zFm j).eval #[Value.ref b] s none [] s := by rw [hai, haj, e]
    have e1 : (Term.field (zFm i) "java/lang/String" "value" "[B").eval #[Value.ref b] s none [] s = (Term.field (zFm j) "java/lang/String" "value" "[B").eval #[Value.ref b] s none [] s := by
      rw [va_fe hai, va_fe haj, e]
    have l1 := va_eqt (hfl _ (z_f4 i hi))
    have l2 := va_eqt (hfl _ (z_f4 j hj))
    have el : (Term.length (Term.field (zFm i) "java/lang/String" "value" "[B")).eval #[Value.ref b] s none [] s = (Term.length (Term.field (zFm j) "java/lang/String" "value" "[B")).eval #[Value.ref b] s none [] s := by
      simp only [Term.eval] at e1 ⊢
      rw [e1]
    rw [l1, l2] at el
    have hle : zLen.getD i 0 = zLen.getD j 0 := z_f9 i hi j hj (by simpa using el)
    rcases z_f8 i hi j hj hij with h | ⟨k, hk, h⟩
    · exact h hle
    · have m1 := va_eqt (hfl _ (z_f5 i hi k hk))
      have m2 := va_eqt (hfl _ (z_f5 j hj k (by rw [← hle]; exact hk)))
      have em : (Term.elem (Term.field (zFm i) "java/lang/String" "value" "[B") (.int (Int32.ofNat k))).eval #[Value.ref b] s none [] s = (Term.elem (Term.field (zFm j) "java/lang/String" "value" "[B") (.int (Int32.ofNat k))).eval #[Value.ref b] s none [] s := by
        simp only [Term.eval] at e1 ⊢
        rw [e1]
      rw [m1, m2] at em
      exact h (by simpa using em)
  obtain ⟨adK, adV, hvS, hvE⟩ := vk_Sof (args := #[Value.ref b]) (s := s) (N := 16) (tm := zFm) (len := zLen) (byt := zByt) (A := fun q => s.heap.size ≤ q) (fun i _ => z_fA i) (fun i hi => hfl _ (z_f1 i hi)) (fun i hi => hfl _ (z_f2 i hi)) (fun i hi => hfl _ (z_f3 i hi)) (fun i hi => hfl _ (z_f4 i hi)) (fun i hi j hj => hfl _ (z_f5 i hi j hj)) (fun i j hi hj hij => Or.inl (hne i j hi hj hij)) hA
  obtain ⟨g1, g2, g3, g4, g5, g6⟩ := z_f7
  obtain ⟨t, hte, hT⟩ := va_Tof (args := #[Value.ref b]) (s := s) (tm := zFt) (ty := .object "java/lang/String") (N := 16) (f := fun j => .ref (adK j)) (A := fun q => s.heap.size ≤ q) (by decide) (hfl _ g1) (va_eqt (hfl _ g2)) (fun j hj => z_eqr (hfl _ (z_f6 j hj)) (hvE j hj)) hA
  obtain ⟨s1, s2, s3, s4, s5, s6, s7, s8, s9⟩ := z_sW
  obtain ⟨w1, w2, w3, w4, w5, w6, w7, w8, w9⟩ := z_nW
  obtain ⟨v1, v2, v3, v4, v5, v6⟩ := z_cW
  obtain ⟨u1, u2, u3⟩ := z_fNc
  have hK : zK (D, cI, cL, fun n => if n = 3000 then t else if 2000 ≤ n then adV (n - 2000) else adK (n - 1000)) s := by
    refine ⟨hD, fun k q hq => ?_⟩
    match k, hq with
    | 0, hq => cases hq; exact ⟨hI1, hI2⟩
    | 1, hq => cases hq; exact ⟨hL1, hL2⟩
    | k + 2, hq => simp at hq
  have hN : zN s := by
    refine ⟨va_Nw.of rfl (hts _ w1), va_Nw.of rfl (hts _ w2), va_Nw.of rfl (hts _ w3), va_Nw.of rfl (hts _ w4), va_Nw.of rfl (hts _ w5), va_Nw.of rfl (hts _ w6), va_Nw.of rfl (hts _ w7), va_Nw.of rfl (hts _ w8), va_Nw.of rfl (hts _ w9), fun q hq => ?_, ?_⟩
    · obtain ⟨a, ha⟩ := z_refOf (hfl _ (z_fMs q hq))
      exact ⟨a, vk_R.of (hts _ (z_msW q hq)) ha⟩
    · exact ⟨va_Nw.of rfl (hts _ v1), va_Nw.of rfl (hts _ v2), va_Nw.of rfl (hts _ v3), va_Nc.of (hfl _ u1), va_Nc.of (hfl _ u2), va_Nc.of (hfl _ u3), va_Nw.of rfl (hts _ v4), va_Nw.of rfl (hts _ v5), va_Nw.of rfl (hts _ v6)⟩
  have hK1 : ∀ j : Nat, j < 16 → (fun n => if n = 3000 then t else if 2000 ≤ n then adV (n - 2000) else adK (n - 1000)) (1000 + j) = adK j := by
    intro j hj
    show (if 1000 + j = 3000 then t else if 2000 ≤ 1000 + j then adV (1000 + j - 2000) else adK (1000 + j - 1000)) = adK j
    rw [if_neg (by omega), if_neg (by omega), Nat.add_sub_cancel_left]
  have hV1 : ∀ j : Nat, j < 16 → (fun n => if n = 3000 then t else if 2000 ≤ n then adV (n - 2000) else adK (n - 1000)) (2000 + j) = adV j := by
    intro j hj
    show (if 2000 + j = 3000 then t else if 2000 ≤ 2000 + j then adV (2000 + j - 2000) else adK (2000 + j - 1000)) = adV j
    rw [if_neg (by omega), if_pos (by omega), Nat.add_sub_cancel_left]
  have hO : zRO (D, cI, cL, fun n => if n = 3000 then t else if 2000 ≤ n then adV (n - 2000) else adK (n - 1000)) (fun q => s.heap.size ≤ q) s s.heap := by
    refine ⟨va_Zref (hts _ s1) (hts _ s2) hte hA, ?_, ?_, va_Zof (hts _ s3) (hts _ s4) (va_eqt (hfl _ g3)) hA, vx_Zqof (hts _ s5) (hts _ s6) (hfl _ g4) hA, vx_Zqof (hts _ s7) (hts _ s6) (hfl _ g5) hA, va_Zqof (hts _ s8) (hts _ s9) (hfl _ g6) hA⟩
    · obtain ⟨t2, hte2, hT2⟩ := va_Tof (args := #[Value.ref b]) (s := s) (tm := zFt) (ty := .object "java/lang/String") (N := 16) (f := fun j => .ref ((fun n => if n = 3000 then t else if 2000 ≤ n then adV (n - 2000) else adK (n - 1000)) (1000 + j))) (A := fun q => s.heap.size ≤ q) (by decide) (hfl _ g1) (va_eqt (hfl _ g2)) (fun j hj => by rw [hK1 j hj]; exact z_eqr (hfl _ (z_f6 j hj)) (hvE j hj)) hA
      have e : t2 = t := by
        rw [hte] at hte2
        simpa using hte2.symm
      rw [e] at hT2
      exact hT2
    · refine ⟨fun i hi => ?_, fun i j hi hj e => ?_⟩
      · have h := hvS.1 i hi
        rw [hK1 i hi, hV1 i hi]
        exact h
      · rw [hK1 i hi, hK1 j hj] at e
        exact hvS.2 i j hi hj e
  exact ⟨_, ⟨hx, hb, hml, hown, fun w hw => hts w (wsL_law_in w hw), hK, fun q h => h, hN, rfl, rfl, hlocks, hO⟩, hX, hbl, Nat.not_le.mpr hbl⟩
set_option maxHeartbeats 4000000 in
/-- the law's walk, with the pure function's answer for a hypothesis -/
theorem whole_start_of {p : Program} {e : Env} {s : State} {m : MethodId} {below : List Frame} {meth : Method} {c : Code} (l : Launch) (hflags : l.flags = flags0) {b L : Nat} {xs : Nat → Int32} (hL : L ≤ 2560) (C0 : lw_At p s m meth c b L xs) {o : HS} (hmain : fL_start xs (L : Int) = some o) : W p l e room_1 s m #[Value.ref b] below meth c s.heap [] 0 0 (lw_Z below #[Value.ref b] s) (entryFrame m ([Value.ref b] : List Value).toArray 9) := by
  obtain ⟨G, hX, hc⟩ := z_given (e := e) (below := below) (l := l) (lw_Z below #[Value.ref b] s) C0
  obtain ⟨hx, hb, hr, hml, hown, hts, hXs, hbl, hlocks, hgv⟩ := id C0
  have hst : l.stackTraces = false := by
    unfold Launch.stackTraces
    rw [hflags]
    decide
  have hd0 := Drawn.sameBut.refl s.drawn lw_cs
  refine W.base ?_
  have k := wL_start (ad := fun _ => 0) (d0 := s.drawn) hst hX hd0 hc hL (fun d1 ad1 k1 n1 lv hd1 h1 h2 => fun H locs ls hP hD hS hl => W.widen h1 h2 (va_forget (fun q hq => hS.2.2 q hq) (lw_ret hd1 hx hb hr hlocks dL_law_1294))) hmain
  rw [lg_entry_eq]
  exact k s.heap [] _ (fun k q h => by simp [wz] at h) ⟨fun i j p q h => by simp [wz] at h, fun k q h => by simp [wz] at h⟩ va_S.rf (by rw [hml]; exact lv_entry ([.ref b]) (n := 9) (Nat.le_of_ble_eq_true rfl))
end ZSTART
