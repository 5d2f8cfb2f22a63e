section ZFLD
/-! what the class keeps of a text that fits, and what the reference finds in it -/
def up (F : Int → Int) (k v : Int) : Int → Int := fun j => if j = k then v else F j
def kp (F : Int → Int) (b : Int) : Int → Int := if cls b = 0 then up (up F 2 (F 4)) 4 (b - 97) else if cls b = 1 then up (up F 3 (F 5)) 5 (b - 49) else if cls b = 3 then up F 6 b else if cls b = 2 then up F 7 1 else up F 1 b
def kpL : (Int → Int) → List Int → Int → Int
  | F, [] => F
  | F, b :: r => kpL (kp F b) r
theorem cls_0 {v : Int} (h : cls v = 0) : 97 ≤ v ∧ v ≤ 104 := by
  unfold cls at h
  by_cases e : 97 ≤ v ∧ v ≤ 104
  · exact e
  · rw [if_neg e] at h
    split at h
    · omega
    · split at h
      · omega
      · split at h <;> omega
theorem cls_1 {v : Int} (h : cls v = 1) : 49 ≤ v ∧ v ≤ 56 := by
  unfold cls at h
  by_cases e : 97 ≤ v ∧ v ≤ 104
  · rw [if_pos e] at h; omega
  · rw [if_neg e] at h
    by_cases e2 : 49 ≤ v ∧ v ≤ 56
    · exact e2
    · rw [if_neg e2] at h
      split at h
      · omega
      · split at h <;> omega
theorem cls_3 {v : Int} (h : cls v = 3) : v = 43 ∨ v = 35 := by
  unfold cls at h
  by_cases e : 97 ≤ v ∧ v ≤ 104
  · rw [if_pos e] at h; omega
  · rw [if_neg e] at h
    by_cases e2 : 49 ≤ v ∧ v ≤ 56
    · rw [if_pos e2] at h; omega
    · rw [if_neg e2] at h
      by_cases e3 : v = 120
      · rw [if_pos e3] at h; omega
      · rw [if_neg e3] at h
        by_cases e4 : v = 43 ∨ v = 35
        · exact e4
        · rw [if_neg e4] at h; omega
theorem cls_e0 {v : Int} : cls v = 0 ↔ 97 ≤ v ∧ v ≤ 104 := ⟨cls_0, fun h => by unfold cls; rw [if_pos h]⟩
theorem cls_e1 {v : Int} : cls v = 1 ↔ 49 ≤ v ∧ v ≤ 56 := ⟨cls_1, fun h => by unfold cls; rw [if_neg (by omega), if_pos h]⟩
theorem cls_e3 {v : Int} : cls v = 3 ↔ v = 43 ∨ v = 35 := ⟨cls_3, fun h => by unfold cls; rw [if_neg (by omega), if_neg (by omega), if_neg (by omega), if_pos h]⟩
theorem cls_e2 {v : Int} : cls v = 2 ↔ v = 120 := by
  constructor
  · intro h
    unfold cls at h
    by_cases e : 97 ≤ v ∧ v ≤ 104
    · rw [if_pos e] at h; omega
    · rw [if_neg e] at h
      by_cases e2 : 49 ≤ v ∧ v ≤ 56
      · rw [if_pos e2] at h; omega
      · rw [if_neg e2] at h
        by_cases e3 : v = 120
        · exact e3
        · rw [if_neg e3] at h
          split at h <;> omega
  · intro h
    unfold cls
    rw [if_neg (by omega), if_neg (by omega), if_pos h]
abbrev fldOk (F : Int → Int) (r : List Int) (k : Nat) : Prop := (r[(tLf.getD k 0).toNat]? = some (F 4 + 97) ∧ r[(tLr.getD k 0).toNat]? = some (F 5 + 49)) ∧ (if tFf.getD k 0 = tLf.getD k 0 then F 2 = -1 else F 2 ≠ -1 ∧ r[(tFf.getD k 0).toNat]? = some (F 2 + 97)) ∧ (if tFr.getD k 0 = tLr.getD k 0 then F 3 = -1 else F 3 ≠ -1 ∧ r[(tFr.getD k 0).toNat]? = some (F 3 + 49)) ∧ (if tLx.getD k 0 = -1 then F 7 = 0 else F 7 = 1) ∧ (if tLs.getD k 0 = -1 then F 6 = -1 else r[(tLs.getD k 0).toNat]? = some (F 6)) ∧ (0 ≤ F 4 ∧ F 4 ≤ 7) ∧ (0 ≤ F 5 ∧ F 5 ≤ 7) ∧ (-1 ≤ F 2 ∧ F 2 ≤ 7) ∧ (-1 ≤ F 3 ∧ F 3 ≤ 7) ∧ (F 6 = -1 ∨ F 6 = 43 ∨ F 6 = 35)
theorem map_c {f : Int → Nat} {r : List Int} {c : Nat} {C : List Nat} (h : r.map f = c :: C) : ∃ a s, r = a :: s ∧ f a = c ∧ s.map f = C := by
  cases r with
  | nil => exact absurd h (by simp)
  | cons a s =>
    rw [List.map_cons] at h
    exact ⟨a, s, rfl, (List.cons.inj h).1, (List.cons.inj h).2⟩
theorem map_n {f : Int → Nat} {r : List Int} (h : r.map f = []) : r = [] := List.map_eq_nil_iff.mp h
abbrev fld0 (F : Int → Int) : Prop := F 2 = -1 ∧ F 3 = -1 ∧ F 4 = -1 ∧ F 5 = -1 ∧ F 6 = -1 ∧ F 7 = 0
theorem fld_0 {F : Int → Int} (h0 : fld0 F) {r : List Int} (h : r.map cls = frm 0) : fldOk (kpL F r) r 0 := by
  obtain ⟨i2, i3, i4, i5, i6, i7⟩ := h0
  have h : r.map cls = [0, 1] := h
  obtain ⟨a0, t0, rfl, e0, h⟩ := map_c h
  obtain ⟨a1, t1, rfl, e1, h⟩ := map_c h
  obtain rfl := map_n h
  have b0 := cls_0 e0
  have b1 := cls_1 e1
  have f2 : kpL F [a0, a1] 2 = -1 := by simp [kpL, kp, up, e0, e1, i2, i3, i4, i5, i6, i7]
  have f3 : kpL F [a0, a1] 3 = -1 := by simp [kpL, kp, up, e0, e1, i2, i3, i4, i5, i6, i7]
  have f4 : kpL F [a0, a1] 4 = a0 - 97 := by simp [kpL, kp, up, e0, e1, i2, i3, i4, i5, i6, i7]
  have f5 : kpL F [a0, a1] 5 = a1 - 49 := by simp [kpL, kp, up, e0, e1, i2, i3, i4, i5, i6, i7]
  have f6 : kpL F [a0, a1] 6 = -1 := by simp [kpL, kp, up, e0, e1, i2, i3, i4, i5, i6, i7]
  have f7 : kpL F [a0, a1] 7 = 0 := by simp [kpL, kp, up, e0, e1, i2, i3, i4, i5, i6, i7]
  unfold fldOk
  rw [f2, f3, f4, f5, f6, f7]
  simp only [tLf, tLr, tFf, tFr, tLx, tLs, List.getD_cons_succ, List.getD_cons_zero]
  refine ⟨⟨?_, ?_⟩, ?_, ?_, ?_, ?_, ?_, ?_, ?_, ?_, ?_⟩ <;> (first | omega | (simp; try omega))
theorem fld_1 {F : Int → Int} (h0 : fld0 F) {r : List Int} (h : r.map cls = frm 1) : fldOk (kpL F r) r 1 := by
  obtain ⟨i2, i3, i4, i5, i6, i7⟩ := h0
  have h : r.map cls = [0, 0, 1] := h
  obtain ⟨a0, t0, rfl, e0, h⟩ := map_c h
  obtain ⟨a1, t1, rfl, e1, h⟩ := map_c h
  obtain ⟨a2, t2, rfl, e2, h⟩ := map_c h
  obtain rfl := map_n h
  have b0 := cls_0 e0
  have b1 := cls_0 e1
  have b2 := cls_1 e2
  have f2 : kpL F [a0, a1, a2] 2 = a0 - 97 := by simp [kpL, kp, up, e0, e1, e2, i2, i3, i4, i5, i6, i7]
  have f3 : kpL F [a0, a1, a2] 3 = -1 := by simp [kpL, kp, up, e0, e1, e2, i2, i3, i4, i5, i6, i7]
  have f4 : kpL F [a0, a1, a2] 4 = a1 - 97 := by simp [kpL, kp, up, e0, e1, e2, i2, i3, i4, i5, i6, i7]
  have f5 : kpL F [a0, a1, a2] 5 = a2 - 49 := by simp [kpL, kp, up, e0, e1, e2, i2, i3, i4, i5, i6, i7]
  have f6 : kpL F [a0, a1, a2] 6 = -1 := by simp [kpL, kp, up, e0, e1, e2, i2, i3, i4, i5, i6, i7]
  have f7 : kpL F [a0, a1, a2] 7 = 0 := by simp [kpL, kp, up, e0, e1, e2, i2, i3, i4, i5, i6, i7]
  unfold fldOk
  rw [f2, f3, f4, f5, f6, f7]
  simp only [tLf, tLr, tFf, tFr, tLx, tLs, List.getD_cons_succ, List.getD_cons_zero]
  refine ⟨⟨?_, ?_⟩, ?_, ?_, ?_, ?_, ?_, ?_, ?_, ?_, ?_⟩ <;> (first | omega | (simp; try omega))
theorem fld_2 {F : Int → Int} (h0 : fld0 F) {r : List Int} (h : r.map cls = frm 2) : fldOk (kpL F r) r 2 := by
  obtain ⟨i2, i3, i4, i5, i6, i7⟩ := h0
  have h : r.map cls = [1, 0, 1] := h
  obtain ⟨a0, t0, rfl, e0, h⟩ := map_c h
  obtain ⟨a1, t1, rfl, e1, h⟩ := map_c h
  obtain ⟨a2, t2, rfl, e2, h⟩ := map_c h
  obtain rfl := map_n h
  have b0 := cls_1 e0
  have b1 := cls_0 e1
  have b2 := cls_1 e2
  have f2 : kpL F [a0, a1, a2] 2 = -1 := by simp [kpL, kp, up, e0, e1, e2, i2, i3, i4, i5, i6, i7]
  have f3 : kpL F [a0, a1, a2] 3 = a0 - 49 := by simp [kpL, kp, up, e0, e1, e2, i2, i3, i4, i5, i6, i7]
  have f4 : kpL F [a0, a1, a2] 4 = a1 - 97 := by simp [kpL, kp, up, e0, e1, e2, i2, i3, i4, i5, i6, i7]
  have f5 : kpL F [a0, a1, a2] 5 = a2 - 49 := by simp [kpL, kp, up, e0, e1, e2, i2, i3, i4, i5, i6, i7]
  have f6 : kpL F [a0, a1, a2] 6 = -1 := by simp [kpL, kp, up, e0, e1, e2, i2, i3, i4, i5, i6, i7]
  have f7 : kpL F [a0, a1, a2] 7 = 0 := by simp [kpL, kp, up, e0, e1, e2, i2, i3, i4, i5, i6, i7]
  unfold fldOk
  rw [f2, f3, f4, f5, f6, f7]
  simp only [tLf, tLr, tFf, tFr, tLx, tLs, List.getD_cons_succ, List.getD_cons_zero]
  refine ⟨⟨?_, ?_⟩, ?_, ?_, ?_, ?_, ?_, ?_, ?_, ?_, ?_⟩ <;> (first | omega | (simp; try omega))
theorem fld_3 {F : Int → Int} (h0 : fld0 F) {r : List Int} (h : r.map cls = frm 3) : fldOk (kpL F r) r 3 := by
  obtain ⟨i2, i3, i4, i5, i6, i7⟩ := h0
  have h : r.map cls = [0, 1, 0, 1] := h
  obtain ⟨a0, t0, rfl, e0, h⟩ := map_c h
  obtain ⟨a1, t1, rfl, e1, h⟩ := map_c h
  obtain ⟨a2, t2, rfl, e2, h⟩ := map_c h
  obtain ⟨a3, t3, rfl, e3, h⟩ := map_c h
  obtain rfl := map_n h
  have b0 := cls_0 e0
  have b1 := cls_1 e1
  have b2 := cls_0 e2
  have b3 := cls_1 e3
  have f2 : kpL F [a0, a1, a2, a3] 2 = a0 - 97 := by simp [kpL, kp, up, e0, e1, e2, e3, i2, i3, i4, i5, i6, i7]
  have f3 : kpL F [a0, a1, a2, a3] 3 = a1 - 49 := by simp [kpL, kp, up, e0, e1, e2, e3, i2, i3, i4, i5, i6, i7]
  have f4 : kpL F [a0, a1, a2, a3] 4 = a2 - 97 := by simp [kpL, kp, up, e0, e1, e2, e3, i2, i3, i4, i5, i6, i7]
  have f5 : kpL F [a0, a1, a2, a3] 5 = a3 - 49 := by simp [kpL, kp, up, e0, e1, e2, e3, i2, i3, i4, i5, i6, i7]
  have f6 : kpL F [a0, a1, a2, a3] 6 = -1 := by simp [kpL, kp, up, e0, e1, e2, e3, i2, i3, i4, i5, i6, i7]
  have f7 : kpL F [a0, a1, a2, a3] 7 = 0 := by simp [kpL, kp, up, e0, e1, e2, e3, i2, i3, i4, i5, i6, i7]
  unfold fldOk
  rw [f2, f3, f4, f5, f6, f7]
  simp only [tLf, tLr, tFf, tFr, tLx, tLs, List.getD_cons_succ, List.getD_cons_zero]
  refine ⟨⟨?_, ?_⟩, ?_, ?_, ?_, ?_, ?_, ?_, ?_, ?_, ?_⟩ <;> (first | omega | (simp; try omega))
theorem fld_4 {F : Int → Int} (h0 : fld0 F) {r : List Int} (h : r.map cls = frm 4) : fldOk (kpL F r) r 4 := by
  obtain ⟨i2, i3, i4, i5, i6, i7⟩ := h0
  have h : r.map cls = [2, 0, 1] := h
  obtain ⟨a0, t0, rfl, e0, h⟩ := map_c h
  obtain ⟨a1, t1, rfl, e1, h⟩ := map_c h
  obtain ⟨a2, t2, rfl, e2, h⟩ := map_c h
  obtain rfl := map_n h
  have b1 := cls_0 e1
  have b2 := cls_1 e2
  have f2 : kpL F [a0, a1, a2] 2 = -1 := by simp [kpL, kp, up, e0, e1, e2, i2, i3, i4, i5, i6, i7]
  have f3 : kpL F [a0, a1, a2] 3 = -1 := by simp [kpL, kp, up, e0, e1, e2, i2, i3, i4, i5, i6, i7]
  have f4 : kpL F [a0, a1, a2] 4 = a1 - 97 := by simp [kpL, kp, up, e0, e1, e2, i2, i3, i4, i5, i6, i7]
  have f5 : kpL F [a0, a1, a2] 5 = a2 - 49 := by simp [kpL, kp, up, e0, e1, e2, i2, i3, i4, i5, i6, i7]
  have f6 : kpL F [a0, a1, a2] 6 = -1 := by simp [kpL, kp, up, e0, e1, e2, i2, i3, i4, i5, i6, i7]
  have f7 : kpL F [a0, a1, a2] 7 = 1 := by simp [kpL, kp, up, e0, e1, e2, i2, i3, i4, i5, i6, i7]
  unfold fldOk
  rw [f2, f3, f4, f5, f6, f7]
  simp only [tLf, tLr, tFf, tFr, tLx, tLs, List.getD_cons_succ, List.getD_cons_zero]
  refine ⟨⟨?_, ?_⟩, ?_, ?_, ?_, ?_, ?_, ?_, ?_, ?_, ?_⟩ <;> (first | omega | (simp; try omega))
theorem fld_5 {F : Int → Int} (h0 : fld0 F) {r : List Int} (h : r.map cls = frm 5) : fldOk (kpL F r) r 5 := by
  obtain ⟨i2, i3, i4, i5, i6, i7⟩ := h0
  have h : r.map cls = [0, 2, 0, 1] := h
  obtain ⟨a0, t0, rfl, e0, h⟩ := map_c h
  obtain ⟨a1, t1, rfl, e1, h⟩ := map_c h
  obtain ⟨a2, t2, rfl, e2, h⟩ := map_c h
  obtain ⟨a3, t3, rfl, e3, h⟩ := map_c h
  obtain rfl := map_n h
  have b0 := cls_0 e0
  have b2 := cls_0 e2
  have b3 := cls_1 e3
  have f2 : kpL F [a0, a1, a2, a3] 2 = a0 - 97 := by simp [kpL, kp, up, e0, e1, e2, e3, i2, i3, i4, i5, i6, i7]
  have f3 : kpL F [a0, a1, a2, a3] 3 = -1 := by simp [kpL, kp, up, e0, e1, e2, e3, i2, i3, i4, i5, i6, i7]
  have f4 : kpL F [a0, a1, a2, a3] 4 = a2 - 97 := by simp [kpL, kp, up, e0, e1, e2, e3, i2, i3, i4, i5, i6, i7]
  have f5 : kpL F [a0, a1, a2, a3] 5 = a3 - 49 := by simp [kpL, kp, up, e0, e1, e2, e3, i2, i3, i4, i5, i6, i7]
  have f6 : kpL F [a0, a1, a2, a3] 6 = -1 := by simp [kpL, kp, up, e0, e1, e2, e3, i2, i3, i4, i5, i6, i7]
  have f7 : kpL F [a0, a1, a2, a3] 7 = 1 := by simp [kpL, kp, up, e0, e1, e2, e3, i2, i3, i4, i5, i6, i7]
  unfold fldOk
  rw [f2, f3, f4, f5, f6, f7]
  simp only [tLf, tLr, tFf, tFr, tLx, tLs, List.getD_cons_succ, List.getD_cons_zero]
  refine ⟨⟨?_, ?_⟩, ?_, ?_, ?_, ?_, ?_, ?_, ?_, ?_, ?_⟩ <;> (first | omega | (simp; try omega))
theorem fld_6 {F : Int → Int} (h0 : fld0 F) {r : List Int} (h : r.map cls = frm 6) : fldOk (kpL F r) r 6 := by
  obtain ⟨i2, i3, i4, i5, i6, i7⟩ := h0
  have h : r.map cls = [1, 2, 0, 1] := h
  obtain ⟨a0, t0, rfl, e0, h⟩ := map_c h
  obtain ⟨a1, t1, rfl, e1, h⟩ := map_c h
  obtain ⟨a2, t2, rfl, e2, h⟩ := map_c h
  obtain ⟨a3, t3, rfl, e3, h⟩ := map_c h
  obtain rfl := map_n h
  have b0 := cls_1 e0
  have b2 := cls_0 e2
  have b3 := cls_1 e3
  have f2 : kpL F [a0, a1, a2, a3] 2 = -1 := by simp [kpL, kp, up, e0, e1, e2, e3, i2, i3, i4, i5, i6, i7]
  have f3 : kpL F [a0, a1, a2, a3] 3 = a0 - 49 := by simp [kpL, kp, up, e0, e1, e2, e3, i2, i3, i4, i5, i6, i7]
  have f4 : kpL F [a0, a1, a2, a3] 4 = a2 - 97 := by simp [kpL, kp, up, e0, e1, e2, e3, i2, i3, i4, i5, i6, i7]
  have f5 : kpL F [a0, a1, a2, a3] 5 = a3 - 49 := by simp [kpL, kp, up, e0, e1, e2, e3, i2, i3, i4, i5, i6, i7]
  have f6 : kpL F [a0, a1, a2, a3] 6 = -1 := by simp [kpL, kp, up, e0, e1, e2, e3, i2, i3, i4, i5, i6, i7]
  have f7 : kpL F [a0, a1, a2, a3] 7 = 1 := by simp [kpL, kp, up, e0, e1, e2, e3, i2, i3, i4, i5, i6, i7]
  unfold fldOk
  rw [f2, f3, f4, f5, f6, f7]
  simp only [tLf, tLr, tFf, tFr, tLx, tLs, List.getD_cons_succ, List.getD_cons_zero]
  refine ⟨⟨?_, ?_⟩, ?_, ?_, ?_, ?_, ?_, ?_, ?_, ?_, ?_⟩ <;> (first | omega | (simp; try omega))
theorem fld_7 {F : Int → Int} (h0 : fld0 F) {r : List Int} (h : r.map cls = frm 7) : fldOk (kpL F r) r 7 := by
  obtain ⟨i2, i3, i4, i5, i6, i7⟩ := h0
  have h : r.map cls = [0, 1, 2, 0, 1] := h
  obtain ⟨a0, t0, rfl, e0, h⟩ := map_c h
  obtain ⟨a1, t1, rfl, e1, h⟩ := map_c h
  obtain ⟨a2, t2, rfl, e2, h⟩ := map_c h
  obtain ⟨a3, t3, rfl, e3, h⟩ := map_c h
  obtain ⟨a4, t4, rfl, e4, h⟩ := map_c h
  obtain rfl := map_n h
  have b0 := cls_0 e0
  have b1 := cls_1 e1
  have b3 := cls_0 e3
  have b4 := cls_1 e4
  have f2 : kpL F [a0, a1, a2, a3, a4] 2 = a0 - 97 := by simp [kpL, kp, up, e0, e1, e2, e3, e4, i2, i3, i4, i5, i6, i7]
  have f3 : kpL F [a0, a1, a2, a3, a4] 3 = a1 - 49 := by simp [kpL, kp, up, e0, e1, e2, e3, e4, i2, i3, i4, i5, i6, i7]
  have f4 : kpL F [a0, a1, a2, a3, a4] 4 = a3 - 97 := by simp [kpL, kp, up, e0, e1, e2, e3, e4, i2, i3, i4, i5, i6, i7]
  have f5 : kpL F [a0, a1, a2, a3, a4] 5 = a4 - 49 := by simp [kpL, kp, up, e0, e1, e2, e3, e4, i2, i3, i4, i5, i6, i7]
  have f6 : kpL F [a0, a1, a2, a3, a4] 6 = -1 := by simp [kpL, kp, up, e0, e1, e2, e3, e4, i2, i3, i4, i5, i6, i7]
  have f7 : kpL F [a0, a1, a2, a3, a4] 7 = 1 := by simp [kpL, kp, up, e0, e1, e2, e3, e4, i2, i3, i4, i5, i6, i7]
  unfold fldOk
  rw [f2, f3, f4, f5, f6, f7]
  simp only [tLf, tLr, tFf, tFr, tLx, tLs, List.getD_cons_succ, List.getD_cons_zero]
  refine ⟨⟨?_, ?_⟩, ?_, ?_, ?_, ?_, ?_, ?_, ?_, ?_, ?_⟩ <;> (first | omega | (simp; try omega))
theorem fld_8 {F : Int → Int} (h0 : fld0 F) {r : List Int} (h : r.map cls = frm 8) : fldOk (kpL F r) r 8 := by
  obtain ⟨i2, i3, i4, i5, i6, i7⟩ := h0
  have h : r.map cls = [0, 1, 3] := h
  obtain ⟨a0, t0, rfl, e0, h⟩ := map_c h
  obtain ⟨a1, t1, rfl, e1, h⟩ := map_c h
  obtain ⟨a2, t2, rfl, e2, h⟩ := map_c h
  obtain rfl := map_n h
  have b0 := cls_0 e0
  have b1 := cls_1 e1
  have b2 := cls_3 e2
  have f2 : kpL F [a0, a1, a2] 2 = -1 := by simp [kpL, kp, up, e0, e1, e2, i2, i3, i4, i5, i6, i7]
  have f3 : kpL F [a0, a1, a2] 3 = -1 := by simp [kpL, kp, up, e0, e1, e2, i2, i3, i4, i5, i6, i7]
  have f4 : kpL F [a0, a1, a2] 4 = a0 - 97 := by simp [kpL, kp, up, e0, e1, e2, i2, i3, i4, i5, i6, i7]
  have f5 : kpL F [a0, a1, a2] 5 = a1 - 49 := by simp [kpL, kp, up, e0, e1, e2, i2, i3, i4, i5, i6, i7]
  have f6 : kpL F [a0, a1, a2] 6 = a2 := by simp [kpL, kp, up, e0, e1, e2, i2, i3, i4, i5, i6, i7]
  have f7 : kpL F [a0, a1, a2] 7 = 0 := by simp [kpL, kp, up, e0, e1, e2, i2, i3, i4, i5, i6, i7]
  unfold fldOk
  rw [f2, f3, f4, f5, f6, f7]
  simp only [tLf, tLr, tFf, tFr, tLx, tLs, List.getD_cons_succ, List.getD_cons_zero]
  refine ⟨⟨?_, ?_⟩, ?_, ?_, ?_, ?_, ?_, ?_, ?_, ?_, ?_⟩ <;> (first | omega | (simp; try omega))
theorem fld_9 {F : Int → Int} (h0 : fld0 F) {r : List Int} (h : r.map cls = frm 9) : fldOk (kpL F r) r 9 := by
  obtain ⟨i2, i3, i4, i5, i6, i7⟩ := h0
  have h : r.map cls = [0, 0, 1, 3] := h
  obtain ⟨a0, t0, rfl, e0, h⟩ := map_c h
  obtain ⟨a1, t1, rfl, e1, h⟩ := map_c h
  obtain ⟨a2, t2, rfl, e2, h⟩ := map_c h
  obtain ⟨a3, t3, rfl, e3, h⟩ := map_c h
  obtain rfl := map_n h
  have b0 := cls_0 e0
  have b1 := cls_0 e1
  have b2 := cls_1 e2
  have b3 := cls_3 e3
  have f2 : kpL F [a0, a1, a2, a3] 2 = a0 - 97 := by simp [kpL, kp, up, e0, e1, e2, e3, i2, i3, i4, i5, i6, i7]
  have f3 : kpL F [a0, a1, a2, a3] 3 = -1 := by simp [kpL, kp, up, e0, e1, e2, e3, i2, i3, i4, i5, i6, i7]
  have f4 : kpL F [a0, a1, a2, a3] 4 = a1 - 97 := by simp [kpL, kp, up, e0, e1, e2, e3, i2, i3, i4, i5, i6, i7]
  have f5 : kpL F [a0, a1, a2, a3] 5 = a2 - 49 := by simp [kpL, kp, up, e0, e1, e2, e3, i2, i3, i4, i5, i6, i7]
  have f6 : kpL F [a0, a1, a2, a3] 6 = a3 := by simp [kpL, kp, up, e0, e1, e2, e3, i2, i3, i4, i5, i6, i7]
  have f7 : kpL F [a0, a1, a2, a3] 7 = 0 := by simp [kpL, kp, up, e0, e1, e2, e3, i2, i3, i4, i5, i6, i7]
  unfold fldOk
  rw [f2, f3, f4, f5, f6, f7]
  simp only [tLf, tLr, tFf, tFr, tLx, tLs, List.getD_cons_succ, List.getD_cons_zero]
  refine ⟨⟨?_, ?_⟩, ?_, ?_, ?_, ?_, ?_, ?_, ?_, ?_, ?_⟩ <;> (first | omega | (simp; try omega))
theorem fld_10 {F : Int → Int} (h0 : fld0 F) {r : List Int} (h : r.map cls = frm 10) : fldOk (kpL F r) r 10 := by
  obtain ⟨i2, i3, i4, i5, i6, i7⟩ := h0
  have h : r.map cls = [1, 0, 1, 3] := h
  obtain ⟨a0, t0, rfl, e0, h⟩ := map_c h
  obtain ⟨a1, t1, rfl, e1, h⟩ := map_c h
  obtain ⟨a2, t2, rfl, e2, h⟩ := map_c h
  obtain ⟨a3, t3, rfl, e3, h⟩ := map_c h
  obtain rfl := map_n h
  have b0 := cls_1 e0
  have b1 := cls_0 e1
  have b2 := cls_1 e2
  have b3 := cls_3 e3
  have f2 : kpL F [a0, a1, a2, a3] 2 = -1 := by simp [kpL, kp, up, e0, e1, e2, e3, i2, i3, i4, i5, i6, i7]
  have f3 : kpL F [a0, a1, a2, a3] 3 = a0 - 49 := by simp [kpL, kp, up, e0, e1, e2, e3, i2, i3, i4, i5, i6, i7]
  have f4 : kpL F [a0, a1, a2, a3] 4 = a1 - 97 := by simp [kpL, kp, up, e0, e1, e2, e3, i2, i3, i4, i5, i6, i7]
  have f5 : kpL F [a0, a1, a2, a3] 5 = a2 - 49 := by simp [kpL, kp, up, e0, e1, e2, e3, i2, i3, i4, i5, i6, i7]
  have f6 : kpL F [a0, a1, a2, a3] 6 = a3 := by simp [kpL, kp, up, e0, e1, e2, e3, i2, i3, i4, i5, i6, i7]
  have f7 : kpL F [a0, a1, a2, a3] 7 = 0 := by simp [kpL, kp, up, e0, e1, e2, e3, i2, i3, i4, i5, i6, i7]
  unfold fldOk
  rw [f2, f3, f4, f5, f6, f7]
  simp only [tLf, tLr, tFf, tFr, tLx, tLs, List.getD_cons_succ, List.getD_cons_zero]
  refine ⟨⟨?_, ?_⟩, ?_, ?_, ?_, ?_, ?_, ?_, ?_, ?_, ?_⟩ <;> (first | omega | (simp; try omega))
theorem fld_11 {F : Int → Int} (h0 : fld0 F) {r : List Int} (h : r.map cls = frm 11) : fldOk (kpL F r) r 11 := by
  obtain ⟨i2, i3, i4, i5, i6, i7⟩ := h0
  have h : r.map cls = [0, 1, 0, 1, 3] := h
  obtain ⟨a0, t0, rfl, e0, h⟩ := map_c h
  obtain ⟨a1, t1, rfl, e1, h⟩ := map_c h
  obtain ⟨a2, t2, rfl, e2, h⟩ := map_c h
  obtain ⟨a3, t3, rfl, e3, h⟩ := map_c h
  obtain ⟨a4, t4, rfl, e4, h⟩ := map_c h
  obtain rfl := map_n h
  have b0 := cls_0 e0
  have b1 := cls_1 e1
  have b2 := cls_0 e2
  have b3 := cls_1 e3
  have b4 := cls_3 e4
  have f2 : kpL F [a0, a1, a2, a3, a4] 2 = a0 - 97 := by simp [kpL, kp, up, e0, e1, e2, e3, e4, i2, i3, i4, i5, i6, i7]
  have f3 : kpL F [a0, a1, a2, a3, a4] 3 = a1 - 49 := by simp [kpL, kp, up, e0, e1, e2, e3, e4, i2, i3, i4, i5, i6, i7]
  have f4 : kpL F [a0, a1, a2, a3, a4] 4 = a2 - 97 := by simp [kpL, kp, up, e0, e1, e2, e3, e4, i2, i3, i4, i5, i6, i7]
  have f5 : kpL F [a0, a1, a2, a3, a4] 5 = a3 - 49 := by simp [kpL, kp, up, e0, e1, e2, e3, e4, i2, i3, i4, i5, i6, i7]
  have f6 : kpL F [a0, a1, a2, a3, a4] 6 = a4 := by simp [kpL, kp, up, e0, e1, e2, e3, e4, i2, i3, i4, i5, i6, i7]
  have f7 : kpL F [a0, a1, a2, a3, a4] 7 = 0 := by simp [kpL, kp, up, e0, e1, e2, e3, e4, i2, i3, i4, i5, i6, i7]
  unfold fldOk
  rw [f2, f3, f4, f5, f6, f7]
  simp only [tLf, tLr, tFf, tFr, tLx, tLs, List.getD_cons_succ, List.getD_cons_zero]
  refine ⟨⟨?_, ?_⟩, ?_, ?_, ?_, ?_, ?_, ?_, ?_, ?_, ?_⟩ <;> (first | omega | (simp; try omega))
theorem fld_12 {F : Int → Int} (h0 : fld0 F) {r : List Int} (h : r.map cls = frm 12) : fldOk (kpL F r) r 12 := by
  obtain ⟨i2, i3, i4, i5, i6, i7⟩ := h0
  have h : r.map cls = [2, 0, 1, 3] := h
  obtain ⟨a0, t0, rfl, e0, h⟩ := map_c h
  obtain ⟨a1, t1, rfl, e1, h⟩ := map_c h
  obtain ⟨a2, t2, rfl, e2, h⟩ := map_c h
  obtain ⟨a3, t3, rfl, e3, h⟩ := map_c h
  obtain rfl := map_n h
  have b1 := cls_0 e1
  have b2 := cls_1 e2
  have b3 := cls_3 e3
  have f2 : kpL F [a0, a1, a2, a3] 2 = -1 := by simp [kpL, kp, up, e0, e1, e2, e3, i2, i3, i4, i5, i6, i7]
  have f3 : kpL F [a0, a1, a2, a3] 3 = -1 := by simp [kpL, kp, up, e0, e1, e2, e3, i2, i3, i4, i5, i6, i7]
  have f4 : kpL F [a0, a1, a2, a3] 4 = a1 - 97 := by simp [kpL, kp, up, e0, e1, e2, e3, i2, i3, i4, i5, i6, i7]
  have f5 : kpL F [a0, a1, a2, a3] 5 = a2 - 49 := by simp [kpL, kp, up, e0, e1, e2, e3, i2, i3, i4, i5, i6, i7]
  have f6 : kpL F [a0, a1, a2, a3] 6 = a3 := by simp [kpL, kp, up, e0, e1, e2, e3, i2, i3, i4, i5, i6, i7]
  have f7 : kpL F [a0, a1, a2, a3] 7 = 1 := by simp [kpL, kp, up, e0, e1, e2, e3, i2, i3, i4, i5, i6, i7]
  unfold fldOk
  rw [f2, f3, f4, f5, f6, f7]
  simp only [tLf, tLr, tFf, tFr, tLx, tLs, List.getD_cons_succ, List.getD_cons_zero]
  refine ⟨⟨?_, ?_⟩, ?_, ?_, ?_, ?_, ?_, ?_, ?_, ?_, ?_⟩ <;> (first | omega | (simp; try omega))
theorem fld_13 {F : Int → Int} (h0 : fld0 F) {r : List Int} (h : r.map cls = frm 13) : fldOk (kpL F r) r 13 := by
  obtain ⟨i2, i3, i4, i5, i6, i7⟩ := h0
  have h : r.map cls = [0, 2, 0, 1, 3] := h
  obtain ⟨a0, t0, rfl, e0, h⟩ := map_c h
  obtain ⟨a1, t1, rfl, e1, h⟩ := map_c h
  obtain ⟨a2, t2, rfl, e2, h⟩ := map_c h
  obtain ⟨a3, t3, rfl, e3, h⟩ := map_c h
  obtain ⟨a4, t4, rfl, e4, h⟩ := map_c h
  obtain rfl := map_n h
  have b0 := cls_0 e0
  have b2 := cls_0 e2
  have b3 := cls_1 e3
  have b4 := cls_3 e4
  have f2 : kpL F [a0, a1, a2, a3, a4] 2 = a0 - 97 := by simp [kpL, kp, up, e0, e1, e2, e3, e4, i2, i3, i4, i5, i6, i7]
  have f3 : kpL F [a0, a1, a2, a3, a4] 3 = -1 := by simp [kpL, kp, up, e0, e1, e2, e3, e4, i2, i3, i4, i5, i6, i7]
  have f4 : kpL F [a0, a1, a2, a3, a4] 4 = a2 - 97 := by simp [kpL, kp, up, e0, e1, e2, e3, e4, i2, i3, i4, i5, i6, i7]
  have f5 : kpL F [a0, a1, a2, a3, a4] 5 = a3 - 49 := by simp [kpL, kp, up, e0, e1, e2, e3, e4, i2, i3, i4, i5, i6, i7]
  have f6 : kpL F [a0, a1, a2, a3, a4] 6 = a4 := by simp [kpL, kp, up, e0, e1, e2, e3, e4, i2, i3, i4, i5, i6, i7]
  have f7 : kpL F [a0, a1, a2, a3, a4] 7 = 1 := by simp [kpL, kp, up, e0, e1, e2, e3, e4, i2, i3, i4, i5, i6, i7]
  unfold fldOk
  rw [f2, f3, f4, f5, f6, f7]
  simp only [tLf, tLr, tFf, tFr, tLx, tLs, List.getD_cons_succ, List.getD_cons_zero]
  refine ⟨⟨?_, ?_⟩, ?_, ?_, ?_, ?_, ?_, ?_, ?_, ?_, ?_⟩ <;> (first | omega | (simp; try omega))
theorem fld_14 {F : Int → Int} (h0 : fld0 F) {r : List Int} (h : r.map cls = frm 14) : fldOk (kpL F r) r 14 := by
  obtain ⟨i2, i3, i4, i5, i6, i7⟩ := h0
  have h : r.map cls = [1, 2, 0, 1, 3] := h
  obtain ⟨a0, t0, rfl, e0, h⟩ := map_c h
  obtain ⟨a1, t1, rfl, e1, h⟩ := map_c h
  obtain ⟨a2, t2, rfl, e2, h⟩ := map_c h
  obtain ⟨a3, t3, rfl, e3, h⟩ := map_c h
  obtain ⟨a4, t4, rfl, e4, h⟩ := map_c h
  obtain rfl := map_n h
  have b0 := cls_1 e0
  have b2 := cls_0 e2
  have b3 := cls_1 e3
  have b4 := cls_3 e4
  have f2 : kpL F [a0, a1, a2, a3, a4] 2 = -1 := by simp [kpL, kp, up, e0, e1, e2, e3, e4, i2, i3, i4, i5, i6, i7]
  have f3 : kpL F [a0, a1, a2, a3, a4] 3 = a0 - 49 := by simp [kpL, kp, up, e0, e1, e2, e3, e4, i2, i3, i4, i5, i6, i7]
  have f4 : kpL F [a0, a1, a2, a3, a4] 4 = a2 - 97 := by simp [kpL, kp, up, e0, e1, e2, e3, e4, i2, i3, i4, i5, i6, i7]
  have f5 : kpL F [a0, a1, a2, a3, a4] 5 = a3 - 49 := by simp [kpL, kp, up, e0, e1, e2, e3, e4, i2, i3, i4, i5, i6, i7]
  have f6 : kpL F [a0, a1, a2, a3, a4] 6 = a4 := by simp [kpL, kp, up, e0, e1, e2, e3, e4, i2, i3, i4, i5, i6, i7]
  have f7 : kpL F [a0, a1, a2, a3, a4] 7 = 1 := by simp [kpL, kp, up, e0, e1, e2, e3, e4, i2, i3, i4, i5, i6, i7]
  unfold fldOk
  rw [f2, f3, f4, f5, f6, f7]
  simp only [tLf, tLr, tFf, tFr, tLx, tLs, List.getD_cons_succ, List.getD_cons_zero]
  refine ⟨⟨?_, ?_⟩, ?_, ?_, ?_, ?_, ?_, ?_, ?_, ?_, ?_⟩ <;> (first | omega | (simp; try omega))
theorem fld_15 {F : Int → Int} (h0 : fld0 F) {r : List Int} (h : r.map cls = frm 15) : fldOk (kpL F r) r 15 := by
  obtain ⟨i2, i3, i4, i5, i6, i7⟩ := h0
  have h : r.map cls = [0, 1, 2, 0, 1, 3] := h
  obtain ⟨a0, t0, rfl, e0, h⟩ := map_c h
  obtain ⟨a1, t1, rfl, e1, h⟩ := map_c h
  obtain ⟨a2, t2, rfl, e2, h⟩ := map_c h
  obtain ⟨a3, t3, rfl, e3, h⟩ := map_c h
  obtain ⟨a4, t4, rfl, e4, h⟩ := map_c h
  obtain ⟨a5, t5, rfl, e5, h⟩ := map_c h
  obtain rfl := map_n h
  have b0 := cls_0 e0
  have b1 := cls_1 e1
  have b3 := cls_0 e3
  have b4 := cls_1 e4
  have b5 := cls_3 e5
  have f2 : kpL F [a0, a1, a2, a3, a4, a5] 2 = a0 - 97 := by simp [kpL, kp, up, e0, e1, e2, e3, e4, e5, i2, i3, i4, i5, i6, i7]
  have f3 : kpL F [a0, a1, a2, a3, a4, a5] 3 = a1 - 49 := by simp [kpL, kp, up, e0, e1, e2, e3, e4, e5, i2, i3, i4, i5, i6, i7]
  have f4 : kpL F [a0, a1, a2, a3, a4, a5] 4 = a3 - 97 := by simp [kpL, kp, up, e0, e1, e2, e3, e4, e5, i2, i3, i4, i5, i6, i7]
  have f5 : kpL F [a0, a1, a2, a3, a4, a5] 5 = a4 - 49 := by simp [kpL, kp, up, e0, e1, e2, e3, e4, e5, i2, i3, i4, i5, i6, i7]
  have f6 : kpL F [a0, a1, a2, a3, a4, a5] 6 = a5 := by simp [kpL, kp, up, e0, e1, e2, e3, e4, e5, i2, i3, i4, i5, i6, i7]
  have f7 : kpL F [a0, a1, a2, a3, a4, a5] 7 = 1 := by simp [kpL, kp, up, e0, e1, e2, e3, e4, e5, i2, i3, i4, i5, i6, i7]
  unfold fldOk
  rw [f2, f3, f4, f5, f6, f7]
  simp only [tLf, tLr, tFf, tFr, tLx, tLs, List.getD_cons_succ, List.getD_cons_zero]
  refine ⟨⟨?_, ?_⟩, ?_, ?_, ?_, ?_, ?_, ?_, ?_, ?_, ?_⟩ <;> (first | omega | (simp; try omega))
theorem fld_all {F : Int → Int} (h0 : fld0 F) {r : List Int} {k : Nat} (hk : k < 16) (h : r.map cls = frm k) : fldOk (kpL F r) r k := by
  rcases (show k = 0 ∨ k = 1 ∨ k = 2 ∨ k = 3 ∨ k = 4 ∨ k = 5 ∨ k = 6 ∨ k = 7 ∨ k = 8 ∨ k = 9 ∨ k = 10 ∨ k = 11 ∨ k = 12 ∨ k = 13 ∨ k = 14 ∨ k = 15 by omega) with e | e | e | e | e | e | e | e | e | e | e | e | e | e | e | e
  · subst e; exact fld_0 h0 h
  · subst e; exact fld_1 h0 h
  · subst e; exact fld_2 h0 h
  · subst e; exact fld_3 h0 h
  · subst e; exact fld_4 h0 h
  · subst e; exact fld_5 h0 h
  · subst e; exact fld_6 h0 h
  · subst e; exact fld_7 h0 h
  · subst e; exact fld_8 h0 h
  · subst e; exact fld_9 h0 h
  · subst e; exact fld_10 h0 h
  · subst e; exact fld_11 h0 h
  · subst e; exact fld_12 h0 h
  · subst e; exact fld_13 h0 h
  · subst e; exact fld_14 h0 h
  · subst e; exact fld_15 h0 h
end ZFLD
