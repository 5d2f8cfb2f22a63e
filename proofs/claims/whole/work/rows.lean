section
section ZDEFS
set_option maxRecDepth 100000
def iI (z : Int) : Int32 := Int32.ofInt z
def wr (z : Int) : Int := (iI z).toInt
theorem wr_of {z : Int} (h1 : -2147483648 ≤ z) (h2 : z < 2147483648) : wr z = z := by
  unfold wr iI
  have e : z.bmod (2 ^ 32) = z := Int.bmod_eq_of_le (by omega) (by omega)
  rw [Int32.toInt_ofInt]
  exact e
abbrev HS : Type := Nat → Int → Int
def hs (h : HS) (i : Nat) (k v : Int) : HS := fun a => if a = i then (fun b => if b = k then v else h i b) else h a
theorem hs_ne (h : HS) {i j : Nat} (k v : Int) (e : j ≠ i) : hs h i k v j = h j := by
  unfold hs
  rw [if_neg e]
theorem hs_eq (h : HS) (i : Nat) (k v : Int) : hs h i k v i = fun b => if b = k then v else h i b := by
  unfold hs
  rw [if_pos rfl]
def zLen : List Nat := [2, 3, 3, 4, 3, 4, 4, 5, 3, 4, 4, 5, 4, 5, 5, 6]
def zByt : List (List Int32) := [[102, 114], [102, 102, 114], [114, 102, 114], [102, 114, 102, 114], [120, 102, 114], [102, 120, 102, 114], [114, 120, 102, 114], [102, 114, 120, 102, 114], [102, 114, 115], [102, 102, 114, 115], [114, 102, 114, 115], [102, 114, 102, 114, 115], [120, 102, 114, 115], [102, 120, 102, 114, 115], [114, 120, 102, 114, 115], [102, 114, 120, 102, 114, 115]]
def zshl (x : Int64) (y : Int) : Int64 := x <<< ((iI y).toInt64 &&& 63)
def zushr (x : Int64) (y : Int) : Int64 := (x.toUInt64 >>> ((iI y).toInt64.toUInt64 &&& Int64.toUInt64 63)).toInt64
def zcmp (x y : Int64) : Int := if y < x then 1 else if x = y then 0 else -1
def zor (x y : Int) : Int := (iI x ||| iI y).toInt
def zmin (x y : Int) : Int := if wr y < wr x then y else x
def hcp (h : HS) (a0 : Nat) (sp : Int) (a : Nat) (dp n : Int) : HS := fun c => if c = a then (fun b => if dp ≤ b ∧ b < dp + n then h a0 (sp + (b - dp)) else h a b) else h c
theorem hcp_ne (h : HS) (a0 : Nat) (sp : Int) {a c : Nat} (dp n : Int) (e : c ≠ a) : hcp h a0 sp a dp n c = h c := by
  unfold hcp
  rw [if_neg e]
theorem hcp_eq (h : HS) (a0 : Nat) (sp : Int) (a : Nat) (dp n : Int) : hcp h a0 sp a dp n a = fun b => if dp ≤ b ∧ b < dp + n then h a0 (sp + (b - dp)) else h a b := by
  unfold hcp
  rw [if_pos rfl]
def zF : Nat := 5000
def hz (h : HS) (i : Nat) : HS := fun a => if a = i then (fun _ => 0) else h a
theorem hz_ne (h : HS) {i j : Nat} (e : j ≠ i) : hz h i j = h j := by
  unfold hz
  rw [if_neg e]
def zln (i : Nat) : Int := (zLen.getD i 0 : Nat)
def zbt (i : Nat) (j : Int) : Int := ((zByt.getD i []).getD j.toNat 0).toInt
def zand (x y : Int) : Int := (iI x &&& iI y).toInt
def zi2c (x : Int) : Int := ((iI x).toUInt32 % 65536).toInt32.toInt
def zi2b (x : Int) : Int := (iI x).toInt8.toInt32.toInt
def zshr (x y : Int) : Int := (iI x >>> (iI y &&& 31)).toInt
def zmax (x y : Int) : Int := if wr x < wr y then y else x
def zsw (i : Nat) : Nat := if i = 19 then 21 else if i = 20 then 22 else if i = 21 then 19 else if i = 22 then 20 else i
def hsw (h : HS) : HS := fun i => h (zsw i)
def fX1_has (p1 : Int) (h : HS) : Option (Int) := if wr p1 < 0 then some 0 else if wr (h 1 5) ≤ wr p1 then some 0 else some 1
def fX1_size (h : HS) : Option (Int) := some (h 1 5)
def fX1_letter (p1 : Int) (h : HS) : Option (Int) := (fX1_has p1 h).bind fun r1 => if wr r1 = 0 then some (-1) else if (0 : Int) ≤ p1 ∧ p1 < 6 then some (h 2 p1) else none
def fX1_stepCount (p1 : Int) (h : HS) : Option (Int) := (fX1_has p1 h).bind fun r1 => if wr r1 = 0 then some 0 else if (0 : Int) ≤ p1 ∧ p1 < 6 then some (h 3 p1) else none
def fX1_withLetter_L2 : Nat → Int → Int → HS → Option (Int)
  | 0, _, _, _ => none
  | nf + 1, x1, x2, h => if wr (h 1 5) ≤ wr x2 then some (-1) else if (0 : Int) ≤ x2 ∧ x2 < 6 then if wr (h 2 x2) = wr x1 then some x2 else fX1_withLetter_L2 nf x1 (x2 + 1) h else none
def fX1_withLetter (p1 : Int) (h : HS) : Option (Int) := fX1_withLetter_L2 zF p1 0 h
def fX1_include (p1 : Int) (h : HS) : Option (Int × HS) := if wr (h 1 5) < (6 : Int) then if (0 : Int) ≤ (h 1 5) ∧ (h 1 5) < 6 then some (((((hs (hs h 2 (h 1 5) p1) 1 5 ((((hs h 2 (h 1 5) p1)) 1 5) + 1))) 1 5) - 1), (hs (hs h 2 (h 1 5) p1) 1 5 ((((hs h 2 (h 1 5) p1)) 1 5) + 1))) else none else some ((-1), h)
def fX1_includeStep (p1 : Int) (p2 : Int) (p3 : Int) (p4 : Int) (h : HS) : Option (Int × HS) := (fX1_has p1 h).bind fun r1 => if wr r1 = 0 then some ((-1), h) else if (0 : Int) ≤ p1 ∧ p1 < 6 then if wr (h 3 p1) < (8 : Int) then if (0 : Int) ≤ p1 ∧ p1 < 6 then if (0 : Int) ≤ ((p1 * 8) + (h 3 p1)) ∧ ((p1 * 8) + (h 3 p1)) < 48 then if (0 : Int) ≤ ((p1 * 8) + (h 3 p1)) ∧ ((p1 * 8) + (h 3 p1)) < 48 then if (0 : Int) ≤ ((p1 * 8) + (h 3 p1)) ∧ ((p1 * 8) + (h 3 p1)) < 48 then if (0 : Int) ≤ p1 ∧ p1 < 6 then if (0 : Int) ≤ p1 ∧ p1 < 6 then if (0 : Int) ≤ p1 ∧ p1 < 6 then some ((((hs (hs (hs (hs h 4 ((p1 * 8) + (h 3 p1)) p2) 5 ((p1 * 8) + (h 3 p1)) p3) 6 ((p1 * 8) + (h 3 p1)) p4) 3 p1 ((((hs (hs (hs h 4 ((p1 * 8) + (h 3 p1)) p2) 5 ((p1 * 8) + (h 3 p1)) p3) 6 ((p1 * 8) + (h 3 p1)) p4)) 3 p1) + 1))) 3 p1), (hs (hs (hs (hs h 4 ((p1 * 8) + (h 3 p1)) p2) 5 ((p1 * 8) + (h 3 p1)) p3) 6 ((p1 * 8) + (h 3 p1)) p4) 3 p1 ((((hs (hs (hs h 4 ((p1 * 8) + (h 3 p1)) p2) 5 ((p1 * 8) + (h 3 p1)) p3) 6 ((p1 * 8) + (h 3 p1)) p4)) 3 p1) + 1))) else none else none else none else none else none else none else none else some ((-1), h) else none
def fX3_size (h : HS) : Option (Int) := some (h 19 1)
def fX3_hasSpilled (h : HS) : Option (Int) := if (h 19 2) = 0 ∨ (h 19 2) = 1 then some (h 19 2) else none
def fX3_get (p1 : Int) (h : HS) : Option (Int) := if wr p1 < 0 then some (-1) else if wr (h 19 1) ≤ wr p1 then some (-1) else if (0 : Int) ≤ p1 ∧ p1 < 2000 then some (h 20 p1) else none
def fX3_wipe (h : HS) : Option (HS) := if (0 : Int) = 0 ∨ (0 : Int) = 1 then some (hs (hs h 19 1 0) 19 2 0) else none
def fX3_append (p1 : Int) (h : HS) : Option (HS) := if (2000 : Int) ≤ wr (h 19 1) then if (1 : Int) = 0 ∨ (1 : Int) = 1 then some (hs h 19 2 1) else none else if (0 : Int) ≤ (h 19 1) ∧ (h 19 1) < 2000 then some (hs (hs h 20 (h 19 1) p1) 19 1 ((((hs h 20 (h 19 1) p1)) 19 1) + 1)) else none
def fX3_separate (h : HS) : Option (HS) := if wr (h 19 1) ≤ 0 then some h else (fX3_get ((h 19 1) - 1) h).bind fun r1 => if wr r1 = (40 : Int) then some h else (fX3_append 32 h).bind fun r2 => some r2
def fX3_isOfWord (p1 : Int) (h : HS) : Option (Int) := (fX3_get p1 h).bind fun r1 => if wr r1 = ((-1) : Int) then some 0 else if wr r1 = (32 : Int) then some 0 else if wr r1 = (40 : Int) then some 0 else if wr r1 = (41 : Int) then some 0 else some 1
def fX3_isWordStart (p1 : Int) (h : HS) : Option (Int) := (fX3_isOfWord p1 h).bind fun r1 => if wr r1 = 0 then some 0 else (fX3_isOfWord (p1 - 1) h).bind fun r2 => if wr r2 = 0 then some 1 else some 0
def fX3_wordEnd_L2 : Nat → Int → HS → Option (Int)
  | 0, _, _ => none
  | nf + 1, x2, h => if wr (h 19 1) ≤ wr x2 then some x2 else (fX3_isOfWord x2 h).bind fun r1 => if wr r1 = 0 then some x2 else fX3_wordEnd_L2 nf (x2 + 1) h
def fX3_wordEnd (p1 : Int) (h : HS) : Option (Int) := fX3_wordEnd_L2 zF p1 h
def fX3_size_d (h : HS) : Option (Int) := some (h 21 1)
def fX3_hasSpilled_d (h : HS) : Option (Int) := if (h 21 2) = 0 ∨ (h 21 2) = 1 then some (h 21 2) else none
def fX3_get_d (p1 : Int) (h : HS) : Option (Int) := if wr p1 < 0 then some (-1) else if wr (h 21 1) ≤ wr p1 then some (-1) else if (0 : Int) ≤ p1 ∧ p1 < 2000 then some (h 22 p1) else none
def fX3_wipe_d (h : HS) : Option (HS) := if (0 : Int) = 0 ∨ (0 : Int) = 1 then some (hs (hs h 21 1 0) 21 2 0) else none
def fX3_append_d (p1 : Int) (h : HS) : Option (HS) := if (2000 : Int) ≤ wr (h 21 1) then if (1 : Int) = 0 ∨ (1 : Int) = 1 then some (hs h 21 2 1) else none else if (0 : Int) ≤ (h 21 1) ∧ (h 21 1) < 2000 then some (hs (hs h 22 (h 21 1) p1) 21 1 ((((hs h 22 (h 21 1) p1)) 21 1) + 1)) else none
def fX3_separate_d (h : HS) : Option (HS) := if wr (h 21 1) ≤ 0 then some h else (fX3_get_d ((h 21 1) - 1) h).bind fun r1 => if wr r1 = (40 : Int) then some h else (fX3_append_d 32 h).bind fun r2 => some r2
def fX4_occupy (p1 : Int) (p2 : Int) (p3 : Int) (p4 : Int) (h : HS) : Option (Int × HS) := if wr (h 9 8) < (200 : Int) then if (0 : Int) ≤ (h 9 8) ∧ (h 9 8) < 200 then if (0 : Int) ≤ (((hs h 10 (h 9 8) p1)) 9 8) ∧ (((hs h 10 (h 9 8) p1)) 9 8) < 200 then if (0 : Int) ≤ (((hs (hs h 10 (h 9 8) p1) 11 (((hs h 10 (h 9 8) p1)) 9 8) p2)) 9 8) ∧ (((hs (hs h 10 (h 9 8) p1) 11 (((hs h 10 (h 9 8) p1)) 9 8) p2)) 9 8) < 200 then if (0 : Int) ≤ (((hs (hs (hs h 10 (h 9 8) p1) 11 (((hs h 10 (h 9 8) p1)) 9 8) p2) 12 (((hs (hs h 10 (h 9 8) p1) 11 (((hs h 10 (h 9 8) p1)) 9 8) p2)) 9 8) p3)) 9 8) ∧ (((hs (hs (hs h 10 (h 9 8) p1) 11 (((hs h 10 (h 9 8) p1)) 9 8) p2) 12 (((hs (hs h 10 (h 9 8) p1) 11 (((hs h 10 (h 9 8) p1)) 9 8) p2)) 9 8) p3)) 9 8) < 200 then if (0 : Int) ≤ (((hs (hs (hs (hs h 10 (h 9 8) p1) 11 (((hs h 10 (h 9 8) p1)) 9 8) p2) 12 (((hs (hs h 10 (h 9 8) p1) 11 (((hs h 10 (h 9 8) p1)) 9 8) p2)) 9 8) p3) 13 (((hs (hs (hs h 10 (h 9 8) p1) 11 (((hs h 10 (h 9 8) p1)) 9 8) p2) 12 (((hs (hs h 10 (h 9 8) p1) 11 (((hs h 10 (h 9 8) p1)) 9 8) p2)) 9 8) p3)) 9 8) (-1))) 9 8) ∧ (((hs (hs (hs (hs h 10 (h 9 8) p1) 11 (((hs h 10 (h 9 8) p1)) 9 8) p2) 12 (((hs (hs h 10 (h 9 8) p1) 11 (((hs h 10 (h 9 8) p1)) 9 8) p2)) 9 8) p3) 13 (((hs (hs (hs h 10 (h 9 8) p1) 11 (((hs h 10 (h 9 8) p1)) 9 8) p2) 12 (((hs (hs h 10 (h 9 8) p1) 11 (((hs h 10 (h 9 8) p1)) 9 8) p2)) 9 8) p3)) 9 8) (-1))) 9 8) < 200 then if (0 : Int) ≤ (((hs (hs (hs (hs (hs h 10 (h 9 8) p1) 11 (((hs h 10 (h 9 8) p1)) 9 8) p2) 12 (((hs (hs h 10 (h 9 8) p1) 11 (((hs h 10 (h 9 8) p1)) 9 8) p2)) 9 8) p3) 13 (((hs (hs (hs h 10 (h 9 8) p1) 11 (((hs h 10 (h 9 8) p1)) 9 8) p2) 12 (((hs (hs h 10 (h 9 8) p1) 11 (((hs h 10 (h 9 8) p1)) 9 8) p2)) 9 8) p3)) 9 8) (-1)) 14 (((hs (hs (hs (hs h 10 (h 9 8) p1) 11 (((hs h 10 (h 9 8) p1)) 9 8) p2) 12 (((hs (hs h 10 (h 9 8) p1) 11 (((hs h 10 (h 9 8) p1)) 9 8) p2)) 9 8) p3) 13 (((hs (hs (hs h 10 (h 9 8) p1) 11 (((hs h 10 (h 9 8) p1)) 9 8) p2) 12 (((hs (hs h 10 (h 9 8) p1) 11 (((hs h 10 (h 9 8) p1)) 9 8) p2)) 9 8) p3)) 9 8) (-1))) 9 8) p4)) 9 8) ∧ (((hs (hs (hs (hs (hs h 10 (h 9 8) p1) 11 (((hs h 10 (h 9 8) p1)) 9 8) p2) 12 (((hs (hs h 10 (h 9 8) p1) 11 (((hs h 10 (h 9 8) p1)) 9 8) p2)) 9 8) p3) 13 (((hs (hs (hs h 10 (h 9 8) p1) 11 (((hs h 10 (h 9 8) p1)) 9 8) p2) 12 (((hs (hs h 10 (h 9 8) p1) 11 (((hs h 10 (h 9 8) p1)) 9 8) p2)) 9 8) p3)) 9 8) (-1)) 14 (((hs (hs (hs (hs h 10 (h 9 8) p1) 11 (((hs h 10 (h 9 8) p1)) 9 8) p2) 12 (((hs (hs h 10 (h 9 8) p1) 11 (((hs h 10 (h 9 8) p1)) 9 8) p2)) 9 8) p3) 13 (((hs (hs (hs h 10 (h 9 8) p1) 11 (((hs h 10 (h 9 8) p1)) 9 8) p2) 12 (((hs (hs h 10 (h 9 8) p1) 11 (((hs h 10 (h 9 8) p1)) 9 8) p2)) 9 8) p3)) 9 8) (-1))) 9 8) p4)) 9 8) < 200 then if (0 : Int) ≤ (((hs (hs (hs (hs (hs (hs h 10 (h 9 8) p1) 11 (((hs h 10 (h 9 8) p1)) 9 8) p2) 12 (((hs (hs h 10 (h 9 8) p1) 11 (((hs h 10 (h 9 8) p1)) 9 8) p2)) 9 8) p3) 13 (((hs (hs (hs h 10 (h 9 8) p1) 11 (((hs h 10 (h 9 8) p1)) 9 8) p2) 12 (((hs (hs h 10 (h 9 8) p1) 11 (((hs h 10 (h 9 8) p1)) 9 8) p2)) 9 8) p3)) 9 8) (-1)) 14 (((hs (hs (hs (hs h 10 (h 9 8) p1) 11 (((hs h 10 (h 9 8) p1)) 9 8) p2) 12 (((hs (hs h 10 (h 9 8) p1) 11 (((hs h 10 (h 9 8) p1)) 9 8) p2)) 9 8) p3) 13 (((hs (hs (hs h 10 (h 9 8) p1) 11 (((hs h 10 (h 9 8) p1)) 9 8) p2) 12 (((hs (hs h 10 (h 9 8) p1) 11 (((hs h 10 (h 9 8) p1)) 9 8) p2)) 9 8) p3)) 9 8) (-1))) 9 8) p4) 15 (((hs (hs (hs (hs (hs h 10 (h 9 8) p1) 11 (((hs h 10 (h 9 8) p1)) 9 8) p2) 12 (((hs (hs h 10 (h 9 8) p1) 11 (((hs h 10 (h 9 8) p1)) 9 8) p2)) 9 8) p3) 13 (((hs (hs (hs h 10 (h 9 8) p1) 11 (((hs h 10 (h 9 8) p1)) 9 8) p2) 12 (((hs (hs h 10 (h 9 8) p1) 11 (((hs h 10 (h 9 8) p1)) 9 8) p2)) 9 8) p3)) 9 8) (-1)) 14 (((hs (hs (hs (hs h 10 (h 9 8) p1) 11 (((hs h 10 (h 9 8) p1)) 9 8) p2) 12 (((hs (hs h 10 (h 9 8) p1) 11 (((hs h 10 (h 9 8) p1)) 9 8) p2)) 9 8) p3) 13 (((hs (hs (hs h 10 (h 9 8) p1) 11 (((hs h 10 (h 9 8) p1)) 9 8) p2) 12 (((hs (hs h 10 (h 9 8) p1) 11 (((hs h 10 (h 9 8) p1)) 9 8) p2)) 9 8) p3)) 9 8) (-1))) 9 8) p4)) 9 8) 0)) 9 8) ∧ (((hs (hs (hs (hs (hs (hs h 10 (h 9 8) p1) 11 (((hs h 10 (h 9 8) p1)) 9 8) p2) 12 (((hs (hs h 10 (h 9 8) p1) 11 (((hs h 10 (h 9 8) p1)) 9 8) p2)) 9 8) p3) 13 (((hs (hs (hs h 10 (h 9 8) p1) 11 (((hs h 10 (h 9 8) p1)) 9 8) p2) 12 (((hs (hs h 10 (h 9 8) p1) 11 (((hs h 10 (h 9 8) p1)) 9 8) p2)) 9 8) p3)) 9 8) (-1)) 14 (((hs (hs (hs (hs h 10 (h 9 8) p1) 11 (((hs h 10 (h 9 8) p1)) 9 8) p2) 12 (((hs (hs h 10 (h 9 8) p1) 11 (((hs h 10 (h 9 8) p1)) 9 8) p2)) 9 8) p3) 13 (((hs (hs (hs h 10 (h 9 8) p1) 11 (((hs h 10 (h 9 8) p1)) 9 8) p2) 12 (((hs (hs h 10 (h 9 8) p1) 11 (((hs h 10 (h 9 8) p1)) 9 8) p2)) 9 8) p3)) 9 8) (-1))) 9 8) p4) 15 (((hs (hs (hs (hs (hs h 10 (h 9 8) p1) 11 (((hs h 10 (h 9 8) p1)) 9 8) p2) 12 (((hs (hs h 10 (h 9 8) p1) 11 (((hs h 10 (h 9 8) p1)) 9 8) p2)) 9 8) p3) 13 (((hs (hs (hs h 10 (h 9 8) p1) 11 (((hs h 10 (h 9 8) p1)) 9 8) p2) 12 (((hs (hs h 10 (h 9 8) p1) 11 (((hs h 10 (h 9 8) p1)) 9 8) p2)) 9 8) p3)) 9 8) (-1)) 14 (((hs (hs (hs (hs h 10 (h 9 8) p1) 11 (((hs h 10 (h 9 8) p1)) 9 8) p2) 12 (((hs (hs h 10 (h 9 8) p1) 11 (((hs h 10 (h 9 8) p1)) 9 8) p2)) 9 8) p3) 13 (((hs (hs (hs h 10 (h 9 8) p1) 11 (((hs h 10 (h 9 8) p1)) 9 8) p2) 12 (((hs (hs h 10 (h 9 8) p1) 11 (((hs h 10 (h 9 8) p1)) 9 8) p2)) 9 8) p3)) 9 8) (-1))) 9 8) p4)) 9 8) 0)) 9 8) < 200 then if (0 : Int) ≤ (((hs (hs (hs (hs (hs (hs (hs h 10 (h 9 8) p1) 11 (((hs h 10 (h 9 8) p1)) 9 8) p2) 12 (((hs (hs h 10 (h 9 8) p1) 11 (((hs h 10 (h 9 8) p1)) 9 8) p2)) 9 8) p3) 13 (((hs (hs (hs h 10 (h 9 8) p1) 11 (((hs h 10 (h 9 8) p1)) 9 8) p2) 12 (((hs (hs h 10 (h 9 8) p1) 11 (((hs h 10 (h 9 8) p1)) 9 8) p2)) 9 8) p3)) 9 8) (-1)) 14 (((hs (hs (hs (hs h 10 (h 9 8) p1) 11 (((hs h 10 (h 9 8) p1)) 9 8) p2) 12 (((hs (hs h 10 (h 9 8) p1) 11 (((hs h 10 (h 9 8) p1)) 9 8) p2)) 9 8) p3) 13 (((hs (hs (hs h 10 (h 9 8) p1) 11 (((hs h 10 (h 9 8) p1)) 9 8) p2) 12 (((hs (hs h 10 (h 9 8) p1) 11 (((hs h 10 (h 9 8) p1)) 9 8) p2)) 9 8) p3)) 9 8) (-1))) 9 8) p4) 15 (((hs (hs (hs (hs (hs h 10 (h 9 8) p1) 11 (((hs h 10 (h 9 8) p1)) 9 8) p2) 12 (((hs (hs h 10 (h 9 8) p1) 11 (((hs h 10 (h 9 8) p1)) 9 8) p2)) 9 8) p3) 13 (((hs (hs (hs h 10 (h 9 8) p1) 11 (((hs h 10 (h 9 8) p1)) 9 8) p2) 12 (((hs (hs h 10 (h 9 8) p1) 11 (((hs h 10 (h 9 8) p1)) 9 8) p2)) 9 8) p3)) 9 8) (-1)) 14 (((hs (hs (hs (hs h 10 (h 9 8) p1) 11 (((hs h 10 (h 9 8) p1)) 9 8) p2) 12 (((hs (hs h 10 (h 9 8) p1) 11 (((hs h 10 (h 9 8) p1)) 9 8) p2)) 9 8) p3) 13 (((hs (hs (hs h 10 (h 9 8) p1) 11 (((hs h 10 (h 9 8) p1)) 9 8) p2) 12 (((hs (hs h 10 (h 9 8) p1) 11 (((hs h 10 (h 9 8) p1)) 9 8) p2)) 9 8) p3)) 9 8) (-1))) 9 8) p4)) 9 8) 0) 16 (((hs (hs (hs (hs (hs (hs h 10 (h 9 8) p1) 11 (((hs h 10 (h 9 8) p1)) 9 8) p2) 12 (((hs (hs h 10 (h 9 8) p1) 11 (((hs h 10 (h 9 8) p1)) 9 8) p2)) 9 8) p3) 13 (((hs (hs (hs h 10 (h 9 8) p1) 11 (((hs h 10 (h 9 8) p1)) 9 8) p2) 12 (((hs (hs h 10 (h 9 8) p1) 11 (((hs h 10 (h 9 8) p1)) 9 8) p2)) 9 8) p3)) 9 8) (-1)) 14 (((hs (hs (hs (hs h 10 (h 9 8) p1) 11 (((hs h 10 (h 9 8) p1)) 9 8) p2) 12 (((hs (hs h 10 (h 9 8) p1) 11 (((hs h 10 (h 9 8) p1)) 9 8) p2)) 9 8) p3) 13 (((hs (hs (hs h 10 (h 9 8) p1) 11 (((hs h 10 (h 9 8) p1)) 9 8) p2) 12 (((hs (hs h 10 (h 9 8) p1) 11 (((hs h 10 (h 9 8) p1)) 9 8) p2)) 9 8) p3)) 9 8) (-1))) 9 8) p4) 15 (((hs (hs (hs (hs (hs h 10 (h 9 8) p1) 11 (((hs h 10 (h 9 8) p1)) 9 8) p2) 12 (((hs (hs h 10 (h 9 8) p1) 11 (((hs h 10 (h 9 8) p1)) 9 8) p2)) 9 8) p3) 13 (((hs (hs (hs h 10 (h 9 8) p1) 11 (((hs h 10 (h 9 8) p1)) 9 8) p2) 12 (((hs (hs h 10 (h 9 8) p1) 11 (((hs h 10 (h 9 8) p1)) 9 8) p2)) 9 8) p3)) 9 8) (-1)) 14 (((hs (hs (hs (hs h 10 (h 9 8) p1) 11 (((hs h 10 (h 9 8) p1)) 9 8) p2) 12 (((hs (hs h 10 (h 9 8) p1) 11 (((hs h 10 (h 9 8) p1)) 9 8) p2)) 9 8) p3) 13 (((hs (hs (hs h 10 (h 9 8) p1) 11 (((hs h 10 (h 9 8) p1)) 9 8) p2) 12 (((hs (hs h 10 (h 9 8) p1) 11 (((hs h 10 (h 9 8) p1)) 9 8) p2)) 9 8) p3)) 9 8) (-1))) 9 8) p4)) 9 8) 0)) 9 8) (-1))) 9 8) ∧ (((hs (hs (hs (hs (hs (hs (hs h 10 (h 9 8) p1) 11 (((hs h 10 (h 9 8) p1)) 9 8) p2) 12 (((hs (hs h 10 (h 9 8) p1) 11 (((hs h 10 (h 9 8) p1)) 9 8) p2)) 9 8) p3) 13 (((hs (hs (hs h 10 (h 9 8) p1) 11 (((hs h 10 (h 9 8) p1)) 9 8) p2) 12 (((hs (hs h 10 (h 9 8) p1) 11 (((hs h 10 (h 9 8) p1)) 9 8) p2)) 9 8) p3)) 9 8) (-1)) 14 (((hs (hs (hs (hs h 10 (h 9 8) p1) 11 (((hs h 10 (h 9 8) p1)) 9 8) p2) 12 (((hs (hs h 10 (h 9 8) p1) 11 (((hs h 10 (h 9 8) p1)) 9 8) p2)) 9 8) p3) 13 (((hs (hs (hs h 10 (h 9 8) p1) 11 (((hs h 10 (h 9 8) p1)) 9 8) p2) 12 (((hs (hs h 10 (h 9 8) p1) 11 (((hs h 10 (h 9 8) p1)) 9 8) p2)) 9 8) p3)) 9 8) (-1))) 9 8) p4) 15 (((hs (hs (hs (hs (hs h 10 (h 9 8) p1) 11 (((hs h 10 (h 9 8) p1)) 9 8) p2) 12 (((hs (hs h 10 (h 9 8) p1) 11 (((hs h 10 (h 9 8) p1)) 9 8) p2)) 9 8) p3) 13 (((hs (hs (hs h 10 (h 9 8) p1) 11 (((hs h 10 (h 9 8) p1)) 9 8) p2) 12 (((hs (hs h 10 (h 9 8) p1) 11 (((hs h 10 (h 9 8) p1)) 9 8) p2)) 9 8) p3)) 9 8) (-1)) 14 (((hs (hs (hs (hs h 10 (h 9 8) p1) 11 (((hs h 10 (h 9 8) p1)) 9 8) p2) 12 (((hs (hs h 10 (h 9 8) p1) 11 (((hs h 10 (h 9 8) p1)) 9 8) p2)) 9 8) p3) 13 (((hs (hs (hs h 10 (h 9 8) p1) 11 (((hs h 10 (h 9 8) p1)) 9 8) p2) 12 (((hs (hs h 10 (h 9 8) p1) 11 (((hs h 10 (h 9 8) p1)) 9 8) p2)) 9 8) p3)) 9 8) (-1))) 9 8) p4)) 9 8) 0) 16 (((hs (hs (hs (hs (hs (hs h 10 (h 9 8) p1) 11 (((hs h 10 (h 9 8) p1)) 9 8) p2) 12 (((hs (hs h 10 (h 9 8) p1) 11 (((hs h 10 (h 9 8) p1)) 9 8) p2)) 9 8) p3) 13 (((hs (hs (hs h 10 (h 9 8) p1) 11 (((hs h 10 (h 9 8) p1)) 9 8) p2) 12 (((hs (hs h 10 (h 9 8) p1) 11 (((hs h 10 (h 9 8) p1)) 9 8) p2)) 9 8) p3)) 9 8) (-1)) 14 (((hs (hs (hs (hs h 10 (h 9 8) p1) 11 (((hs h 10 (h 9 8) p1)) 9 8) p2) 12 (((hs (hs h 10 (h 9 8) p1) 11 (((hs h 10 (h 9 8) p1)) 9 8) p2)) 9 8) p3) 13 (((hs (hs (hs h 10 (h 9 8) p1) 11 (((hs h 10 (h 9 8) p1)) 9 8) p2) 12 (((hs (hs h 10 (h 9 8) p1) 11 (((hs h 10 (h 9 8) p1)) 9 8) p2)) 9 8) p3)) 9 8) (-1))) 9 8) p4) 15 (((hs (hs (hs (hs (hs h 10 (h 9 8) p1) 11 (((hs h 10 (h 9 8) p1)) 9 8) p2) 12 (((hs (hs h 10 (h 9 8) p1) 11 (((hs h 10 (h 9 8) p1)) 9 8) p2)) 9 8) p3) 13 (((hs (hs (hs h 10 (h 9 8) p1) 11 (((hs h 10 (h 9 8) p1)) 9 8) p2) 12 (((hs (hs h 10 (h 9 8) p1) 11 (((hs h 10 (h 9 8) p1)) 9 8) p2)) 9 8) p3)) 9 8) (-1)) 14 (((hs (hs (hs (hs h 10 (h 9 8) p1) 11 (((hs h 10 (h 9 8) p1)) 9 8) p2) 12 (((hs (hs h 10 (h 9 8) p1) 11 (((hs h 10 (h 9 8) p1)) 9 8) p2)) 9 8) p3) 13 (((hs (hs (hs h 10 (h 9 8) p1) 11 (((hs h 10 (h 9 8) p1)) 9 8) p2) 12 (((hs (hs h 10 (h 9 8) p1) 11 (((hs h 10 (h 9 8) p1)) 9 8) p2)) 9 8) p3)) 9 8) (-1))) 9 8) p4)) 9 8) 0)) 9 8) (-1))) 9 8) < 200 then some (((((hs (hs (hs (hs (hs (hs (hs (hs (hs h 10 (h 9 8) p1) 11 (((hs h 10 (h 9 8) p1)) 9 8) p2) 12 (((hs (hs h 10 (h 9 8) p1) 11 (((hs h 10 (h 9 8) p1)) 9 8) p2)) 9 8) p3) 13 (((hs (hs (hs h 10 (h 9 8) p1) 11 (((hs h 10 (h 9 8) p1)) 9 8) p2) 12 (((hs (hs h 10 (h 9 8) p1) 11 (((hs h 10 (h 9 8) p1)) 9 8) p2)) 9 8) p3)) 9 8) (-1)) 14 (((hs (hs (hs (hs h 10 (h 9 8) p1) 11 (((hs h 10 (h 9 8) p1)) 9 8) p2) 12 (((hs (hs h 10 (h 9 8) p1) 11 (((hs h 10 (h 9 8) p1)) 9 8) p2)) 9 8) p3) 13 (((hs (hs (hs h 10 (h 9 8) p1) 11 (((hs h 10 (h 9 8) p1)) 9 8) p2) 12 (((hs (hs h 10 (h 9 8) p1) 11 (((hs h 10 (h 9 8) p1)) 9 8) p2)) 9 8) p3)) 9 8) (-1))) 9 8) p4) 15 (((hs (hs (hs (hs (hs h 10 (h 9 8) p1) 11 (((hs h 10 (h 9 8) p1)) 9 8) p2) 12 (((hs (hs h 10 (h 9 8) p1) 11 (((hs h 10 (h 9 8) p1)) 9 8) p2)) 9 8) p3) 13 (((hs (hs (hs h 10 (h 9 8) p1) 11 (((hs h 10 (h 9 8) p1)) 9 8) p2) 12 (((hs (hs h 10 (h 9 8) p1) 11 (((hs h 10 (h 9 8) p1)) 9 8) p2)) 9 8) p3)) 9 8) (-1)) 14 (((hs (hs (hs (hs h 10 (h 9 8) p1) 11 (((hs h 10 (h 9 8) p1)) 9 8) p2) 12 (((hs (hs h 10 (h 9 8) p1) 11 (((hs h 10 (h 9 8) p1)) 9 8) p2)) 9 8) p3) 13 (((hs (hs (hs h 10 (h 9 8) p1) 11 (((hs h 10 (h 9 8) p1)) 9 8) p2) 12 (((hs (hs h 10 (h 9 8) p1) 11 (((hs h 10 (h 9 8) p1)) 9 8) p2)) 9 8) p3)) 9 8) (-1))) 9 8) p4)) 9 8) 0) 16 (((hs (hs (hs (hs (hs (hs h 10 (h 9 8) p1) 11 (((hs h 10 (h 9 8) p1)) 9 8) p2) 12 (((hs (hs h 10 (h 9 8) p1) 11 (((hs h 10 (h 9 8) p1)) 9 8) p2)) 9 8) p3) 13 (((hs (hs (hs h 10 (h 9 8) p1) 11 (((hs h 10 (h 9 8) p1)) 9 8) p2) 12 (((hs (hs h 10 (h 9 8) p1) 11 (((hs h 10 (h 9 8) p1)) 9 8) p2)) 9 8) p3)) 9 8) (-1)) 14 (((hs (hs (hs (hs h 10 (h 9 8) p1) 11 (((hs h 10 (h 9 8) p1)) 9 8) p2) 12 (((hs (hs h 10 (h 9 8) p1) 11 (((hs h 10 (h 9 8) p1)) 9 8) p2)) 9 8) p3) 13 (((hs (hs (hs h 10 (h 9 8) p1) 11 (((hs h 10 (h 9 8) p1)) 9 8) p2) 12 (((hs (hs h 10 (h 9 8) p1) 11 (((hs h 10 (h 9 8) p1)) 9 8) p2)) 9 8) p3)) 9 8) (-1))) 9 8) p4) 15 (((hs (hs (hs (hs (hs h 10 (h 9 8) p1) 11 (((hs h 10 (h 9 8) p1)) 9 8) p2) 12 (((hs (hs h 10 (h 9 8) p1) 11 (((hs h 10 (h 9 8) p1)) 9 8) p2)) 9 8) p3) 13 (((hs (hs (hs h 10 (h 9 8) p1) 11 (((hs h 10 (h 9 8) p1)) 9 8) p2) 12 (((hs (hs h 10 (h 9 8) p1) 11 (((hs h 10 (h 9 8) p1)) 9 8) p2)) 9 8) p3)) 9 8) (-1)) 14 (((hs (hs (hs (hs h 10 (h 9 8) p1) 11 (((hs h 10 (h 9 8) p1)) 9 8) p2) 12 (((hs (hs h 10 (h 9 8) p1) 11 (((hs h 10 (h 9 8) p1)) 9 8) p2)) 9 8) p3) 13 (((hs (hs (hs h 10 (h 9 8) p1) 11 (((hs h 10 (h 9 8) p1)) 9 8) p2) 12 (((hs (hs h 10 (h 9 8) p1) 11 (((hs h 10 (h 9 8) p1)) 9 8) p2)) 9 8) p3)) 9 8) (-1))) 9 8) p4)) 9 8) 0)) 9 8) (-1)) 17 (((hs (hs (hs (hs (hs (hs (hs h 10 (h 9 8) p1) 11 (((hs h 10 (h 9 8) p1)) 9 8) p2) 12 (((hs (hs h 10 (h 9 8) p1) 11 (((hs h 10 (h 9 8) p1)) 9 8) p2)) 9 8) p3) 13 (((hs (hs (hs h 10 (h 9 8) p1) 11 (((hs h 10 (h 9 8) p1)) 9 8) p2) 12 (((hs (hs h 10 (h 9 8) p1) 11 (((hs h 10 (h 9 8) p1)) 9 8) p2)) 9 8) p3)) 9 8) (-1)) 14 (((hs (hs (hs (hs h 10 (h 9 8) p1) 11 (((hs h 10 (h 9 8) p1)) 9 8) p2) 12 (((hs (hs h 10 (h 9 8) p1) 11 (((hs h 10 (h 9 8) p1)) 9 8) p2)) 9 8) p3) 13 (((hs (hs (hs h 10 (h 9 8) p1) 11 (((hs h 10 (h 9 8) p1)) 9 8) p2) 12 (((hs (hs h 10 (h 9 8) p1) 11 (((hs h 10 (h 9 8) p1)) 9 8) p2)) 9 8) p3)) 9 8) (-1))) 9 8) p4) 15 (((hs (hs (hs (hs (hs h 10 (h 9 8) p1) 11 (((hs h 10 (h 9 8) p1)) 9 8) p2) 12 (((hs (hs h 10 (h 9 8) p1) 11 (((hs h 10 (h 9 8) p1)) 9 8) p2)) 9 8) p3) 13 (((hs (hs (hs h 10 (h 9 8) p1) 11 (((hs h 10 (h 9 8) p1)) 9 8) p2) 12 (((hs (hs h 10 (h 9 8) p1) 11 (((hs h 10 (h 9 8) p1)) 9 8) p2)) 9 8) p3)) 9 8) (-1)) 14 (((hs (hs (hs (hs h 10 (h 9 8) p1) 11 (((hs h 10 (h 9 8) p1)) 9 8) p2) 12 (((hs (hs h 10 (h 9 8) p1) 11 (((hs h 10 (h 9 8) p1)) 9 8) p2)) 9 8) p3) 13 (((hs (hs (hs h 10 (h 9 8) p1) 11 (((hs h 10 (h 9 8) p1)) 9 8) p2) 12 (((hs (hs h 10 (h 9 8) p1) 11 (((hs h 10 (h 9 8) p1)) 9 8) p2)) 9 8) p3)) 9 8) (-1))) 9 8) p4)) 9 8) 0) 16 (((hs (hs (hs (hs (hs (hs h 10 (h 9 8) p1) 11 (((hs h 10 (h 9 8) p1)) 9 8) p2) 12 (((hs (hs h 10 (h 9 8) p1) 11 (((hs h 10 (h 9 8) p1)) 9 8) p2)) 9 8) p3) 13 (((hs (hs (hs h 10 (h 9 8) p1) 11 (((hs h 10 (h 9 8) p1)) 9 8) p2) 12 (((hs (hs h 10 (h 9 8) p1) 11 (((hs h 10 (h 9 8) p1)) 9 8) p2)) 9 8) p3)) 9 8) (-1)) 14 (((hs (hs (hs (hs h 10 (h 9 8) p1) 11 (((hs h 10 (h 9 8) p1)) 9 8) p2) 12 (((hs (hs h 10 (h 9 8) p1) 11 (((hs h 10 (h 9 8) p1)) 9 8) p2)) 9 8) p3) 13 (((hs (hs (hs h 10 (h 9 8) p1) 11 (((hs h 10 (h 9 8) p1)) 9 8) p2) 12 (((hs (hs h 10 (h 9 8) p1) 11 (((hs h 10 (h 9 8) p1)) 9 8) p2)) 9 8) p3)) 9 8) (-1))) 9 8) p4) 15 (((hs (hs (hs (hs (hs h 10 (h 9 8) p1) 11 (((hs h 10 (h 9 8) p1)) 9 8) p2) 12 (((hs (hs h 10 (h 9 8) p1) 11 (((hs h 10 (h 9 8) p1)) 9 8) p2)) 9 8) p3) 13 (((hs (hs (hs h 10 (h 9 8) p1) 11 (((hs h 10 (h 9 8) p1)) 9 8) p2) 12 (((hs (hs h 10 (h 9 8) p1) 11 (((hs h 10 (h 9 8) p1)) 9 8) p2)) 9 8) p3)) 9 8) (-1)) 14 (((hs (hs (hs (hs h 10 (h 9 8) p1) 11 (((hs h 10 (h 9 8) p1)) 9 8) p2) 12 (((hs (hs h 10 (h 9 8) p1) 11 (((hs h 10 (h 9 8) p1)) 9 8) p2)) 9 8) p3) 13 (((hs (hs (hs h 10 (h 9 8) p1) 11 (((hs h 10 (h 9 8) p1)) 9 8) p2) 12 (((hs (hs h 10 (h 9 8) p1) 11 (((hs h 10 (h 9 8) p1)) 9 8) p2)) 9 8) p3)) 9 8) (-1))) 9 8) p4)) 9 8) 0)) 9 8) (-1))) 9 8) (-1)) 9 8 ((((hs (hs (hs (hs (hs (hs (hs (hs h 10 (h 9 8) p1) 11 (((hs h 10 (h 9 8) p1)) 9 8) p2) 12 (((hs (hs h 10 (h 9 8) p1) 11 (((hs h 10 (h 9 8) p1)) 9 8) p2)) 9 8) p3) 13 (((hs (hs (hs h 10 (h 9 8) p1) 11 (((hs h 10 (h 9 8) p1)) 9 8) p2) 12 (((hs (hs h 10 (h 9 8) p1) 11 (((hs h 10 (h 9 8) p1)) 9 8) p2)) 9 8) p3)) 9 8) (-1)) 14 (((hs (hs (hs (hs h 10 (h 9 8) p1) 11 (((hs h 10 (h 9 8) p1)) 9 8) p2) 12 (((hs (hs h 10 (h 9 8) p1) 11 (((hs h 10 (h 9 8) p1)) 9 8) p2)) 9 8) p3) 13 (((hs (hs (hs h 10 (h 9 8) p1) 11 (((hs h 10 (h 9 8) p1)) 9 8) p2) 12 (((hs (hs h 10 (h 9 8) p1) 11 (((hs h 10 (h 9 8) p1)) 9 8) p2)) 9 8) p3)) 9 8) (-1))) 9 8) p4) 15 (((hs (hs (hs (hs (hs h 10 (h 9 8) p1) 11 (((hs h 10 (h 9 8) p1)) 9 8) p2) 12 (((hs (hs h 10 (h 9 8) p1) 11 (((hs h 10 (h 9 8) p1)) 9 8) p2)) 9 8) p3) 13 (((hs (hs (hs h 10 (h 9 8) p1) 11 (((hs h 10 (h 9 8) p1)) 9 8) p2) 12 (((hs (hs h 10 (h 9 8) p1) 11 (((hs h 10 (h 9 8) p1)) 9 8) p2)) 9 8) p3)) 9 8) (-1)) 14 (((hs (hs (hs (hs h 10 (h 9 8) p1) 11 (((hs h 10 (h 9 8) p1)) 9 8) p2) 12 (((hs (hs h 10 (h 9 8) p1) 11 (((hs h 10 (h 9 8) p1)) 9 8) p2)) 9 8) p3) 13 (((hs (hs (hs h 10 (h 9 8) p1) 11 (((hs h 10 (h 9 8) p1)) 9 8) p2) 12 (((hs (hs h 10 (h 9 8) p1) 11 (((hs h 10 (h 9 8) p1)) 9 8) p2)) 9 8) p3)) 9 8) (-1))) 9 8) p4)) 9 8) 0) 16 (((hs (hs (hs (hs (hs (hs h 10 (h 9 8) p1) 11 (((hs h 10 (h 9 8) p1)) 9 8) p2) 12 (((hs (hs h 10 (h 9 8) p1) 11 (((hs h 10 (h 9 8) p1)) 9 8) p2)) 9 8) p3) 13 (((hs (hs (hs h 10 (h 9 8) p1) 11 (((hs h 10 (h 9 8) p1)) 9 8) p2) 12 (((hs (hs h 10 (h 9 8) p1) 11 (((hs h 10 (h 9 8) p1)) 9 8) p2)) 9 8) p3)) 9 8) (-1)) 14 (((hs (hs (hs (hs h 10 (h 9 8) p1) 11 (((hs h 10 (h 9 8) p1)) 9 8) p2) 12 (((hs (hs h 10 (h 9 8) p1) 11 (((hs h 10 (h 9 8) p1)) 9 8) p2)) 9 8) p3) 13 (((hs (hs (hs h 10 (h 9 8) p1) 11 (((hs h 10 (h 9 8) p1)) 9 8) p2) 12 (((hs (hs h 10 (h 9 8) p1) 11 (((hs h 10 (h 9 8) p1)) 9 8) p2)) 9 8) p3)) 9 8) (-1))) 9 8) p4) 15 (((hs (hs (hs (hs (hs h 10 (h 9 8) p1) 11 (((hs h 10 (h 9 8) p1)) 9 8) p2) 12 (((hs (hs h 10 (h 9 8) p1) 11 (((hs h 10 (h 9 8) p1)) 9 8) p2)) 9 8) p3) 13 (((hs (hs (hs h 10 (h 9 8) p1) 11 (((hs h 10 (h 9 8) p1)) 9 8) p2) 12 (((hs (hs h 10 (h 9 8) p1) 11 (((hs h 10 (h 9 8) p1)) 9 8) p2)) 9 8) p3)) 9 8) (-1)) 14 (((hs (hs (hs (hs h 10 (h 9 8) p1) 11 (((hs h 10 (h 9 8) p1)) 9 8) p2) 12 (((hs (hs h 10 (h 9 8) p1) 11 (((hs h 10 (h 9 8) p1)) 9 8) p2)) 9 8) p3) 13 (((hs (hs (hs h 10 (h 9 8) p1) 11 (((hs h 10 (h 9 8) p1)) 9 8) p2) 12 (((hs (hs h 10 (h 9 8) p1) 11 (((hs h 10 (h 9 8) p1)) 9 8) p2)) 9 8) p3)) 9 8) (-1))) 9 8) p4)) 9 8) 0)) 9 8) (-1)) 17 (((hs (hs (hs (hs (hs (hs (hs h 10 (h 9 8) p1) 11 (((hs h 10 (h 9 8) p1)) 9 8) p2) 12 (((hs (hs h 10 (h 9 8) p1) 11 (((hs h 10 (h 9 8) p1)) 9 8) p2)) 9 8) p3) 13 (((hs (hs (hs h 10 (h 9 8) p1) 11 (((hs h 10 (h 9 8) p1)) 9 8) p2) 12 (((hs (hs h 10 (h 9 8) p1) 11 (((hs h 10 (h 9 8) p1)) 9 8) p2)) 9 8) p3)) 9 8) (-1)) 14 (((hs (hs (hs (hs h 10 (h 9 8) p1) 11 (((hs h 10 (h 9 8) p1)) 9 8) p2) 12 (((hs (hs h 10 (h 9 8) p1) 11 (((hs h 10 (h 9 8) p1)) 9 8) p2)) 9 8) p3) 13 (((hs (hs (hs h 10 (h 9 8) p1) 11 (((hs h 10 (h 9 8) p1)) 9 8) p2) 12 (((hs (hs h 10 (h 9 8) p1) 11 (((hs h 10 (h 9 8) p1)) 9 8) p2)) 9 8) p3)) 9 8) (-1))) 9 8) p4) 15 (((hs (hs (hs (hs (hs h 10 (h 9 8) p1) 11 (((hs h 10 (h 9 8) p1)) 9 8) p2) 12 (((hs (hs h 10 (h 9 8) p1) 11 (((hs h 10 (h 9 8) p1)) 9 8) p2)) 9 8) p3) 13 (((hs (hs (hs h 10 (h 9 8) p1) 11 (((hs h 10 (h 9 8) p1)) 9 8) p2) 12 (((hs (hs h 10 (h 9 8) p1) 11 (((hs h 10 (h 9 8) p1)) 9 8) p2)) 9 8) p3)) 9 8) (-1)) 14 (((hs (hs (hs (hs h 10 (h 9 8) p1) 11 (((hs h 10 (h 9 8) p1)) 9 8) p2) 12 (((hs (hs h 10 (h 9 8) p1) 11 (((hs h 10 (h 9 8) p1)) 9 8) p2)) 9 8) p3) 13 (((hs (hs (hs h 10 (h 9 8) p1) 11 (((hs h 10 (h 9 8) p1)) 9 8) p2) 12 (((hs (hs h 10 (h 9 8) p1) 11 (((hs h 10 (h 9 8) p1)) 9 8) p2)) 9 8) p3)) 9 8) (-1))) 9 8) p4)) 9 8) 0) 16 (((hs (hs (hs (hs (hs (hs h 10 (h 9 8) p1) 11 (((hs h 10 (h 9 8) p1)) 9 8) p2) 12 (((hs (hs h 10 (h 9 8) p1) 11 (((hs h 10 (h 9 8) p1)) 9 8) p2)) 9 8) p3) 13 (((hs (hs (hs h 10 (h 9 8) p1) 11 (((hs h 10 (h 9 8) p1)) 9 8) p2) 12 (((hs (hs h 10 (h 9 8) p1) 11 (((hs h 10 (h 9 8) p1)) 9 8) p2)) 9 8) p3)) 9 8) (-1)) 14 (((hs (hs (hs (hs h 10 (h 9 8) p1) 11 (((hs h 10 (h 9 8) p1)) 9 8) p2) 12 (((hs (hs h 10 (h 9 8) p1) 11 (((hs h 10 (h 9 8) p1)) 9 8) p2)) 9 8) p3) 13 (((hs (hs (hs h 10 (h 9 8) p1) 11 (((hs h 10 (h 9 8) p1)) 9 8) p2) 12 (((hs (hs h 10 (h 9 8) p1) 11 (((hs h 10 (h 9 8) p1)) 9 8) p2)) 9 8) p3)) 9 8) (-1))) 9 8) p4) 15 (((hs (hs (hs (hs (hs h 10 (h 9 8) p1) 11 (((hs h 10 (h 9 8) p1)) 9 8) p2) 12 (((hs (hs h 10 (h 9 8) p1) 11 (((hs h 10 (h 9 8) p1)) 9 8) p2)) 9 8) p3) 13 (((hs (hs (hs h 10 (h 9 8) p1) 11 (((hs h 10 (h 9 8) p1)) 9 8) p2) 12 (((hs (hs h 10 (h 9 8) p1) 11 (((hs h 10 (h 9 8) p1)) 9 8) p2)) 9 8) p3)) 9 8) (-1)) 14 (((hs (hs (hs (hs h 10 (h 9 8) p1) 11 (((hs h 10 (h 9 8) p1)) 9 8) p2) 12 (((hs (hs h 10 (h 9 8) p1) 11 (((hs h 10 (h 9 8) p1)) 9 8) p2)) 9 8) p3) 13 (((hs (hs (hs h 10 (h 9 8) p1) 11 (((hs h 10 (h 9 8) p1)) 9 8) p2) 12 (((hs (hs h 10 (h 9 8) p1) 11 (((hs h 10 (h 9 8) p1)) 9 8) p2)) 9 8) p3)) 9 8) (-1))) 9 8) p4)) 9 8) 0)) 9 8) (-1))) 9 8) (-1))) 9 8) + 1))) 9 8) - 1), (hs (hs (hs (hs (hs (hs (hs (hs (hs h 10 (h 9 8) p1) 11 (((hs h 10 (h 9 8) p1)) 9 8) p2) 12 (((hs (hs h 10 (h 9 8) p1) 11 (((hs h 10 (h 9 8) p1)) 9 8) p2)) 9 8) p3) 13 (((hs (hs (hs h 10 (h 9 8) p1) 11 (((hs h 10 (h 9 8) p1)) 9 8) p2) 12 (((hs (hs h 10 (h 9 8) p1) 11 (((hs h 10 (h 9 8) p1)) 9 8) p2)) 9 8) p3)) 9 8) (-1)) 14 (((hs (hs (hs (hs h 10 (h 9 8) p1) 11 (((hs h 10 (h 9 8) p1)) 9 8) p2) 12 (((hs (hs h 10 (h 9 8) p1) 11 (((hs h 10 (h 9 8) p1)) 9 8) p2)) 9 8) p3) 13 (((hs (hs (hs h 10 (h 9 8) p1) 11 (((hs h 10 (h 9 8) p1)) 9 8) p2) 12 (((hs (hs h 10 (h 9 8) p1) 11 (((hs h 10 (h 9 8) p1)) 9 8) p2)) 9 8) p3)) 9 8) (-1))) 9 8) p4) 15 (((hs (hs (hs (hs (hs h 10 (h 9 8) p1) 11 (((hs h 10 (h 9 8) p1)) 9 8) p2) 12 (((hs (hs h 10 (h 9 8) p1) 11 (((hs h 10 (h 9 8) p1)) 9 8) p2)) 9 8) p3) 13 (((hs (hs (hs h 10 (h 9 8) p1) 11 (((hs h 10 (h 9 8) p1)) 9 8) p2) 12 (((hs (hs h 10 (h 9 8) p1) 11 (((hs h 10 (h 9 8) p1)) 9 8) p2)) 9 8) p3)) 9 8) (-1)) 14 (((hs (hs (hs (hs h 10 (h 9 8) p1) 11 (((hs h 10 (h 9 8) p1)) 9 8) p2) 12 (((hs (hs h 10 (h 9 8) p1) 11 (((hs h 10 (h 9 8) p1)) 9 8) p2)) 9 8) p3) 13 (((hs (hs (hs h 10 (h 9 8) p1) 11 (((hs h 10 (h 9 8) p1)) 9 8) p2) 12 (((hs (hs h 10 (h 9 8) p1) 11 (((hs h 10 (h 9 8) p1)) 9 8) p2)) 9 8) p3)) 9 8) (-1))) 9 8) p4)) 9 8) 0) 16 (((hs (hs (hs (hs (hs (hs h 10 (h 9 8) p1) 11 (((hs h 10 (h 9 8) p1)) 9 8) p2) 12 (((hs (hs h 10 (h 9 8) p1) 11 (((hs h 10 (h 9 8) p1)) 9 8) p2)) 9 8) p3) 13 (((hs (hs (hs h 10 (h 9 8) p1) 11 (((hs h 10 (h 9 8) p1)) 9 8) p2) 12 (((hs (hs h 10 (h 9 8) p1) 11 (((hs h 10 (h 9 8) p1)) 9 8) p2)) 9 8) p3)) 9 8) (-1)) 14 (((hs (hs (hs (hs h 10 (h 9 8) p1) 11 (((hs h 10 (h 9 8) p1)) 9 8) p2) 12 (((hs (hs h 10 (h 9 8) p1) 11 (((hs h 10 (h 9 8) p1)) 9 8) p2)) 9 8) p3) 13 (((hs (hs (hs h 10 (h 9 8) p1) 11 (((hs h 10 (h 9 8) p1)) 9 8) p2) 12 (((hs (hs h 10 (h 9 8) p1) 11 (((hs h 10 (h 9 8) p1)) 9 8) p2)) 9 8) p3)) 9 8) (-1))) 9 8) p4) 15 (((hs (hs (hs (hs (hs h 10 (h 9 8) p1) 11 (((hs h 10 (h 9 8) p1)) 9 8) p2) 12 (((hs (hs h 10 (h 9 8) p1) 11 (((hs h 10 (h 9 8) p1)) 9 8) p2)) 9 8) p3) 13 (((hs (hs (hs h 10 (h 9 8) p1) 11 (((hs h 10 (h 9 8) p1)) 9 8) p2) 12 (((hs (hs h 10 (h 9 8) p1) 11 (((hs h 10 (h 9 8) p1)) 9 8) p2)) 9 8) p3)) 9 8) (-1)) 14 (((hs (hs (hs (hs h 10 (h 9 8) p1) 11 (((hs h 10 (h 9 8) p1)) 9 8) p2) 12 (((hs (hs h 10 (h 9 8) p1) 11 (((hs h 10 (h 9 8) p1)) 9 8) p2)) 9 8) p3) 13 (((hs (hs (hs h 10 (h 9 8) p1) 11 (((hs h 10 (h 9 8) p1)) 9 8) p2) 12 (((hs (hs h 10 (h 9 8) p1) 11 (((hs h 10 (h 9 8) p1)) 9 8) p2)) 9 8) p3)) 9 8) (-1))) 9 8) p4)) 9 8) 0)) 9 8) (-1)) 17 (((hs (hs (hs (hs (hs (hs (hs h 10 (h 9 8) p1) 11 (((hs h 10 (h 9 8) p1)) 9 8) p2) 12 (((hs (hs h 10 (h 9 8) p1) 11 (((hs h 10 (h 9 8) p1)) 9 8) p2)) 9 8) p3) 13 (((hs (hs (hs h 10 (h 9 8) p1) 11 (((hs h 10 (h 9 8) p1)) 9 8) p2) 12 (((hs (hs h 10 (h 9 8) p1) 11 (((hs h 10 (h 9 8) p1)) 9 8) p2)) 9 8) p3)) 9 8) (-1)) 14 (((hs (hs (hs (hs h 10 (h 9 8) p1) 11 (((hs h 10 (h 9 8) p1)) 9 8) p2) 12 (((hs (hs h 10 (h 9 8) p1) 11 (((hs h 10 (h 9 8) p1)) 9 8) p2)) 9 8) p3) 13 (((hs (hs (hs h 10 (h 9 8) p1) 11 (((hs h 10 (h 9 8) p1)) 9 8) p2) 12 (((hs (hs h 10 (h 9 8) p1) 11 (((hs h 10 (h 9 8) p1)) 9 8) p2)) 9 8) p3)) 9 8) (-1))) 9 8) p4) 15 (((hs (hs (hs (hs (hs h 10 (h 9 8) p1) 11 (((hs h 10 (h 9 8) p1)) 9 8) p2) 12 (((hs (hs h 10 (h 9 8) p1) 11 (((hs h 10 (h 9 8) p1)) 9 8) p2)) 9 8) p3) 13 (((hs (hs (hs h 10 (h 9 8) p1) 11 (((hs h 10 (h 9 8) p1)) 9 8) p2) 12 (((hs (hs h 10 (h 9 8) p1) 11 (((hs h 10 (h 9 8) p1)) 9 8) p2)) 9 8) p3)) 9 8) (-1)) 14 (((hs (hs (hs (hs h 10 (h 9 8) p1) 11 (((hs h 10 (h 9 8) p1)) 9 8) p2) 12 (((hs (hs h 10 (h 9 8) p1) 11 (((hs h 10 (h 9 8) p1)) 9 8) p2)) 9 8) p3) 13 (((hs (hs (hs h 10 (h 9 8) p1) 11 (((hs h 10 (h 9 8) p1)) 9 8) p2) 12 (((hs (hs h 10 (h 9 8) p1) 11 (((hs h 10 (h 9 8) p1)) 9 8) p2)) 9 8) p3)) 9 8) (-1))) 9 8) p4)) 9 8) 0) 16 (((hs (hs (hs (hs (hs (hs h 10 (h 9 8) p1) 11 (((hs h 10 (h 9 8) p1)) 9 8) p2) 12 (((hs (hs h 10 (h 9 8) p1) 11 (((hs h 10 (h 9 8) p1)) 9 8) p2)) 9 8) p3) 13 (((hs (hs (hs h 10 (h 9 8) p1) 11 (((hs h 10 (h 9 8) p1)) 9 8) p2) 12 (((hs (hs h 10 (h 9 8) p1) 11 (((hs h 10 (h 9 8) p1)) 9 8) p2)) 9 8) p3)) 9 8) (-1)) 14 (((hs (hs (hs (hs h 10 (h 9 8) p1) 11 (((hs h 10 (h 9 8) p1)) 9 8) p2) 12 (((hs (hs h 10 (h 9 8) p1) 11 (((hs h 10 (h 9 8) p1)) 9 8) p2)) 9 8) p3) 13 (((hs (hs (hs h 10 (h 9 8) p1) 11 (((hs h 10 (h 9 8) p1)) 9 8) p2) 12 (((hs (hs h 10 (h 9 8) p1) 11 (((hs h 10 (h 9 8) p1)) 9 8) p2)) 9 8) p3)) 9 8) (-1))) 9 8) p4) 15 (((hs (hs (hs (hs (hs h 10 (h 9 8) p1) 11 (((hs h 10 (h 9 8) p1)) 9 8) p2) 12 (((hs (hs h 10 (h 9 8) p1) 11 (((hs h 10 (h 9 8) p1)) 9 8) p2)) 9 8) p3) 13 (((hs (hs (hs h 10 (h 9 8) p1) 11 (((hs h 10 (h 9 8) p1)) 9 8) p2) 12 (((hs (hs h 10 (h 9 8) p1) 11 (((hs h 10 (h 9 8) p1)) 9 8) p2)) 9 8) p3)) 9 8) (-1)) 14 (((hs (hs (hs (hs h 10 (h 9 8) p1) 11 (((hs h 10 (h 9 8) p1)) 9 8) p2) 12 (((hs (hs h 10 (h 9 8) p1) 11 (((hs h 10 (h 9 8) p1)) 9 8) p2)) 9 8) p3) 13 (((hs (hs (hs h 10 (h 9 8) p1) 11 (((hs h 10 (h 9 8) p1)) 9 8) p2) 12 (((hs (hs h 10 (h 9 8) p1) 11 (((hs h 10 (h 9 8) p1)) 9 8) p2)) 9 8) p3)) 9 8) (-1))) 9 8) p4)) 9 8) 0)) 9 8) (-1))) 9 8) (-1)) 9 8 ((((hs (hs (hs (hs (hs (hs (hs (hs h 10 (h 9 8) p1) 11 (((hs h 10 (h 9 8) p1)) 9 8) p2) 12 (((hs (hs h 10 (h 9 8) p1) 11 (((hs h 10 (h 9 8) p1)) 9 8) p2)) 9 8) p3) 13 (((hs (hs (hs h 10 (h 9 8) p1) 11 (((hs h 10 (h 9 8) p1)) 9 8) p2) 12 (((hs (hs h 10 (h 9 8) p1) 11 (((hs h 10 (h 9 8) p1)) 9 8) p2)) 9 8) p3)) 9 8) (-1)) 14 (((hs (hs (hs (hs h 10 (h 9 8) p1) 11 (((hs h 10 (h 9 8) p1)) 9 8) p2) 12 (((hs (hs h 10 (h 9 8) p1) 11 (((hs h 10 (h 9 8) p1)) 9 8) p2)) 9 8) p3) 13 (((hs (hs (hs h 10 (h 9 8) p1) 11 (((hs h 10 (h 9 8) p1)) 9 8) p2) 12 (((hs (hs h 10 (h 9 8) p1) 11 (((hs h 10 (h 9 8) p1)) 9 8) p2)) 9 8) p3)) 9 8) (-1))) 9 8) p4) 15 (((hs (hs (hs (hs (hs h 10 (h 9 8) p1) 11 (((hs h 10 (h 9 8) p1)) 9 8) p2) 12 (((hs (hs h 10 (h 9 8) p1) 11 (((hs h 10 (h 9 8) p1)) 9 8) p2)) 9 8) p3) 13 (((hs (hs (hs h 10 (h 9 8) p1) 11 (((hs h 10 (h 9 8) p1)) 9 8) p2) 12 (((hs (hs h 10 (h 9 8) p1) 11 (((hs h 10 (h 9 8) p1)) 9 8) p2)) 9 8) p3)) 9 8) (-1)) 14 (((hs (hs (hs (hs h 10 (h 9 8) p1) 11 (((hs h 10 (h 9 8) p1)) 9 8) p2) 12 (((hs (hs h 10 (h 9 8) p1) 11 (((hs h 10 (h 9 8) p1)) 9 8) p2)) 9 8) p3) 13 (((hs (hs (hs h 10 (h 9 8) p1) 11 (((hs h 10 (h 9 8) p1)) 9 8) p2) 12 (((hs (hs h 10 (h 9 8) p1) 11 (((hs h 10 (h 9 8) p1)) 9 8) p2)) 9 8) p3)) 9 8) (-1))) 9 8) p4)) 9 8) 0) 16 (((hs (hs (hs (hs (hs (hs h 10 (h 9 8) p1) 11 (((hs h 10 (h 9 8) p1)) 9 8) p2) 12 (((hs (hs h 10 (h 9 8) p1) 11 (((hs h 10 (h 9 8) p1)) 9 8) p2)) 9 8) p3) 13 (((hs (hs (hs h 10 (h 9 8) p1) 11 (((hs h 10 (h 9 8) p1)) 9 8) p2) 12 (((hs (hs h 10 (h 9 8) p1) 11 (((hs h 10 (h 9 8) p1)) 9 8) p2)) 9 8) p3)) 9 8) (-1)) 14 (((hs (hs (hs (hs h 10 (h 9 8) p1) 11 (((hs h 10 (h 9 8) p1)) 9 8) p2) 12 (((hs (hs h 10 (h 9 8) p1) 11 (((hs h 10 (h 9 8) p1)) 9 8) p2)) 9 8) p3) 13 (((hs (hs (hs h 10 (h 9 8) p1) 11 (((hs h 10 (h 9 8) p1)) 9 8) p2) 12 (((hs (hs h 10 (h 9 8) p1) 11 (((hs h 10 (h 9 8) p1)) 9 8) p2)) 9 8) p3)) 9 8) (-1))) 9 8) p4) 15 (((hs (hs (hs (hs (hs h 10 (h 9 8) p1) 11 (((hs h 10 (h 9 8) p1)) 9 8) p2) 12 (((hs (hs h 10 (h 9 8) p1) 11 (((hs h 10 (h 9 8) p1)) 9 8) p2)) 9 8) p3) 13 (((hs (hs (hs h 10 (h 9 8) p1) 11 (((hs h 10 (h 9 8) p1)) 9 8) p2) 12 (((hs (hs h 10 (h 9 8) p1) 11 (((hs h 10 (h 9 8) p1)) 9 8) p2)) 9 8) p3)) 9 8) (-1)) 14 (((hs (hs (hs (hs h 10 (h 9 8) p1) 11 (((hs h 10 (h 9 8) p1)) 9 8) p2) 12 (((hs (hs h 10 (h 9 8) p1) 11 (((hs h 10 (h 9 8) p1)) 9 8) p2)) 9 8) p3) 13 (((hs (hs (hs h 10 (h 9 8) p1) 11 (((hs h 10 (h 9 8) p1)) 9 8) p2) 12 (((hs (hs h 10 (h 9 8) p1) 11 (((hs h 10 (h 9 8) p1)) 9 8) p2)) 9 8) p3)) 9 8) (-1))) 9 8) p4)) 9 8) 0)) 9 8) (-1)) 17 (((hs (hs (hs (hs (hs (hs (hs h 10 (h 9 8) p1) 11 (((hs h 10 (h 9 8) p1)) 9 8) p2) 12 (((hs (hs h 10 (h 9 8) p1) 11 (((hs h 10 (h 9 8) p1)) 9 8) p2)) 9 8) p3) 13 (((hs (hs (hs h 10 (h 9 8) p1) 11 (((hs h 10 (h 9 8) p1)) 9 8) p2) 12 (((hs (hs h 10 (h 9 8) p1) 11 (((hs h 10 (h 9 8) p1)) 9 8) p2)) 9 8) p3)) 9 8) (-1)) 14 (((hs (hs (hs (hs h 10 (h 9 8) p1) 11 (((hs h 10 (h 9 8) p1)) 9 8) p2) 12 (((hs (hs h 10 (h 9 8) p1) 11 (((hs h 10 (h 9 8) p1)) 9 8) p2)) 9 8) p3) 13 (((hs (hs (hs h 10 (h 9 8) p1) 11 (((hs h 10 (h 9 8) p1)) 9 8) p2) 12 (((hs (hs h 10 (h 9 8) p1) 11 (((hs h 10 (h 9 8) p1)) 9 8) p2)) 9 8) p3)) 9 8) (-1))) 9 8) p4) 15 (((hs (hs (hs (hs (hs h 10 (h 9 8) p1) 11 (((hs h 10 (h 9 8) p1)) 9 8) p2) 12 (((hs (hs h 10 (h 9 8) p1) 11 (((hs h 10 (h 9 8) p1)) 9 8) p2)) 9 8) p3) 13 (((hs (hs (hs h 10 (h 9 8) p1) 11 (((hs h 10 (h 9 8) p1)) 9 8) p2) 12 (((hs (hs h 10 (h 9 8) p1) 11 (((hs h 10 (h 9 8) p1)) 9 8) p2)) 9 8) p3)) 9 8) (-1)) 14 (((hs (hs (hs (hs h 10 (h 9 8) p1) 11 (((hs h 10 (h 9 8) p1)) 9 8) p2) 12 (((hs (hs h 10 (h 9 8) p1) 11 (((hs h 10 (h 9 8) p1)) 9 8) p2)) 9 8) p3) 13 (((hs (hs (hs h 10 (h 9 8) p1) 11 (((hs h 10 (h 9 8) p1)) 9 8) p2) 12 (((hs (hs h 10 (h 9 8) p1) 11 (((hs h 10 (h 9 8) p1)) 9 8) p2)) 9 8) p3)) 9 8) (-1))) 9 8) p4)) 9 8) 0) 16 (((hs (hs (hs (hs (hs (hs h 10 (h 9 8) p1) 11 (((hs h 10 (h 9 8) p1)) 9 8) p2) 12 (((hs (hs h 10 (h 9 8) p1) 11 (((hs h 10 (h 9 8) p1)) 9 8) p2)) 9 8) p3) 13 (((hs (hs (hs h 10 (h 9 8) p1) 11 (((hs h 10 (h 9 8) p1)) 9 8) p2) 12 (((hs (hs h 10 (h 9 8) p1) 11 (((hs h 10 (h 9 8) p1)) 9 8) p2)) 9 8) p3)) 9 8) (-1)) 14 (((hs (hs (hs (hs h 10 (h 9 8) p1) 11 (((hs h 10 (h 9 8) p1)) 9 8) p2) 12 (((hs (hs h 10 (h 9 8) p1) 11 (((hs h 10 (h 9 8) p1)) 9 8) p2)) 9 8) p3) 13 (((hs (hs (hs h 10 (h 9 8) p1) 11 (((hs h 10 (h 9 8) p1)) 9 8) p2) 12 (((hs (hs h 10 (h 9 8) p1) 11 (((hs h 10 (h 9 8) p1)) 9 8) p2)) 9 8) p3)) 9 8) (-1))) 9 8) p4) 15 (((hs (hs (hs (hs (hs h 10 (h 9 8) p1) 11 (((hs h 10 (h 9 8) p1)) 9 8) p2) 12 (((hs (hs h 10 (h 9 8) p1) 11 (((hs h 10 (h 9 8) p1)) 9 8) p2)) 9 8) p3) 13 (((hs (hs (hs h 10 (h 9 8) p1) 11 (((hs h 10 (h 9 8) p1)) 9 8) p2) 12 (((hs (hs h 10 (h 9 8) p1) 11 (((hs h 10 (h 9 8) p1)) 9 8) p2)) 9 8) p3)) 9 8) (-1)) 14 (((hs (hs (hs (hs h 10 (h 9 8) p1) 11 (((hs h 10 (h 9 8) p1)) 9 8) p2) 12 (((hs (hs h 10 (h 9 8) p1) 11 (((hs h 10 (h 9 8) p1)) 9 8) p2)) 9 8) p3) 13 (((hs (hs (hs h 10 (h 9 8) p1) 11 (((hs h 10 (h 9 8) p1)) 9 8) p2) 12 (((hs (hs h 10 (h 9 8) p1) 11 (((hs h 10 (h 9 8) p1)) 9 8) p2)) 9 8) p3)) 9 8) (-1))) 9 8) p4)) 9 8) 0)) 9 8) (-1))) 9 8) (-1))) 9 8) + 1))) else none else none else none else none else none else none else none else none else some ((-1), h)
def fX4_size (h : HS) : Option (Int) := some (h 9 8)
def fX4_has (p1 : Int) (h : HS) : Option (Int) := if wr p1 < 0 then some 0 else if wr (h 9 8) ≤ wr p1 then some 0 else some 1
def fX4_above (p1 : Int) (h : HS) : Option (Int) := (fX4_has p1 h).bind fun r1 => if wr r1 = 0 then some (-1) else if (0 : Int) ≤ p1 ∧ p1 < 200 then some (h 10 p1) else none
def fX4_from (p1 : Int) (h : HS) : Option (Int) := (fX4_has p1 h).bind fun r1 => if wr r1 = 0 then some (-1) else if (0 : Int) ≤ p1 ∧ p1 < 200 then some (h 11 p1) else none
def fX4_to (p1 : Int) (h : HS) : Option (Int) := (fX4_has p1 h).bind fun r1 => if wr r1 = 0 then some (-1) else if (0 : Int) ≤ p1 ∧ p1 < 200 then some (h 12 p1) else none
def fX4_taken (p1 : Int) (h : HS) : Option (Int) := (fX4_has p1 h).bind fun r1 => if wr r1 = 0 then some (-1) else if (0 : Int) ≤ p1 ∧ p1 < 200 then some (h 13 p1) else none
def fX4_depth (p1 : Int) (h : HS) : Option (Int) := (fX4_has p1 h).bind fun r1 => if wr r1 = 0 then some 0 else if (0 : Int) ≤ p1 ∧ p1 < 200 then some (h 14 p1) else none
def fX4_childCount (p1 : Int) (h : HS) : Option (Int) := (fX4_has p1 h).bind fun r1 => if wr r1 = 0 then some 0 else if (0 : Int) ≤ p1 ∧ p1 < 200 then some (h 15 p1) else none
def fX4_keepTaken (p1 : Int) (p2 : Int) (h : HS) : Option (HS) := (fX4_has p1 h).bind fun r1 => if wr r1 = 0 then some h else if (0 : Int) ≤ p1 ∧ p1 < 200 then some (hs h 13 p1 p2) else none
def fX4_fact (p1 : Int) (p2 : Int) (h : HS) : Option (Int) := if wr p2 = 0 then (fX4_above p1 h).bind fun r2 => some r2 else if wr p2 = 1 then (fX4_from p1 h).bind fun r3 => some r3 else if wr p2 = 2 then (fX4_to p1 h).bind fun r4 => some r4 else if wr p2 = 3 then (fX4_depth p1 h).bind fun r5 => some r5 else (fX4_childCount p1 h).bind fun r1 => some r1
def fX4_child_L34 : Nat → Int → Int → Int → HS → Option (Int)
  | 0, _, _, _, _ => none
  | nf + 1, x2, x3, x4, h => if wr x2 ≤ wr x4 then some x3 else (fX4_has x3 h).bind fun r1 => if wr r1 = 0 then some x3 else if (0 : Int) ≤ x3 ∧ x3 < 200 then fX4_child_L34 nf x2 (h 17 x3) (x4 + 1) h else none
def fX4_child (p1 : Int) (p2 : Int) (h : HS) : Option (Int) := (fX4_has p1 h).bind fun r2 => if wr r2 = 0 then some (-1) else if wr p2 < 0 then some (-1) else if (0 : Int) ≤ p1 ∧ p1 < 200 then if wr p2 < wr (h 15 p1) then if (0 : Int) ≤ p1 ∧ p1 < 200 then fX4_child_L34 zF p2 (h 16 p1) 0 h else none else some (-1) else none
def fX4_childOfMove_b55 (k11 : Int → Int → Int → Int → Int → HS → Option (Int)) (x1 : Int) (x2 : Int) (x3 : Int) (x4 : Int) (x5 : Int) (h : HS) : Option (Int) := if (0 : Int) ≤ x4 ∧ x4 < 200 then k11 x1 x2 x3 (h 17 x4) (x5 + 1) h else none
def fX4_childOfMove_L11 : Nat → Int → Int → Int → Int → Int → HS → Option (Int)
  | 0, _, _, _, _, _, _ => none
  | nf + 1, x1, x2, x3, x4, x5, h => (fX4_childCount x1 h).bind fun r1 => if wr r1 ≤ wr x5 then some (-1) else (fX4_has x4 h).bind fun r2 => if wr r2 = 0 then some (-1) else if (0 : Int) ≤ x4 ∧ x4 < 200 then if wr (h 11 x4) = wr x2 then if (0 : Int) ≤ x4 ∧ x4 < 200 then if wr (h 12 x4) = wr x3 then some x4 else fX4_childOfMove_b55 (fun a0 a1 a2 a3 a4 hh => fX4_childOfMove_L11 nf a0 a1 a2 a3 a4 hh) x1 x2 x3 x4 x5 h else none else fX4_childOfMove_b55 (fun a0 a1 a2 a3 a4 hh => fX4_childOfMove_L11 nf a0 a1 a2 a3 a4 hh) x1 x2 x3 x4 x5 h else none
def fX4_childOfMove (p1 : Int) (p2 : Int) (p3 : Int) (h : HS) : Option (Int) := (fX4_child p1 0 h).bind fun r3 => fX4_childOfMove_L11 zF p1 p2 p3 r3 0 h
def fX4_grow_b80 (x1 : Int) (x5 : Int) (h : HS) : Option (Int × HS) := if (0 : Int) ≤ x1 ∧ x1 < 200 then if (0 : Int) ≤ x1 ∧ x1 < 200 then some (x5, (hs h 15 x1 ((h 15 x1) + 1))) else none else none
def fX4_grow_b41 (x1 : Int) (x4 : Int) (s0 : Int) (h : HS) : Option (Int × HS) := if wr s0 = ((-1) : Int) then some ((-1), h) else (fX4_has x4 h).bind fun r1 => if wr r1 = 0 then if (0 : Int) ≤ x1 ∧ x1 < 200 then fX4_grow_b80 x1 s0 (hs h 16 x1 s0) else none else if (0 : Int) ≤ x4 ∧ x4 < 200 then fX4_grow_b80 x1 s0 (hs h 17 x4 s0) else none
def fX4_grow (p1 : Int) (p2 : Int) (p3 : Int) (h : HS) : Option (Int × HS) := (fX4_childCount p1 h).bind fun r2 => (fX4_child p1 (r2 - 1) h).bind fun r3 => (fX4_has p1 h).bind fun r4 => if wr r4 = 0 then fX4_grow_b41 p1 r3 (-1) h else if (0 : Int) ≤ p1 ∧ p1 < 200 then (fX4_occupy p1 p2 p3 ((h 14 p1) + 1) h).bind fun r5 => fX4_grow_b41 p1 r3 r5.1 r5.2 else none
def fX4_placeOf_L13 : Nat → Int → Int → Int → HS → Option (Int)
  | 0, _, _, _, _ => none
  | nf + 1, x1, x2, x3, h => (fX4_above x1 h).bind fun r1 => (fX4_childCount r1 h).bind fun r2 => if wr r2 ≤ wr x3 then some (-1) else (fX4_has x2 h).bind fun r3 => if wr r3 = 0 then some (-1) else if wr x2 = wr x1 then some x3 else if (0 : Int) ≤ x2 ∧ x2 < 200 then fX4_placeOf_L13 nf x1 (h 17 x2) (x3 + 1) h else none
def fX4_placeOf (p1 : Int) (h : HS) : Option (Int) := (fX4_above p1 h).bind fun r4 => (fX4_child r4 0 h).bind fun r5 => fX4_placeOf_L13 zF p1 r5 0 h
def fX4_makeMain (p1 : Int) (h : HS) : Option (Int × HS) := (fX4_placeOf p1 h).bind fun r1 => (fX4_above p1 h).bind fun r2 => (fX4_child r2 (r1 - 1) h).bind fun r3 => (fX4_has p1 h).bind fun r4 => if wr r4 = 0 then some (r1, h) else (fX4_has r2 h).bind fun r5 => if wr r5 = 0 then some (r1, h) else (fX4_has r3 h).bind fun r6 => if wr r6 = 0 then some (r1, h) else if (0 : Int) ≤ p1 ∧ p1 < 200 then if (0 : Int) ≤ r3 ∧ r3 < 200 then if (0 : Int) ≤ r2 ∧ r2 < 200 then if (0 : Int) ≤ p1 ∧ p1 < 200 then if (0 : Int) ≤ r2 ∧ r2 < 200 then some (r1, (hs (hs (hs h 17 r3 (h 17 p1)) 17 p1 (((hs h 17 r3 (h 17 p1))) 16 r2)) 16 r2 p1)) else none else none else none else none else none
def fX4_cutToRoot (h : HS) : Option (HS) := (fX4_occupy (-1) (-1) (-1) 0 (hs h 9 8 0)).bind fun r1 => some r1.2
def fX2_misfit (h : HS) : Option (Int) := some (h 18 0)
def fX2_letter (h : HS) : Option (Int) := some (h 18 1)
def fX2_to (h : HS) : Option (Int) := some (((h 18 5) * 8) + (h 18 4))
def fX2_sign (h : HS) : Option (Int) := some (h 18 6)
def fX2_captures (h : HS) : Option (Int) := if (h 18 7) = 0 ∨ (h 18 7) = 1 then some (h 18 7) else none
def fX2_allowsFrom_b19 (x1 : Int) (h : HS) : Option (Int) := if wr (h 18 3) = ((-1) : Int) then some 1 else if (0 : Int) ≤ x1 ∧ x1 < 2147483648 then if wr (h 18 3) = wr (x1 / 8) then some 1 else some 0 else none
def fX2_allowsFrom (p1 : Int) (h : HS) : Option (Int) := if wr (h 18 2) = ((-1) : Int) then fX2_allowsFrom_b19 p1 h else if (0 : Int) ≤ p1 ∧ p1 < 2147483648 then if wr (h 18 2) = wr (p1 % 8) then fX2_allowsFrom_b19 p1 h else some 0 else none
def fX2_forget (h : HS) : Option (HS) := if (0 : Int) = 0 ∨ (0 : Int) = 1 then some (hs (hs (hs (hs (hs (hs (hs (hs h 18 0 (-1)) 18 1 (-1)) 18 2 (-1)) 18 3 (-1)) 18 4 (-1)) 18 5 (-1)) 18 6 (-1)) 18 7 0) else none
def fX2_isFile (p1 : Int) (h : HS) : Option (Int) := if wr p1 < (97 : Int) then some 0 else if (105 : Int) ≤ wr p1 then some 0 else some 1
def fX2_isRank (p1 : Int) (h : HS) : Option (Int) := if wr p1 < (49 : Int) then some 0 else if (57 : Int) ≤ wr p1 then some 0 else some 1
def fX2_isSign (p1 : Int) (h : HS) : Option (Int) := if wr p1 = (43 : Int) then some 1 else if wr p1 = (35 : Int) then some 1 else some 0
def fX2_keep (p1 : Int) (h : HS) : Option (HS) := (fX2_isFile p1 h).bind fun r1 => if wr r1 = 0 then (fX2_isRank p1 h).bind fun r2 => if wr r2 = 0 then (fX2_isSign p1 h).bind fun r3 => if wr r3 = 0 then if wr p1 = (120 : Int) then if (1 : Int) = 0 ∨ (1 : Int) = 1 then some (hs h 18 7 1) else none else some (hs h 18 1 p1) else some (hs h 18 6 p1) else some (hs (hs h 18 3 (h 18 5)) 18 5 (p1 - 49)) else some (hs (hs h 18 2 (h 18 4)) 18 4 (p1 - 97))
def fX2_stateBehindOrigin (p1 : Int) (h : HS) : Option (Int) := (fX2_isFile p1 h).bind fun r1 => if wr r1 = 0 then if wr p1 = (120 : Int) then some 5 else some (-1) else some 6
def fX2_stateBehind (p1 : Int) (p2 : Int) (h : HS) : Option (Int) := if wr p1 = 0 then if wr p2 < (65 : Int) then some (-1) else if (90 : Int) < wr p2 then some (-1) else some 1 else if wr p1 = 1 then (fX2_isFile p2 h).bind fun r1 => if wr r1 = 0 then (fX2_isRank p2 h).bind fun r2 => if wr r2 = 0 then if wr p2 = (120 : Int) then some 5 else some (-1) else some 3 else some 2 else if wr p1 = 2 then (fX2_isRank p2 h).bind fun r3 => if wr r3 = 0 then (fX2_stateBehindOrigin p2 h).bind fun r4 => some r4 else some 4 else if wr p1 = 3 then (fX2_stateBehindOrigin p2 h).bind fun r5 => some r5 else if wr p1 = 4 then (fX2_isSign p2 h).bind fun r6 => if wr r6 = 0 then (fX2_stateBehindOrigin p2 h).bind fun r7 => some r7 else some 8 else if wr p1 = 5 then (fX2_isFile p2 h).bind fun r8 => if wr r8 = 0 then some (-1) else some 6 else if wr p1 = 6 then (fX2_isRank p2 h).bind fun r9 => if wr r9 = 0 then some (-1) else some 7 else if wr p1 = 7 then (fX2_isSign p2 h).bind fun r10 => if wr r10 = 0 then some (-1) else some 8 else some (-1)
def fX2_fits_b101 (h : HS) : Option (Int × HS) := if wr (h 18 0) = ((-1) : Int) then some (1, h) else some (0, h)
def fX2_fits_b68 (x3 : Int) (x4 : Int) (h : HS) : Option (Int × HS) := if wr (h 18 0) = ((-1) : Int) then if wr x4 = (4 : Int) then fX2_fits_b101 h else if wr x4 = (7 : Int) then fX2_fits_b101 h else if wr x4 = (8 : Int) then fX2_fits_b101 h else fX2_fits_b101 (hs h 18 0 x3) else fX2_fits_b101 h
def fX2_fits_b62 (k10 : Int → Int → Int → HS → Option (Int × HS)) (x3 : Int) (x4 : Int) (x5 : Int) (h : HS) : Option (Int × HS) := k10 x3 x4 (x5 + 1) h
def fX2_fits_L10 : Nat → Int → Int → Int → HS → Option (Int × HS)
  | 0, _, _, _, _ => none
  | nf + 1, x3, x4, x5, h => if wr x3 ≤ wr x5 then fX2_fits_b68 x3 x4 h else if wr (h 18 0) = ((-1) : Int) then (fX3_get x5 h).bind fun r1 => (fX2_stateBehind x4 r1 h).bind fun r2 => if wr r2 = ((-1) : Int) then fX2_fits_b62 (fun a0 a1 a2 hh => fX2_fits_L10 nf a0 a1 a2 hh) x3 r2 x5 (hs h 18 0 x5) else (fX3_get x5 h).bind fun r3 => (fX2_keep r3 h).bind fun r4 => fX2_fits_b62 (fun a0 a1 a2 hh => fX2_fits_L10 nf a0 a1 a2 hh) x3 r2 x5 r4 else fX2_fits_b68 x3 x4 h
def fX2_fits (p2 : Int) (p3 : Int) (h : HS) : Option (Int × HS) := (fX2_forget h).bind fun r5 => fX2_fits_L10 zF p3 0 p2 r5
def fX5_isSquare (p1 : Int) (h : HS) : Option (Int) := if wr p1 < 0 then some 0 else if (64 : Int) ≤ wr p1 then some 0 else some 1
def fX0_pieceOn (p1 : Int) (h : HS) : Option (Int) := (fX5_isSquare p1 h).bind fun r1 => if wr r1 = 0 then some (-1) else if (0 : Int) ≤ p1 ∧ p1 < 64 then some (h 8 p1) else none
def fX0_isTaken (p1 : Int) (h : HS) : Option (Int) := (fX0_pieceOn p1 h).bind fun r1 => if wr r1 = ((-1) : Int) then some 0 else some 1
def fX0_isOf (p1 : Int) (p2 : Int) (h : HS) : Option (Int) := (fX0_isTaken p1 h).bind fun r1 => if wr r1 = 0 then some 0 else (fX0_pieceOn p1 h).bind fun r2 => if (0 : Int) ≤ r2 ∧ r2 < 2147483648 then if wr (r2 % 2) = wr p2 then some 1 else some 0 else none
def fX0_replace (p1 : Int) (p2 : Int) (h : HS) : Option (Int × HS) := (fX5_isSquare p1 h).bind fun r1 => if wr r1 = 0 then some ((-1), h) else if (0 : Int) ≤ p1 ∧ p1 < 64 then if (0 : Int) ≤ p1 ∧ p1 < 64 then some ((h 8 p1), (hs h 8 p1 p2)) else none else none
def fX0_move (p1 : Int) (p2 : Int) (h : HS) : Option (Int × HS) := (fX5_isSquare p1 h).bind fun r1 => if wr r1 = 0 then some ((-1), h) else (fX5_isSquare p2 h).bind fun r2 => if wr r2 = 0 then some ((-1), h) else if (0 : Int) ≤ p2 ∧ p2 < 64 then if (0 : Int) ≤ p1 ∧ p1 < 64 then if (0 : Int) ≤ p2 ∧ p2 < 64 then if (0 : Int) ≤ p1 ∧ p1 < 64 then some ((h 8 p2), (hs (hs h 8 p2 (h 8 p1)) 8 p1 (-1))) else none else none else none else none
def fX0_takeBack (p1 : Int) (p2 : Int) (p3 : Int) (h : HS) : Option (HS) := (fX5_isSquare p1 h).bind fun r1 => if wr r1 = 0 then some h else (fX5_isSquare p2 h).bind fun r2 => if wr r2 = 0 then some h else if (0 : Int) ≤ p2 ∧ p2 < 64 then if (0 : Int) ≤ p1 ∧ p1 < 64 then if (0 : Int) ≤ p2 ∧ p2 < 64 then some (hs (hs h 8 p1 (h 8 p2)) 8 p2 p3) else none else none else none
def fX0_reachedFrom_b10 (h : HS) : Option (Int64) := some (Int64.ofNat 0)
def fX0_reachedFrom_b36 (h : HS) : Option (Int64) := some (Int64.ofNat 0)
def fX0_reachedFrom_b256 (k73 : Int → Int → Int → Int64 → Int → HS → Option (Int64)) (x1 : Int) (x3 : Int) (x5 : Int) (x6 : Int64) (x8 : Int) (h : HS) : Option (Int64) := k73 x1 x3 x5 x6 (x8 + 1) h
def fX0_reachedFrom_b237 (k73 : Int → Int → Int → Int64 → Int → HS → Option (Int64)) (k152 : Int → Int → Int → Int64 → Int → Int → Int → Int → Int → Int → HS → Option (Int64)) (x1 : Int) (x3 : Int) (x5 : Int) (x6 : Int64) (x8 : Int) (x9 : Int) (x10 : Int) (x11 : Int) (x12 : Int) (s0 : Int) (h : HS) : Option (Int64) := k152 x1 x3 x5 x6 x8 x9 x10 (x11 + x9) (x12 + x10) s0 h
def fX0_reachedFrom_b223 (k73 : Int → Int → Int → Int64 → Int → HS → Option (Int64)) (k152 : Int → Int → Int → Int64 → Int → Int → Int → Int → Int → Int → HS → Option (Int64)) (x1 : Int) (x3 : Int) (x5 : Int) (x6 : Int64) (x8 : Int) (x9 : Int) (x10 : Int) (x11 : Int) (x12 : Int) (x13 : Int) (x15 : Int) (h : HS) : Option (Int64) := if wr x15 = ((-1) : Int) then fX0_reachedFrom_b237 k73 k152 x1 x3 x5 x6 x8 x9 x10 x11 x12 (x13 - 1) h else fX0_reachedFrom_b237 k73 k152 x1 x3 x5 x6 x8 x9 x10 x11 x12 0 h
def fX0_reachedFrom_b214 (k73 : Int → Int → Int → Int64 → Int → HS → Option (Int64)) (k152 : Int → Int → Int → Int64 → Int → Int → Int → Int → Int → Int → HS → Option (Int64)) (x1 : Int) (x3 : Int) (x5 : Int) (x6 : Int64) (x8 : Int) (x9 : Int) (x10 : Int) (x11 : Int) (x12 : Int) (x13 : Int) (x14 : Int) (x15 : Int) (h : HS) : Option (Int64) := fX0_reachedFrom_b223 k73 k152 x1 x3 x5 (x6 ||| (zshl (Int64.ofNat 1) x14)) x8 x9 x10 x11 x12 x13 x15 h
def fX0_reachedFrom_L152 (k73 : Int → Int → Int → Int64 → Int → HS → Option (Int64)) : Nat → Int → Int → Int → Int64 → Int → Int → Int → Int → Int → Int → HS → Option (Int64)
  | 0, _, _, _, _, _, _, _, _, _, _, _ => none
  | nf + 1, x1, x3, x5, x6, x8, x9, x10, x11, x12, x13, h => if wr x13 ≤ 0 then fX0_reachedFrom_b256 k73 x1 x3 x5 x6 x8 h else if wr x11 < 0 then fX0_reachedFrom_b256 k73 x1 x3 x5 x6 x8 h else if (8 : Int) ≤ wr x11 then fX0_reachedFrom_b256 k73 x1 x3 x5 x6 x8 h else if wr x12 < 0 then fX0_reachedFrom_b256 k73 x1 x3 x5 x6 x8 h else if (8 : Int) ≤ wr x12 then fX0_reachedFrom_b256 k73 x1 x3 x5 x6 x8 h else if (0 : Int) ≤ ((x12 * 8) + x11) ∧ ((x12 * 8) + x11) < 64 then if wr (h 8 ((x12 * 8) + x11)) = ((-1) : Int) then fX0_reachedFrom_b214 k73 (fun a0 a1 a2 a3 a4 a5 a6 a7 a8 a9 hh => fX0_reachedFrom_L152 k73 nf a0 a1 a2 a3 a4 a5 a6 a7 a8 a9 hh) x1 x3 x5 x6 x8 x9 x10 x11 x12 x13 ((x12 * 8) + x11) (h 8 ((x12 * 8) + x11)) h else if (0 : Int) ≤ (h 8 ((x12 * 8) + x11)) ∧ (h 8 ((x12 * 8) + x11)) < 2147483648 then if wr ((h 8 ((x12 * 8) + x11)) % 2) = wr x3 then fX0_reachedFrom_b223 k73 (fun a0 a1 a2 a3 a4 a5 a6 a7 a8 a9 hh => fX0_reachedFrom_L152 k73 nf a0 a1 a2 a3 a4 a5 a6 a7 a8 a9 hh) x1 x3 x5 x6 x8 x9 x10 x11 x12 x13 (h 8 ((x12 * 8) + x11)) h else fX0_reachedFrom_b214 k73 (fun a0 a1 a2 a3 a4 a5 a6 a7 a8 a9 hh => fX0_reachedFrom_L152 k73 nf a0 a1 a2 a3 a4 a5 a6 a7 a8 a9 hh) x1 x3 x5 x6 x8 x9 x10 x11 x12 x13 ((x12 * 8) + x11) (h 8 ((x12 * 8) + x11)) h else none else none
def fX0_reachedFrom_b120 (k73 : Int → Int → Int → Int64 → Int → HS → Option (Int64)) (x1 : Int) (x3 : Int) (x5 : Int) (x6 : Int64) (x8 : Int) (x9 : Int) (s0 : Int) (h : HS) : Option (Int64) := if (0 : Int) ≤ x1 ∧ x1 < 2147483648 then if (0 : Int) ≤ x1 ∧ x1 < 2147483648 then if (0 : Int) ≤ x8 ∧ x8 < 48 then fX0_reachedFrom_L152 k73 zF x1 x3 x5 x6 x8 x9 s0 ((x1 % 8) + x9) ((x1 / 8) + s0) (h 6 x8) h else none else none else none
def fX0_reachedFrom_L73 : Nat → Int → Int → Int → Int64 → Int → HS → Option (Int64)
  | 0, _, _, _, _, _, _ => none
  | nf + 1, x1, x3, x5, x6, x8, h => if wr x5 ≤ wr x8 then some x6 else if (0 : Int) ≤ x8 ∧ x8 < 48 then if wr x3 = 0 then if (0 : Int) ≤ x8 ∧ x8 < 48 then fX0_reachedFrom_b120 (fun a0 a1 a2 a3 a4 hh => fX0_reachedFrom_L73 nf a0 a1 a2 a3 a4 hh) x1 x3 x5 x6 x8 (h 4 x8) (h 5 x8) h else none else if (0 : Int) ≤ x8 ∧ x8 < 48 then fX0_reachedFrom_b120 (fun a0 a1 a2 a3 a4 hh => fX0_reachedFrom_L73 nf a0 a1 a2 a3 a4 hh) x1 x3 x5 x6 x8 (h 4 x8) (-(h 5 x8)) h else none else none
def fX0_reachedFrom (p1 : Int) (h : HS) : Option (Int64) := if wr p1 < 0 then fX0_reachedFrom_b10 h else if wr p1 < (64 : Int) then if (0 : Int) ≤ p1 ∧ p1 < 64 then if wr (h 8 p1) < 0 then fX0_reachedFrom_b36 h else if (0 : Int) ≤ (h 8 p1) ∧ (h 8 p1) < 2147483648 then if wr ((h 8 p1) / 2) < wr (h 1 5) then if (0 : Int) ≤ (h 8 p1) ∧ (h 8 p1) < 2147483648 then if (0 : Int) ≤ (h 8 p1) ∧ (h 8 p1) < 2147483648 then if (0 : Int) ≤ (h 8 p1) ∧ (h 8 p1) < 2147483648 then if (0 : Int) ≤ ((h 8 p1) / 2) ∧ ((h 8 p1) / 2) < 6 then fX0_reachedFrom_L73 zF p1 ((h 8 p1) % 2) ((((h 8 p1) / 2) * 8) + (h 3 ((h 8 p1) / 2))) (Int64.ofNat 0) (((h 8 p1) / 2) * 8) h else none else none else none else none else fX0_reachedFrom_b36 h else none else none else fX0_reachedFrom_b10 h
def fX0_reaches (p1 : Int) (p2 : Int) (h : HS) : Option (Int) := (fX5_isSquare p2 h).bind fun r1 => if wr r1 = 0 then some 0 else (fX0_reachedFrom p1 h).bind fun r2 => if wr (zcmp ((zushr r2 p2) &&& (Int64.ofNat 1)) (Int64.ofNat 0)) = 0 then some 0 else some 1
def fX0_royalsOf_b32 (k5 : Int → Int64 → Int → HS → Option (Int64)) (x1 : Int) (x2 : Int64) (x4 : Int) (h : HS) : Option (Int64) := k5 x1 x2 (x4 + 1) h
def fX0_royalsOf_L5 : Nat → Int → Int64 → Int → HS → Option (Int64)
  | 0, _, _, _, _ => none
  | nf + 1, x1, x2, x4, h => if (64 : Int) ≤ wr x4 then some x2 else if (0 : Int) ≤ x4 ∧ x4 < 64 then if wr (h 8 x4) = wr (0 + x1) then fX0_royalsOf_b32 (fun a0 a1 a2 hh => fX0_royalsOf_L5 nf a0 a1 a2 hh) x1 (x2 ||| (zshl (Int64.ofNat 1) x4)) x4 h else fX0_royalsOf_b32 (fun a0 a1 a2 hh => fX0_royalsOf_L5 nf a0 a1 a2 hh) x1 x2 x4 h else none
def fX0_royalsOf (p1 : Int) (h : HS) : Option (Int64) := fX0_royalsOf_L5 zF p1 (Int64.ofNat 0) 0 h
def fX0_inCheck_b74 (k12 : Int → Int64 → Int → Int → HS → Option (Int)) (x1 : Int) (x2 : Int64) (x4 : Int) (x5 : Int) (h : HS) : Option (Int) := k12 x1 x2 x4 (x5 + 1) h
def fX0_inCheck_b72 (k12 : Int → Int64 → Int → Int → HS → Option (Int)) (x1 : Int) (x2 : Int64) (x5 : Int) (s0 : Int) (h : HS) : Option (Int) := fX0_inCheck_b74 k12 x1 x2 s0 x5 h
def fX0_inCheck_L12 : Nat → Int → Int64 → Int → Int → HS → Option (Int)
  | 0, _, _, _, _, _ => none
  | nf + 1, x1, x2, x4, x5, h => if (64 : Int) ≤ wr x5 then if x4 = 0 ∨ x4 = 1 then some x4 else none else if wr (zcmp x2 (Int64.ofNat 0)) = 0 then if x4 = 0 ∨ x4 = 1 then some x4 else none else if wr x4 = 0 then if (0 : Int) ≤ x5 ∧ x5 < 64 then if wr (h 8 x5) = ((-1) : Int) then fX0_inCheck_b74 (fun a0 a1 a2 a3 hh => fX0_inCheck_L12 nf a0 a1 a2 a3 hh) x1 x2 x4 x5 h else if (0 : Int) ≤ x5 ∧ x5 < 64 then if (0 : Int) ≤ (h 8 x5) ∧ (h 8 x5) < 2147483648 then if wr ((h 8 x5) % 2) = wr x1 then fX0_inCheck_b74 (fun a0 a1 a2 a3 hh => fX0_inCheck_L12 nf a0 a1 a2 a3 hh) x1 x2 x4 x5 h else (fX0_reachedFrom x5 h).bind fun r1 => if wr (zcmp (r1 &&& x2) (Int64.ofNat 0)) = 0 then fX0_inCheck_b72 (fun a0 a1 a2 a3 hh => fX0_inCheck_L12 nf a0 a1 a2 a3 hh) x1 x2 x5 0 h else fX0_inCheck_b72 (fun a0 a1 a2 a3 hh => fX0_inCheck_L12 nf a0 a1 a2 a3 hh) x1 x2 x5 1 h else none else none else none else if x4 = 0 ∨ x4 = 1 then some x4 else none
def fX0_inCheck (p1 : Int) (h : HS) : Option (Int) := (fX0_royalsOf p1 h).bind fun r2 => fX0_inCheck_L12 zF p1 r2 0 0 h
def fX0_keepsRoyalsSafe_b29 (x1 : Int) (x2 : Int) (x4 : Int) (s0 : Int) (h : HS) : Option (Int × HS) := (fX0_takeBack x1 x2 x4 h).bind fun r1 => if s0 = 0 ∨ s0 = 1 then some (s0, r1) else none
def fX0_keepsRoyalsSafe (p1 : Int) (p2 : Int) (h : HS) : Option (Int × HS) := (fX0_pieceOn p1 h).bind fun r2 => if (0 : Int) ≤ r2 ∧ r2 < 2147483648 then (fX0_move p1 p2 h).bind fun r3 => (fX0_inCheck (r2 % 2) r3.2).bind fun r4 => if wr r4 = 0 then fX0_keepsRoyalsSafe_b29 p1 p2 r3.1 1 r3.2 else fX0_keepsRoyalsSafe_b29 p1 p2 r3.1 0 r3.2 else none
def fX0_countLegalMoves_b110 (k5 : Int → Int → Int → Int → HS → Option (Int × HS)) (x1 : Int) (x2 : Int) (x3 : Int) (x4 : Int) (h : HS) : Option (Int × HS) := k5 x1 x2 x3 (x4 + 1) h
def fX0_countLegalMoves_b104 (k5 : Int → Int → Int → Int → HS → Option (Int × HS)) (k56 : Int → Int → Int → Int → Int64 → Int → HS → Option (Int × HS)) (x1 : Int) (x2 : Int) (x3 : Int) (x4 : Int) (x5 : Int64) (x7 : Int) (h : HS) : Option (Int × HS) := k56 x1 x2 x3 x4 x5 (x7 + 1) h
def fX0_countLegalMoves_L56 (k5 : Int → Int → Int → Int → HS → Option (Int × HS)) : Nat → Int → Int → Int → Int → Int64 → Int → HS → Option (Int × HS)
  | 0, _, _, _, _, _, _, _ => none
  | nf + 1, x1, x2, x3, x4, x5, x7, h => if (64 : Int) ≤ wr x7 then fX0_countLegalMoves_b110 k5 x1 x2 x3 x4 h else if wr (zcmp (zushr x5 x7) (Int64.ofNat 0)) = 0 then fX0_countLegalMoves_b110 k5 x1 x2 x3 x4 h else if wr x2 ≤ wr x3 then fX0_countLegalMoves_b110 k5 x1 x2 x3 x4 h else if wr (zcmp ((zushr x5 x7) &&& (Int64.ofNat 1)) (Int64.ofNat 0)) = 0 then fX0_countLegalMoves_b104 k5 (fun a0 a1 a2 a3 a4 a5 hh => fX0_countLegalMoves_L56 k5 nf a0 a1 a2 a3 a4 a5 hh) x1 x2 x3 x4 x5 x7 h else (fX0_keepsRoyalsSafe x4 x7 h).bind fun r1 => if wr r1.1 = 0 then fX0_countLegalMoves_b104 k5 (fun a0 a1 a2 a3 a4 a5 hh => fX0_countLegalMoves_L56 k5 nf a0 a1 a2 a3 a4 a5 hh) x1 x2 x3 x4 x5 x7 r1.2 else fX0_countLegalMoves_b104 k5 (fun a0 a1 a2 a3 a4 a5 hh => fX0_countLegalMoves_L56 k5 nf a0 a1 a2 a3 a4 a5 hh) x1 x2 (x3 + 1) x4 x5 x7 r1.2
def fX0_countLegalMoves_b51 (k5 : Int → Int → Int → Int → HS → Option (Int × HS)) (x1 : Int) (x2 : Int) (x3 : Int) (x4 : Int) (s0 : Int64) (h : HS) : Option (Int × HS) := fX0_countLegalMoves_L56 k5 zF x1 x2 x3 x4 s0 0 h
def fX0_countLegalMoves_b50 (k5 : Int → Int → Int → Int → HS → Option (Int × HS)) (x1 : Int) (x2 : Int) (x3 : Int) (x4 : Int) (h : HS) : Option (Int × HS) := fX0_countLegalMoves_b51 k5 x1 x2 x3 x4 (Int64.ofNat 0) h
def fX0_countLegalMoves_L5 : Nat → Int → Int → Int → Int → HS → Option (Int × HS)
  | 0, _, _, _, _, _ => none
  | nf + 1, x1, x2, x3, x4, h => if (64 : Int) ≤ wr x4 then some (x3, h) else if wr x2 ≤ wr x3 then some (x3, h) else if (0 : Int) ≤ x4 ∧ x4 < 64 then if wr (h 8 x4) = ((-1) : Int) then fX0_countLegalMoves_b50 (fun a0 a1 a2 a3 hh => fX0_countLegalMoves_L5 nf a0 a1 a2 a3 hh) x1 x2 x3 x4 h else if (0 : Int) ≤ x4 ∧ x4 < 64 then if (0 : Int) ≤ (h 8 x4) ∧ (h 8 x4) < 2147483648 then if wr ((h 8 x4) % 2) = wr x1 then (fX0_reachedFrom x4 h).bind fun r2 => fX0_countLegalMoves_b51 (fun a0 a1 a2 a3 hh => fX0_countLegalMoves_L5 nf a0 a1 a2 a3 hh) x1 x2 x3 x4 r2 h else fX0_countLegalMoves_b50 (fun a0 a1 a2 a3 hh => fX0_countLegalMoves_L5 nf a0 a1 a2 a3 hh) x1 x2 x3 x4 h else none else none else none
def fX0_countLegalMoves (p1 : Int) (p2 : Int) (h : HS) : Option (Int × HS) := fX0_countLegalMoves_L5 zF p1 p2 0 0 h
def fX0_signBehind_b47 (x1 : Int) (x2 : Int) (x4 : Int) (x5 : Int) (h : HS) : Option (Int × HS) := (fX0_takeBack x1 x2 x4 h).bind fun r1 => some (x5, r1)
def fX0_signBehind_b45 (x1 : Int) (x2 : Int) (x4 : Int) (s0 : Int) (h : HS) : Option (Int × HS) := fX0_signBehind_b47 x1 x2 x4 s0 h
def fX0_signBehind (p1 : Int) (p2 : Int) (h : HS) : Option (Int × HS) := (fX0_pieceOn p1 h).bind fun r2 => if (0 : Int) ≤ r2 ∧ r2 < 2147483648 then (fX0_move p1 p2 h).bind fun r3 => (fX0_inCheck (1 - (r2 % 2)) r3.2).bind fun r4 => if wr r4 = 0 then fX0_signBehind_b47 p1 p2 r3.1 (-1) r3.2 else (fX0_countLegalMoves (1 - (r2 % 2)) 1 r3.2).bind fun r5 => if wr r5.1 ≤ 0 then fX0_signBehind_b45 p1 p2 r3.1 35 r5.2 else fX0_signBehind_b45 p1 p2 r3.1 43 r5.2 else none
def fX5_isStep (p1 : Int) (p2 : Int) (h : HS) : Option (Int) := if wr p1 < ((-3) : Int) then some 0 else if (3 : Int) < wr p1 then some 0 else if wr p2 < ((-3) : Int) then some 0 else if (3 : Int) < wr p2 then some 0 else if wr p1 = 0 then if wr p2 = 0 then some 0 else some 1 else some 1
def fX5_isByteOrNothing (p1 : Int) (h : HS) : Option (Int) := if wr p1 < ((-1) : Int) then some 0 else if (255 : Int) < wr p1 then some 0 else some 1
def fX5_countByte (p1 : Int) (h : HS) : Option (Int) := if wr p1 = ((-1) : Int) then some 0 else some 1
def fX5_appendUnlessNothing (p1 : Int) (h : HS) : Option (HS) := if wr p1 = ((-1) : Int) then some h else (fX3_append p1 h).bind fun r1 => some r1
def fX5_turn (h : HS) : Option (Int) := (fX4_depth (h 0 8) h).bind fun r1 => if (0 : Int) ≤ r1 ∧ r1 < 2147483648 then some (r1 % 2) else none
def fX5_reasonAgainst (p1 : Int) (p2 : Int) (h : HS) : Option (Int × HS) := (fX5_turn h).bind fun r1 => (fX0_isOf p1 r1 h).bind fun r2 => if wr r2 = 0 then some (1, h) else (fX0_reaches p1 p2 h).bind fun r3 => if wr r3 = 0 then some (2, h) else (fX0_keepsRoyalsSafe p1 p2 h).bind fun r4 => if wr r4.1 = 0 then some (3, r4.2) else some (0, r4.2)
def fX5_stepDown (p1 : Int) (h : HS) : Option (HS) := (fX4_from p1 h).bind fun r1 => (fX4_to p1 h).bind fun r2 => (fX0_move r1 r2 h).bind fun r3 => (fX4_keepTaken p1 r3.1 r3.2).bind fun r4 => some (hs r4 0 8 p1)
def fX5_stepUp (h : HS) : Option (HS) := if wr (h 0 8) = 0 then some h else (fX4_from (h 0 8) h).bind fun r1 => (fX4_to (h 0 8) h).bind fun r2 => (fX4_taken (h 0 8) h).bind fun r3 => (fX0_takeBack r1 r2 r3 h).bind fun r4 => (fX4_above (r4 0 8) r4).bind fun r5 => some (hs r4 0 8 r5)
def fX5_visit_L92 : Nat → Int → HS → Option (HS)
  | 0, _, _ => none
  | nf + 1, x4, h => if wr x4 < 0 then some h else if (0 : Int) ≤ x4 ∧ x4 < 200 then (fX5_stepDown (h 23 x4) h).bind fun r1 => fX5_visit_L92 nf (x4 + (-1)) r1 else none
def fX5_visit_b79 (x2 : Int) (h : HS) : Option (HS) := fX5_visit_L92 zF ((zmin x2 200) - 1) h
def fX5_visit_L40 : Nat → Int → Int → Int → HS → Option (HS)
  | 0, _, _, _, _ => none
  | nf + 1, x2, x3, x4, h => if wr x2 ≤ wr x4 then fX5_visit_b79 x2 h else if (200 : Int) ≤ wr x4 then fX5_visit_b79 x2 h else if (0 : Int) ≤ x4 ∧ x4 < 200 then (fX4_above x3 (hs h 23 x4 x3)).bind fun r2 => fX5_visit_L40 nf x2 r2 (x4 + 1) (hs h 23 x4 x3) else none
def fX5_visit_L12 : Nat → Int → Int → HS → Option (HS)
  | 0, _, _, _ => none
  | nf + 1, x1, x2, h => if wr x2 ≤ 0 then (fX4_depth x1 h).bind fun r3 => fX5_visit_L40 zF r3 x1 0 h else (fX5_stepUp h).bind fun r4 => fX5_visit_L12 nf x1 (x2 + (-1)) r4
def fX5_visit (p1 : Int) (h : HS) : Option (HS) := (fX4_depth (h 0 8) h).bind fun r5 => fX5_visit_L12 zF p1 r5 h
def fX5_beginAnew (h : HS) : Option (HS) := (fX5_visit 0 h).bind fun r1 => (fX4_cutToRoot r1).bind fun r2 => some r2
def fX5_follow_b48 (x3 : Int) (h : HS) : Option (Int × HS) := (fX5_stepDown x3 h).bind fun r1 => some (1, r1)
def fX5_follow (p1 : Int) (p2 : Int) (h : HS) : Option (Int × HS) := (fX4_childOfMove (h 0 8) p1 p2 h).bind fun r2 => if wr r2 = ((-1) : Int) then (fX4_size h).bind fun r3 => if wr r3 < (200 : Int) then (fX4_grow (h 0 8) p1 p2 h).bind fun r4 => fX5_follow_b48 r4.1 r4.2 else some (0, h) else fX5_follow_b48 r2 h
def fX5_judge_b142 (k71 : Int → Int → Int → Int → Int → Int → HS → Option (Int × HS)) (x4 : Int) (x5 : Int) (x6 : Int) (x7 : Int) (x8 : Int) (x9 : Int) (h : HS) : Option (Int × HS) := k71 x4 x5 x6 x7 x8 (x9 + 1) h
def fX5_judge_L71 : Nat → Int → Int → Int → Int → Int → Int → HS → Option (Int × HS)
  | 0, _, _, _, _, _, _, _ => none
  | nf + 1, x4, x5, x6, x7, x8, x9, h => if (64 : Int) ≤ wr x9 then if wr x7 = (1 : Int) then (fX2_captures h).bind fun r1 => (fX0_isTaken x5 h).bind fun r2 => if wr r1 = wr r2 then (fX2_sign h).bind fun r3 => (fX0_signBehind x8 x5 h).bind fun r4 => if wr r3 = wr r4.1 then some (0, (hs (hs r4.2 0 11 x8) 0 12 x5)) else some (7, r4.2) else some (6, h) else if wr x6 = 0 then some (3, h) else if wr x7 = 0 then some (4, h) else some (5, h) else (fX0_pieceOn x9 h).bind fun r5 => if wr r5 = wr x4 then (fX2_allowsFrom x9 h).bind fun r6 => if wr r6 = 0 then fX5_judge_b142 (fun a0 a1 a2 a3 a4 a5 hh => fX5_judge_L71 nf a0 a1 a2 a3 a4 a5 hh) x4 x5 x6 x7 x8 x9 h else (fX0_reaches x9 x5 h).bind fun r7 => if wr r7 = 0 then fX5_judge_b142 (fun a0 a1 a2 a3 a4 a5 hh => fX5_judge_L71 nf a0 a1 a2 a3 a4 a5 hh) x4 x5 x6 x7 x8 x9 h else (fX0_keepsRoyalsSafe x9 x5 h).bind fun r8 => if wr r8.1 = 0 then fX5_judge_b142 (fun a0 a1 a2 a3 a4 a5 hh => fX5_judge_L71 nf a0 a1 a2 a3 a4 a5 hh) x4 x5 (x6 + 1) x7 x8 x9 r8.2 else fX5_judge_b142 (fun a0 a1 a2 a3 a4 a5 hh => fX5_judge_L71 nf a0 a1 a2 a3 a4 a5 hh) x4 x5 (x6 + 1) (x7 + 1) x9 x9 r8.2 else fX5_judge_b142 (fun a0 a1 a2 a3 a4 a5 hh => fX5_judge_L71 nf a0 a1 a2 a3 a4 a5 hh) x4 x5 x6 x7 x8 x9 h
def fX5_judge (p1 : Int) (p2 : Int) (h : HS) : Option (Int × HS) := (fX2_fits p1 p2 h).bind fun r9 => if wr r9.1 = 0 then some (1, r9.2) else (fX2_letter r9.2).bind fun r10 => (fX1_withLetter r10 r9.2).bind fun r11 => if wr r11 = ((-1) : Int) then some (2, r9.2) else (fX5_turn r9.2).bind fun r12 => (fX2_to r9.2).bind fun r13 => fX5_judge_L71 zF ((2 * r11) + r12) r13 0 0 (-1) 0 r9.2
def fX5_openVariation (h : HS) : Option (Int × HS) := if wr (h 0 10) = 0 then if wr (h 0 8) = 0 then some (8, h) else if wr (h 0 9) < (2000 : Int) then if (0 : Int) ≤ (h 0 9) ∧ (h 0 9) < 2000 then (fX5_stepUp (hs (hs h 24 (h 0 9) (h 0 8)) 0 9 ((((hs h 24 (h 0 9) (h 0 8))) 0 9) + 1))).bind fun r1 => if (1 : Int) = 0 ∨ (1 : Int) = 1 then some (0, (hs r1 0 10 1)) else none else none else some (8, h) else some (8, h)
def fX5_closeVariation (h : HS) : Option (Int × HS) := if wr (h 0 10) = 0 then if wr (h 0 9) ≤ 0 then some (8, h) else if wr (h 0 9) ≤ (2000 : Int) then if (0 : Int) ≤ (((hs h 0 9 ((h 0 9) - 1))) 0 9) ∧ (((hs h 0 9 ((h 0 9) - 1))) 0 9) < 2000 then (fX5_visit (((hs h 0 9 ((h 0 9) - 1))) 24 (((hs h 0 9 ((h 0 9) - 1))) 0 9)) (hs h 0 9 ((h 0 9) - 1))).bind fun r1 => some (0, r1) else none else some (8, h) else some (8, h)
def fX5_writeOrigin_b145 (x3 : Int) (x6 : Int) (h : HS) : Option (HS) := if wr x6 = 0 then some h else if (0 : Int) ≤ x3 ∧ x3 < 2147483648 then (fX3_append (49 + (x3 / 8)) h).bind fun r1 => some r1 else none
def fX5_writeOrigin_b134 (x3 : Int) (x6 : Int) (h : HS) : Option (HS) := if (0 : Int) ≤ x3 ∧ x3 < 2147483648 then (fX3_append (97 + (x3 % 8)) h).bind fun r2 => fX5_writeOrigin_b145 x3 x6 r2 else none
def fX5_writeOrigin_b113 (k12 : Int → Int → Int → Int → Int → Int → Int → HS → Option (HS)) (x2 : Int) (x3 : Int) (x4 : Int) (x5 : Int) (x6 : Int) (x7 : Int) (x8 : Int) (h : HS) : Option (HS) := k12 x2 x3 x4 x5 x6 x7 (x8 + 1) h
def fX5_writeOrigin_b110 (k12 : Int → Int → Int → Int → Int → Int → Int → HS → Option (HS)) (x2 : Int) (x3 : Int) (x4 : Int) (x5 : Int) (x6 : Int) (x8 : Int) (s0 : Int) (s1 : Int) (h : HS) : Option (HS) := fX5_writeOrigin_b113 k12 x2 x3 x4 x5 x6 (zor s0 s1) x8 h
def fX5_writeOrigin_b88 (k12 : Int → Int → Int → Int → Int → Int → Int → HS → Option (HS)) (x2 : Int) (x3 : Int) (x4 : Int) (x5 : Int) (x7 : Int) (x8 : Int) (s0 : Int) (s1 : Int) (h : HS) : Option (HS) := if (0 : Int) ≤ x8 ∧ x8 < 2147483648 then if (0 : Int) ≤ x3 ∧ x3 < 2147483648 then if wr (x8 / 8) = wr (x3 / 8) then fX5_writeOrigin_b110 k12 x2 x3 x4 x5 (zor s0 s1) x8 x7 1 h else fX5_writeOrigin_b110 k12 x2 x3 x4 x5 (zor s0 s1) x8 x7 0 h else none else none
def fX5_writeOrigin_L12 : Nat → Int → Int → Int → Int → Int → Int → Int → HS → Option (HS)
  | 0, _, _, _, _, _, _, _, _ => none
  | nf + 1, x2, x3, x4, x5, x6, x7, x8, h => if (64 : Int) ≤ wr x8 then if wr x5 = 0 then fX5_writeOrigin_b145 x3 x6 h else if wr x6 = 0 then fX5_writeOrigin_b134 x3 x6 h else if wr x7 = 0 then fX5_writeOrigin_b145 x3 x6 h else fX5_writeOrigin_b134 x3 x6 h else if wr x8 = wr x3 then fX5_writeOrigin_b113 (fun a0 a1 a2 a3 a4 a5 a6 hh => fX5_writeOrigin_L12 nf a0 a1 a2 a3 a4 a5 a6 hh) x2 x3 x4 x5 x6 x7 x8 h else (fX0_pieceOn x8 h).bind fun r3 => if wr r3 = wr x2 then (fX0_reaches x8 x4 h).bind fun r4 => if wr r4 = 0 then fX5_writeOrigin_b113 (fun a0 a1 a2 a3 a4 a5 a6 hh => fX5_writeOrigin_L12 nf a0 a1 a2 a3 a4 a5 a6 hh) x2 x3 x4 x5 x6 x7 x8 h else (fX0_keepsRoyalsSafe x8 x4 h).bind fun r5 => if wr r5.1 = 0 then fX5_writeOrigin_b113 (fun a0 a1 a2 a3 a4 a5 a6 hh => fX5_writeOrigin_L12 nf a0 a1 a2 a3 a4 a5 a6 hh) x2 x3 x4 x5 x6 x7 x8 r5.2 else if (0 : Int) ≤ x8 ∧ x8 < 2147483648 then if (0 : Int) ≤ x3 ∧ x3 < 2147483648 then if wr (x8 % 8) = wr (x3 % 8) then fX5_writeOrigin_b88 (fun a0 a1 a2 a3 a4 a5 a6 hh => fX5_writeOrigin_L12 nf a0 a1 a2 a3 a4 a5 a6 hh) x2 x3 x4 1 x7 x8 x6 1 r5.2 else fX5_writeOrigin_b88 (fun a0 a1 a2 a3 a4 a5 a6 hh => fX5_writeOrigin_L12 nf a0 a1 a2 a3 a4 a5 a6 hh) x2 x3 x4 1 x7 x8 x6 0 r5.2 else none else none else fX5_writeOrigin_b113 (fun a0 a1 a2 a3 a4 a5 a6 hh => fX5_writeOrigin_L12 nf a0 a1 a2 a3 a4 a5 a6 hh) x2 x3 x4 x5 x6 x7 x8 h
def fX5_writeOrigin (p2 : Int) (p3 : Int) (p4 : Int) (h : HS) : Option (HS) := fX5_writeOrigin_L12 zF p2 p3 p4 0 0 0 0 h
def fX5_writeMove_b51 (x2 : Int) (x3 : Int) (h : HS) : Option (HS) := if (0 : Int) ≤ x3 ∧ x3 < 2147483648 then (fX3_append (97 + (x3 % 8)) h).bind fun r1 => if (0 : Int) ≤ x3 ∧ x3 < 2147483648 then (fX3_append (49 + (x3 / 8)) r1).bind fun r2 => (fX0_signBehind x2 x3 r2).bind fun r3 => if wr r3.1 = ((-1) : Int) then some r3.2 else (fX3_append r3.1 r3.2).bind fun r4 => some r4 else none else none
def fX5_writeMove (p2 : Int) (p3 : Int) (h : HS) : Option (HS) := (fX0_pieceOn p2 h).bind fun r5 => if (0 : Int) ≤ r5 ∧ r5 < 2147483648 then (fX1_letter (r5 / 2) h).bind fun r6 => (fX3_append r6 h).bind fun r7 => (fX5_writeOrigin r5 p2 p3 r7).bind fun r8 => (fX0_isTaken p3 r8).bind fun r9 => if wr r9 = 0 then fX5_writeMove_b51 p2 p3 r8 else (fX3_append 120 r8).bind fun r10 => fX5_writeMove_b51 p2 p3 r10 else none
def fX5_writeOrigin_d_b145 (x3 : Int) (x6 : Int) (h : HS) : Option (HS) := if wr x6 = 0 then some h else if (0 : Int) ≤ x3 ∧ x3 < 2147483648 then (fX3_append_d (49 + (x3 / 8)) h).bind fun r1 => some r1 else none
def fX5_writeOrigin_d_b134 (x3 : Int) (x6 : Int) (h : HS) : Option (HS) := if (0 : Int) ≤ x3 ∧ x3 < 2147483648 then (fX3_append_d (97 + (x3 % 8)) h).bind fun r2 => fX5_writeOrigin_d_b145 x3 x6 r2 else none
def fX5_writeOrigin_d_b113 (k12 : Int → Int → Int → Int → Int → Int → Int → HS → Option (HS)) (x2 : Int) (x3 : Int) (x4 : Int) (x5 : Int) (x6 : Int) (x7 : Int) (x8 : Int) (h : HS) : Option (HS) := k12 x2 x3 x4 x5 x6 x7 (x8 + 1) h
def fX5_writeOrigin_d_b110 (k12 : Int → Int → Int → Int → Int → Int → Int → HS → Option (HS)) (x2 : Int) (x3 : Int) (x4 : Int) (x5 : Int) (x6 : Int) (x8 : Int) (s0 : Int) (s1 : Int) (h : HS) : Option (HS) := fX5_writeOrigin_d_b113 k12 x2 x3 x4 x5 x6 (zor s0 s1) x8 h
def fX5_writeOrigin_d_b88 (k12 : Int → Int → Int → Int → Int → Int → Int → HS → Option (HS)) (x2 : Int) (x3 : Int) (x4 : Int) (x5 : Int) (x7 : Int) (x8 : Int) (s0 : Int) (s1 : Int) (h : HS) : Option (HS) := if (0 : Int) ≤ x8 ∧ x8 < 2147483648 then if (0 : Int) ≤ x3 ∧ x3 < 2147483648 then if wr (x8 / 8) = wr (x3 / 8) then fX5_writeOrigin_d_b110 k12 x2 x3 x4 x5 (zor s0 s1) x8 x7 1 h else fX5_writeOrigin_d_b110 k12 x2 x3 x4 x5 (zor s0 s1) x8 x7 0 h else none else none
def fX5_writeOrigin_d_L12 : Nat → Int → Int → Int → Int → Int → Int → Int → HS → Option (HS)
  | 0, _, _, _, _, _, _, _, _ => none
  | nf + 1, x2, x3, x4, x5, x6, x7, x8, h => if (64 : Int) ≤ wr x8 then if wr x5 = 0 then fX5_writeOrigin_d_b145 x3 x6 h else if wr x6 = 0 then fX5_writeOrigin_d_b134 x3 x6 h else if wr x7 = 0 then fX5_writeOrigin_d_b145 x3 x6 h else fX5_writeOrigin_d_b134 x3 x6 h else if wr x8 = wr x3 then fX5_writeOrigin_d_b113 (fun a0 a1 a2 a3 a4 a5 a6 hh => fX5_writeOrigin_d_L12 nf a0 a1 a2 a3 a4 a5 a6 hh) x2 x3 x4 x5 x6 x7 x8 h else (fX0_pieceOn x8 h).bind fun r3 => if wr r3 = wr x2 then (fX0_reaches x8 x4 h).bind fun r4 => if wr r4 = 0 then fX5_writeOrigin_d_b113 (fun a0 a1 a2 a3 a4 a5 a6 hh => fX5_writeOrigin_d_L12 nf a0 a1 a2 a3 a4 a5 a6 hh) x2 x3 x4 x5 x6 x7 x8 h else (fX0_keepsRoyalsSafe x8 x4 h).bind fun r5 => if wr r5.1 = 0 then fX5_writeOrigin_d_b113 (fun a0 a1 a2 a3 a4 a5 a6 hh => fX5_writeOrigin_d_L12 nf a0 a1 a2 a3 a4 a5 a6 hh) x2 x3 x4 x5 x6 x7 x8 r5.2 else if (0 : Int) ≤ x8 ∧ x8 < 2147483648 then if (0 : Int) ≤ x3 ∧ x3 < 2147483648 then if wr (x8 % 8) = wr (x3 % 8) then fX5_writeOrigin_d_b88 (fun a0 a1 a2 a3 a4 a5 a6 hh => fX5_writeOrigin_d_L12 nf a0 a1 a2 a3 a4 a5 a6 hh) x2 x3 x4 1 x7 x8 x6 1 r5.2 else fX5_writeOrigin_d_b88 (fun a0 a1 a2 a3 a4 a5 a6 hh => fX5_writeOrigin_d_L12 nf a0 a1 a2 a3 a4 a5 a6 hh) x2 x3 x4 1 x7 x8 x6 0 r5.2 else none else none else fX5_writeOrigin_d_b113 (fun a0 a1 a2 a3 a4 a5 a6 hh => fX5_writeOrigin_d_L12 nf a0 a1 a2 a3 a4 a5 a6 hh) x2 x3 x4 x5 x6 x7 x8 h
def fX5_writeOrigin_d (p2 : Int) (p3 : Int) (p4 : Int) (h : HS) : Option (HS) := fX5_writeOrigin_d_L12 zF p2 p3 p4 0 0 0 0 h
def fX5_writeMove_d_b51 (x2 : Int) (x3 : Int) (h : HS) : Option (HS) := if (0 : Int) ≤ x3 ∧ x3 < 2147483648 then (fX3_append_d (97 + (x3 % 8)) h).bind fun r1 => if (0 : Int) ≤ x3 ∧ x3 < 2147483648 then (fX3_append_d (49 + (x3 / 8)) r1).bind fun r2 => (fX0_signBehind x2 x3 r2).bind fun r3 => if wr r3.1 = ((-1) : Int) then some r3.2 else (fX3_append_d r3.1 r3.2).bind fun r4 => some r4 else none else none
def fX5_writeMove_d (p2 : Int) (p3 : Int) (h : HS) : Option (HS) := (fX0_pieceOn p2 h).bind fun r5 => if (0 : Int) ≤ r5 ∧ r5 < 2147483648 then (fX1_letter (r5 / 2) h).bind fun r6 => (fX3_append_d r6 h).bind fun r7 => (fX5_writeOrigin_d r5 p2 p3 r7).bind fun r8 => (fX0_isTaken p3 r8).bind fun r9 => if wr r9 = 0 then fX5_writeMove_d_b51 p2 p3 r8 else (fX3_append_d 120 r8).bind fun r10 => fX5_writeMove_d_b51 p2 p3 r10 else none
def fX5_writeOpening (p1 : Int) (h : HS) : Option (HS) := if wr p1 ≤ 0 then some h else (fX3_separate_d h).bind fun r1 => (fX3_append_d 40 r1).bind fun r2 => some r2
def fX5_leaveLine_L12 : Nat → Int → HS → Option (Int × HS)
  | 0, _, _ => none
  | nf + 1, x1, h => if wr x1 ≤ 0 then some ((-1), h) else (fX4_placeOf (h 0 8) h).bind fun r1 => (fX5_stepUp h).bind fun r2 => if wr r1 ≤ 0 then fX5_leaveLine_L12 nf (x1 + (-1)) r2 else (fX3_append_d 41 r2).bind fun r3 => some ((r1 + 1), r3)
def fX5_leaveLine (h : HS) : Option (Int × HS) := (fX4_depth (h 0 8) h).bind fun r4 => fX5_leaveLine_L12 zF r4 h
def fX5_goOn_b32 (s0 : Int) (h : HS) : Option (Int × HS) := if wr s0 = ((-1) : Int) then (fX5_leaveLine h).bind fun r2 => some (r2.1, r2.2) else (fX5_stepDown s0 h).bind fun r1 => some (0, r1)
def fX5_goOn_b11 (x2 : Int) (h : HS) : Option (Int × HS) := if wr x2 = ((-1) : Int) then (fX4_child (h 0 8) 0 h).bind fun r3 => fX5_goOn_b32 r3 h else fX5_goOn_b32 x2 h
def fX5_goOn (p1 : Int) (p2 : Int) (h : HS) : Option (Int × HS) := if wr p1 = 0 then if wr p2 = ((-1) : Int) then fX5_goOn_b11 p2 h else some (1, h) else fX5_goOn_b11 p2 h
def fX5_digestNode_L41 : Nat → Int → Int64 → Int → HS → Option (Int64)
  | 0, _, _, _, _ => none
  | nf + 1, x3, x4, x6, h => (fX4_childCount x3 h).bind fun r1 => if wr r1 ≤ wr x6 then some x4 else (fX4_child x3 x6 h).bind fun r2 => fX5_digestNode_L41 nf x3 ((x4 * (31 : Int64)) + (iI r2).toInt64) (x6 + 1) h
def fX5_digestNode_L6 : Nat → Int → Int64 → Int → HS → Option (Int64)
  | 0, _, _, _, _ => none
  | nf + 1, x3, x4, x6, h => if (5 : Int) ≤ wr x6 then fX5_digestNode_L41 zF x3 x4 0 h else (fX4_fact x3 x6 h).bind fun r3 => fX5_digestNode_L6 nf x3 ((x4 * (31 : Int64)) + (iI r3).toInt64) (x6 + 1) h
def fX5_digestNode (p1 : Int64) (p2 : Int) (h : HS) : Option (Int64) := fX5_digestNode_L6 zF p2 p1 0 h
def fX5_empty (h : HS) : Option (Int × HS) := (fX3_size h).bind fun r1 => (fX3_wipe h).bind fun r2 => some (r1, r2)
def fX5_read_b58 (x1 : Int) (s1 : Int) (h : HS) : Option (Int × HS) := some (x1, (hs h 0 13 s1))
def fX5_read (h : HS) : Option (Int × HS) := (fX3_size h).bind fun r1 => (fX5_judge 0 r1 h).bind fun r2 => if wr r2.1 = 0 then some (r2.1, (hs (hs (hs r2.2 0 13 (-1)) 0 14 (((hs r2.2 0 13 (-1))) 0 11)) 0 15 (((hs (hs r2.2 0 13 (-1)) 0 14 (((hs r2.2 0 13 (-1))) 0 11))) 0 12))) else if wr r2.1 = (1 : Int) then (fX2_misfit r2.2).bind fun r3 => fX5_read_b58 r2.1 r3 r2.2 else fX5_read_b58 r2.1 0 r2.2
def fX5_clear (h : HS) : Option (Int × HS) := (fX4_size h).bind fun r1 => (fX5_beginAnew h).bind fun r2 => some (r1, r2)
def fX5_readGame_b151 (x1 : Int) (h : HS) : Option (Int × HS) := if wr x1 = 0 then if wr (h 0 9) ≤ 0 then some (x1, h) else (fX3_size h).bind fun r1 => some (8, (hs h 0 13 r1)) else some (x1, h)
def fX5_readGame_b142 (k23 : Int → Int → HS → Option (Int × HS)) (x1 : Int) (x2 : Int) (s1 : Int) (h : HS) : Option (Int × HS) := k23 x1 (x2 + 1) (hs h 0 13 s1)
def fX5_readGame_b132 (k23 : Int → Int → HS → Option (Int × HS)) (x1 : Int) (x2 : Int) (h : HS) : Option (Int × HS) := if wr x1 = 0 then fX5_readGame_b142 k23 x1 x2 (-1) h else fX5_readGame_b142 k23 x1 x2 x2 h
def fX5_readGame_b127 (k23 : Int → Int → HS → Option (Int × HS)) (x1 : Int) (x2 : Int) (h : HS) : Option (Int × HS) := if (0 : Int) = 0 ∨ (0 : Int) = 1 then fX5_readGame_b132 k23 x1 x2 (hs h 0 10 0) else none
def fX5_readGame_L23 : Nat → Int → Int → HS → Option (Int × HS)
  | 0, _, _, _ => none
  | nf + 1, x1, x2, h => (fX3_size h).bind fun r2 => if wr r2 ≤ wr x2 then fX5_readGame_b151 x1 h else if wr x1 = 0 then (fX3_get x2 h).bind fun r3 => if wr r3 = (40 : Int) then (fX5_openVariation h).bind fun r10 => fX5_readGame_b132 (fun a0 a1 hh => fX5_readGame_L23 nf a0 a1 hh) r10.1 x2 r10.2 else (fX3_get x2 h).bind fun r4 => if wr r4 = (41 : Int) then (fX5_closeVariation h).bind fun r9 => fX5_readGame_b132 (fun a0 a1 hh => fX5_readGame_L23 nf a0 a1 hh) r9.1 x2 r9.2 else (fX3_isWordStart x2 h).bind fun r5 => if wr r5 = 0 then fX5_readGame_b132 (fun a0 a1 hh => fX5_readGame_L23 nf a0 a1 hh) x1 x2 h else (fX3_wordEnd x2 h).bind fun r6 => (fX5_judge x2 r6 h).bind fun r7 => if wr r7.1 = 0 then (fX5_follow (r7.2 0 11) (r7.2 0 12) r7.2).bind fun r8 => if wr r8.1 = 0 then fX5_readGame_b127 (fun a0 a1 hh => fX5_readGame_L23 nf a0 a1 hh) 9 x2 r8.2 else fX5_readGame_b127 (fun a0 a1 hh => fX5_readGame_L23 nf a0 a1 hh) r7.1 x2 r8.2 else fX5_readGame_b127 (fun a0 a1 hh => fX5_readGame_L23 nf a0 a1 hh) r7.1 x2 r7.2 else fX5_readGame_b151 x1 h
def fX5_readGame (h : HS) : Option (Int × HS) := (fX5_beginAnew h).bind fun r11 => if (0 : Int) = 0 ∨ (0 : Int) = 1 then fX5_readGame_L23 zF 0 0 (hs (hs (hs r11 0 9 0) 0 10 0) 0 13 (-1)) else none
def fX6_isIn (p1 : Int) (p2 : Int) (p3 : Int) (h : HS) : Option (Int) := if wr p1 < wr p2 then some 0 else if wr p3 < wr p1 then some 0 else some 1
def fX6_isSquare (p1 : Int) (h : HS) : Option (Int) := (fX6_isIn p1 0 63 h).bind fun r1 => if r1 = 0 ∨ r1 = 1 then some r1 else none
def fX6_thrown (h : HS) : Option (Int) := some (h 30 0)
def fX6_fail (p1 : Int) (h : HS) : Option (Int × HS) := some (0, (hs h 30 0 p1))
def fX6_isNode (p1 : Int) (h : HS) : Option (Int) := (fX6_isIn p1 0 ((h 30 8) - 1) h).bind fun r1 => if r1 = 0 ∨ r1 = 1 then some r1 else none
def fX6_kindOf_L2 : Nat → Int → Int → HS → Option (Int)
  | 0, _, _, _ => none
  | nf + 1, x1, x2, h => if wr (h 30 1) ≤ wr x2 then some (-1) else if (0 : Int) ≤ x2 ∧ x2 < 6 then if wr (h 31 x2) = wr x1 then some x2 else fX6_kindOf_L2 nf x1 (x2 + 1) h else none
def fX6_kindOf (p1 : Int) (h : HS) : Option (Int) := fX6_kindOf_L2 zF p1 0 h
def fX6_addKind_b25 (h : HS) : Option (Int × HS) := (fX6_fail 1 h).bind fun r1 => some (r1.1, r1.2)
def fX6_addKind_b48 (h : HS) : Option (Int × HS) := (fX6_fail 2 h).bind fun r2 => some (r2.1, r2.2)
def fX6_addKind (p1 : Int) (h : HS) : Option (Int × HS) := (fX6_isIn p1 65 90 (hs h 30 0 0)).bind fun r3 => if wr r3 = 0 then fX6_addKind_b25 (hs h 30 0 0) else (fX6_kindOf p1 (hs h 30 0 0)).bind fun r4 => if wr r4 = ((-1) : Int) then if wr (((hs h 30 0 0)) 30 1) = (6 : Int) then fX6_addKind_b48 (hs h 30 0 0) else if wr (((hs h 30 0 0)) 30 8) ≤ (1 : Int) then if (0 : Int) ≤ (((hs h 30 0 0)) 30 1) ∧ (((hs h 30 0 0)) 30 1) < 6 then some (((((hs (hs (hs h 30 0 0) 31 (((hs h 30 0 0)) 30 1) p1) 30 1 ((((hs (hs h 30 0 0) 31 (((hs h 30 0 0)) 30 1) p1)) 30 1) + 1))) 30 1) - 1), (hs (hs (hs h 30 0 0) 31 (((hs h 30 0 0)) 30 1) p1) 30 1 ((((hs (hs h 30 0 0) 31 (((hs h 30 0 0)) 30 1) p1)) 30 1) + 1))) else none else fX6_addKind_b48 (hs h 30 0 0) else fX6_addKind_b25 (hs h 30 0 0)
def fX6_addStep_b64 (h : HS) : Option (Int × HS) := (fX6_fail 2 h).bind fun r1 => some (r1.1, r1.2)
def fX6_addStep_b89 (h : HS) : Option (Int × HS) := (fX6_fail 3 h).bind fun r2 => some (r2.1, r2.2)
def fX6_addStep_b53 (x1 : Int) (x2 : Int) (x3 : Int) (x4 : Int) (h : HS) : Option (Int × HS) := (fX6_isIn x4 1 7 h).bind fun r3 => if wr r3 = 0 then fX6_addStep_b64 h else if (0 : Int) ≤ x1 ∧ x1 < 6 then if wr (h 32 x1) = (8 : Int) then fX6_addStep_b89 h else if wr (h 30 8) ≤ (1 : Int) then if (0 : Int) ≤ x1 ∧ x1 < 6 then if (0 : Int) ≤ (3 * ((8 * x1) + (h 32 x1))) ∧ (3 * ((8 * x1) + (h 32 x1))) < 144 then if (0 : Int) ≤ ((3 * ((8 * x1) + (h 32 x1))) + 1) ∧ ((3 * ((8 * x1) + (h 32 x1))) + 1) < 144 then if (0 : Int) ≤ ((3 * ((8 * x1) + (h 32 x1))) + 2) ∧ ((3 * ((8 * x1) + (h 32 x1))) + 2) < 144 then if (0 : Int) ≤ x1 ∧ x1 < 6 then if (0 : Int) ≤ x1 ∧ x1 < 6 then if (0 : Int) ≤ x1 ∧ x1 < 6 then some ((((hs (hs (hs (hs h 33 (3 * ((8 * x1) + (h 32 x1))) x2) 33 ((3 * ((8 * x1) + (h 32 x1))) + 1) x3) 33 ((3 * ((8 * x1) + (h 32 x1))) + 2) x4) 32 x1 ((((hs (hs (hs h 33 (3 * ((8 * x1) + (h 32 x1))) x2) 33 ((3 * ((8 * x1) + (h 32 x1))) + 1) x3) 33 ((3 * ((8 * x1) + (h 32 x1))) + 2) x4)) 32 x1) + 1))) 32 x1), (hs (hs (hs (hs h 33 (3 * ((8 * x1) + (h 32 x1))) x2) 33 ((3 * ((8 * x1) + (h 32 x1))) + 1) x3) 33 ((3 * ((8 * x1) + (h 32 x1))) + 2) x4) 32 x1 ((((hs (hs (hs h 33 (3 * ((8 * x1) + (h 32 x1))) x2) 33 ((3 * ((8 * x1) + (h 32 x1))) + 1) x3) 33 ((3 * ((8 * x1) + (h 32 x1))) + 2) x4)) 32 x1) + 1))) else none else none else none else none else none else none else none else fX6_addStep_b89 h else none
def fX6_addStep (p1 : Int) (p2 : Int) (p3 : Int) (p4 : Int) (h : HS) : Option (Int × HS) := (fX6_isIn p1 0 ((((hs h 30 0 0)) 30 1) - 1) (hs h 30 0 0)).bind fun r4 => if wr r4 = 0 then (fX6_fail 1 (hs h 30 0 0)).bind fun r7 => some (r7.1, r7.2) else (fX6_isIn p2 (-3) 3 (hs h 30 0 0)).bind fun r5 => if wr r5 = 0 then fX6_addStep_b64 (hs h 30 0 0) else (fX6_isIn p3 (-3) 3 (hs h 30 0 0)).bind fun r6 => if wr r6 = 0 then fX6_addStep_b64 (hs h 30 0 0) else if wr p2 = 0 then if wr p3 = 0 then fX6_addStep_b64 (hs h 30 0 0) else fX6_addStep_b53 p1 p2 p3 p4 (hs h 30 0 0) else fX6_addStep_b53 p1 p2 p3 p4 (hs h 30 0 0)
def fX6_put_b31 (h : HS) : Option (Int × HS) := (fX6_fail 1 h).bind fun r1 => some (r1.1, r1.2)
def fX6_put_b93 (x1 : Int) (x4 : Int) (s1 : Int) (s2 : Int) (h : HS) : Option (Int × HS) := if (0 : Int) ≤ s1 ∧ s1 < 64 then if (0 : Int) ≤ x1 ∧ x1 < 64 then if (0 : Int) ≤ x1 ∧ x1 < 64 then some (x4, (hs (hs h 34 s1 s2) 35 x1 (((hs h 34 s1 s2)) 34 x1))) else none else none else none
def fX6_put_b37 (x1 : Int) (x2 : Int) (x3 : Int) (h : HS) : Option (Int × HS) := (fX6_isIn x3 0 1 h).bind fun r2 => if wr r2 = 0 then (fX6_fail 2 h).bind fun r4 => some (r4.1, r4.2) else if wr (h 30 8) ≤ (1 : Int) then if (0 : Int) ≤ x1 ∧ x1 < 64 then if wr x2 = ((-1) : Int) then fX6_put_b93 x1 (h 34 x1) x1 (-1) h else fX6_put_b93 x1 (h 34 x1) x1 ((2 * x2) + x3) h else none else (fX6_fail 3 h).bind fun r3 => some (r3.1, r3.2)
def fX6_put (p1 : Int) (p2 : Int) (p3 : Int) (h : HS) : Option (Int × HS) := (fX6_isSquare p1 (hs h 30 0 0)).bind fun r5 => if wr r5 = 0 then fX6_put_b31 (hs h 30 0 0) else if wr p2 = ((-1) : Int) then fX6_put_b37 p1 p2 p3 (hs h 30 0 0) else (fX6_isIn p2 0 ((((hs h 30 0 0)) 30 1) - 1) (hs h 30 0 0)).bind fun r6 => if wr r6 = 0 then fX6_put_b31 (hs h 30 0 0) else fX6_put_b37 p1 p2 p3 (hs h 30 0 0)
def fX6_get (p1 : Int) (p2 : Int) (h : HS) : Option (Int) := if (0 : Int) ≤ ((5 * p1) + p2) ∧ ((5 * p1) + p2) < 1000 then some (h 37 ((5 * p1) + p2)) else none
def fX6_sideOf (p1 : Int) (h : HS) : Option (Int) := if wr p1 = ((-1) : Int) then some (-1) else if (0 : Int) ≤ p1 ∧ p1 < 2147483648 then some (p1 % 2) else none
def fX6_play (p2 : Int) (p3 : Int) (h : HS) : Option (HS) := if (0 : Int) ≤ p2 ∧ p2 < 64 then if (0 : Int) ≤ p3 ∧ p3 < 64 then if (0 : Int) ≤ p2 ∧ p2 < 64 then some (hs (hs h 35 p3 (h 35 p2)) 35 p2 (-1)) else none else none else none
def fX6_play_t (p2 : Int) (p3 : Int) (h : HS) : Option (HS) := if (0 : Int) ≤ p2 ∧ p2 < 64 then if (0 : Int) ≤ p3 ∧ p3 < 64 then if (0 : Int) ≤ p2 ∧ p2 < 64 then some (hs (hs h 36 p3 (h 36 p2)) 36 p2 (-1)) else none else none else none
def fX6_set_L47 : Nat → Int → HS → Option (HS)
  | 0, _, _ => none
  | nf + 1, x3, h => if wr x3 < 0 then some h else if (0 : Int) ≤ x3 ∧ x3 < 200 then (fX6_get (h 40 x3) 1 h).bind fun r1 => if (0 : Int) ≤ x3 ∧ x3 < 200 then (fX6_get (h 40 x3) 2 h).bind fun r2 => (fX6_play r1 r2 h).bind fun r3 => fX6_set_L47 nf (x3 + (-1)) r3 else none else none
def fX6_set_L19 : Nat → Int → Int → HS → Option (HS)
  | 0, _, _, _ => none
  | nf + 1, x2, x3, h => if wr x3 ≤ 0 then fX6_set_L47 zF (x2 - 1) h else if (0 : Int) ≤ x2 ∧ x2 < 200 then (fX6_get x3 0 (hs h 40 x2 x3)).bind fun r4 => fX6_set_L19 nf (x2 + 1) r4 (hs h 40 x2 x3) else none
def fX6_set (p1 : Int) (h : HS) : Option (HS) := if (0 : Int) ≤ 0 ∧ (0 : Int) ≤ 0 ∧ (0 : Int) ≤ 64 ∧ (0 : Int) + 64 ≤ 64 ∧ (0 : Int) + 64 ≤ 64 then fX6_set_L19 zF 0 p1 (hcp h 34 0 35 0 64) else none
def fX6_turn (h : HS) : Option (Int) := (fX6_get (h 30 9) 3 h).bind fun r1 => if (0 : Int) ≤ r1 ∧ r1 < 2147483648 then some (r1 % 2) else none
def fX6_target_b63 (x6 : Int) (s0 : Int) (s1 : Int) (s2 : Int) (h : HS) : Option (Int) := (fX6_isIn x6 0 7 h).bind fun r1 => if wr r1 = 0 then some (-1) else (fX6_isIn (s0 + (s1 * s2)) 0 7 h).bind fun r2 => if wr r2 = 0 then some (-1) else some ((8 * (s0 + (s1 * s2))) + x6)
def fX6_target (p1 : Int) (p2 : Int) (p3 : Int) (p4 : Int) (h : HS) : Option (Int) := if (0 : Int) ≤ p2 ∧ p2 < 2147483648 then if (0 : Int) ≤ p1 ∧ p1 < 2147483648 then if (0 : Int) ≤ (3 * ((8 * (p2 / 2)) + p3)) ∧ (3 * ((8 * (p2 / 2)) + p3)) < 144 then if (0 : Int) ≤ p1 ∧ p1 < 2147483648 then if (0 : Int) ≤ p2 ∧ p2 < 2147483648 then if wr (p2 % 2) = 0 then if (0 : Int) ≤ ((3 * ((8 * (p2 / 2)) + p3)) + 1) ∧ ((3 * ((8 * (p2 / 2)) + p3)) + 1) < 144 then fX6_target_b63 ((p1 % 8) + (p4 * (h 33 (3 * ((8 * (p2 / 2)) + p3))))) (p1 / 8) p4 (h 33 ((3 * ((8 * (p2 / 2)) + p3)) + 1)) h else none else if (0 : Int) ≤ ((3 * ((8 * (p2 / 2)) + p3)) + 1) ∧ ((3 * ((8 * (p2 / 2)) + p3)) + 1) < 144 then fX6_target_b63 ((p1 % 8) + (p4 * (h 33 (3 * ((8 * (p2 / 2)) + p3))))) (p1 / 8) p4 (-(h 33 ((3 * ((8 * (p2 / 2)) + p3)) + 1))) h else none else none else none else none else none else none
def fX6_reach (p1 : Int) (p2 : Int) (h : HS) : Option (Int) := if (0 : Int) ≤ p1 ∧ p1 < 2147483648 then if (0 : Int) ≤ ((3 * ((8 * (p1 / 2)) + p2)) + 2) ∧ ((3 * ((8 * (p1 / 2)) + p2)) + 2) < 144 then some (h 33 ((3 * ((8 * (p1 / 2)) + p2)) + 2)) else none else none
def fX6_reaches_b110 (k24 : Int → Int → Int → Int → HS → Option (Int)) (x2 : Int) (x3 : Int) (x4 : Int) (x5 : Int) (h : HS) : Option (Int) := k24 x2 x3 x4 (x5 + 1) h
def fX6_reaches_b102 (k24 : Int → Int → Int → Int → HS → Option (Int)) (k44 : Int → Int → Int → Int → Int → Int → HS → Option (Int)) (x2 : Int) (x3 : Int) (x4 : Int) (x5 : Int) (x7 : Int) (s0 : Int) (h : HS) : Option (Int) := k44 x2 x3 x4 x5 s0 (x7 + 1) h
def fX6_reaches_b101 (k24 : Int → Int → Int → Int → HS → Option (Int)) (k44 : Int → Int → Int → Int → Int → Int → HS → Option (Int)) (x2 : Int) (x3 : Int) (x4 : Int) (x5 : Int) (x7 : Int) (h : HS) : Option (Int) := fX6_reaches_b102 k24 k44 x2 x3 x4 x5 x7 0 h
def fX6_reaches_L44 (k24 : Int → Int → Int → Int → HS → Option (Int)) : Nat → Int → Int → Int → Int → Int → Int → HS → Option (Int)
  | 0, _, _, _, _, _, _, _ => none
  | nf + 1, x2, x3, x4, x5, x6, x7, h => (fX6_reach x4 x5 h).bind fun r1 => if wr r1 < wr x7 then fX6_reaches_b110 k24 x2 x3 x4 x5 h else if wr x6 = 0 then fX6_reaches_b110 k24 x2 x3 x4 x5 h else (fX6_target x2 x4 x5 x7 h).bind fun r2 => if wr r2 = wr x3 then some 1 else if wr r2 = ((-1) : Int) then fX6_reaches_b101 k24 (fun a0 a1 a2 a3 a4 a5 hh => fX6_reaches_L44 k24 nf a0 a1 a2 a3 a4 a5 hh) x2 x3 x4 x5 x7 h else if (0 : Int) ≤ r2 ∧ r2 < 64 then if wr (h 35 r2) = ((-1) : Int) then fX6_reaches_b102 k24 (fun a0 a1 a2 a3 a4 a5 hh => fX6_reaches_L44 k24 nf a0 a1 a2 a3 a4 a5 hh) x2 x3 x4 x5 x7 1 h else fX6_reaches_b101 k24 (fun a0 a1 a2 a3 a4 a5 hh => fX6_reaches_L44 k24 nf a0 a1 a2 a3 a4 a5 hh) x2 x3 x4 x5 x7 h else none
def fX6_reaches_L24 : Nat → Int → Int → Int → Int → HS → Option (Int)
  | 0, _, _, _, _, _ => none
  | nf + 1, x2, x3, x4, x5, h => if (0 : Int) ≤ x4 ∧ x4 < 2147483648 then if (0 : Int) ≤ (x4 / 2) ∧ (x4 / 2) < 6 then if wr (h 32 (x4 / 2)) ≤ wr x5 then some 0 else fX6_reaches_L44 (fun a0 a1 a2 a3 hh => fX6_reaches_L24 nf a0 a1 a2 a3 hh) zF x2 x3 x4 x5 1 1 h else none else none
def fX6_reaches (p2 : Int) (p3 : Int) (h : HS) : Option (Int) := if (0 : Int) ≤ p2 ∧ p2 < 64 then if (0 : Int) ≤ p3 ∧ p3 < 64 then (fX6_sideOf (h 35 p3) h).bind fun r3 => (fX6_sideOf (h 35 p2) h).bind fun r4 => if wr r3 = wr r4 then some 0 else fX6_reaches_L24 zF p2 p3 (h 35 p2) 0 h else none else none
def fX6_reaches_t_b110 (k24 : Int → Int → Int → Int → HS → Option (Int)) (x2 : Int) (x3 : Int) (x4 : Int) (x5 : Int) (h : HS) : Option (Int) := k24 x2 x3 x4 (x5 + 1) h
def fX6_reaches_t_b102 (k24 : Int → Int → Int → Int → HS → Option (Int)) (k44 : Int → Int → Int → Int → Int → Int → HS → Option (Int)) (x2 : Int) (x3 : Int) (x4 : Int) (x5 : Int) (x7 : Int) (s0 : Int) (h : HS) : Option (Int) := k44 x2 x3 x4 x5 s0 (x7 + 1) h
def fX6_reaches_t_b101 (k24 : Int → Int → Int → Int → HS → Option (Int)) (k44 : Int → Int → Int → Int → Int → Int → HS → Option (Int)) (x2 : Int) (x3 : Int) (x4 : Int) (x5 : Int) (x7 : Int) (h : HS) : Option (Int) := fX6_reaches_t_b102 k24 k44 x2 x3 x4 x5 x7 0 h
def fX6_reaches_t_L44 (k24 : Int → Int → Int → Int → HS → Option (Int)) : Nat → Int → Int → Int → Int → Int → Int → HS → Option (Int)
  | 0, _, _, _, _, _, _, _ => none
  | nf + 1, x2, x3, x4, x5, x6, x7, h => (fX6_reach x4 x5 h).bind fun r1 => if wr r1 < wr x7 then fX6_reaches_t_b110 k24 x2 x3 x4 x5 h else if wr x6 = 0 then fX6_reaches_t_b110 k24 x2 x3 x4 x5 h else (fX6_target x2 x4 x5 x7 h).bind fun r2 => if wr r2 = wr x3 then some 1 else if wr r2 = ((-1) : Int) then fX6_reaches_t_b101 k24 (fun a0 a1 a2 a3 a4 a5 hh => fX6_reaches_t_L44 k24 nf a0 a1 a2 a3 a4 a5 hh) x2 x3 x4 x5 x7 h else if (0 : Int) ≤ r2 ∧ r2 < 64 then if wr (h 36 r2) = ((-1) : Int) then fX6_reaches_t_b102 k24 (fun a0 a1 a2 a3 a4 a5 hh => fX6_reaches_t_L44 k24 nf a0 a1 a2 a3 a4 a5 hh) x2 x3 x4 x5 x7 1 h else fX6_reaches_t_b101 k24 (fun a0 a1 a2 a3 a4 a5 hh => fX6_reaches_t_L44 k24 nf a0 a1 a2 a3 a4 a5 hh) x2 x3 x4 x5 x7 h else none
def fX6_reaches_t_L24 : Nat → Int → Int → Int → Int → HS → Option (Int)
  | 0, _, _, _, _, _ => none
  | nf + 1, x2, x3, x4, x5, h => if (0 : Int) ≤ x4 ∧ x4 < 2147483648 then if (0 : Int) ≤ (x4 / 2) ∧ (x4 / 2) < 6 then if wr (h 32 (x4 / 2)) ≤ wr x5 then some 0 else fX6_reaches_t_L44 (fun a0 a1 a2 a3 hh => fX6_reaches_t_L24 nf a0 a1 a2 a3 hh) zF x2 x3 x4 x5 1 1 h else none else none
def fX6_reaches_t (p2 : Int) (p3 : Int) (h : HS) : Option (Int) := if (0 : Int) ≤ p2 ∧ p2 < 64 then if (0 : Int) ≤ p3 ∧ p3 < 64 then (fX6_sideOf (h 36 p3) h).bind fun r3 => (fX6_sideOf (h 36 p2) h).bind fun r4 => if wr r3 = wr r4 then some 0 else fX6_reaches_t_L24 zF p2 p3 (h 36 p2) 0 h else none else none
def fX6_isChecked_b60 (k2 : Int → Int → HS → Option (Int)) (x2 : Int) (x3 : Int) (h : HS) : Option (Int) := k2 x2 (x3 + 1) h
def fX6_isChecked_b54 (k2 : Int → Int → HS → Option (Int)) (k21 : Int → Int → Int → HS → Option (Int)) (x2 : Int) (x3 : Int) (x4 : Int) (h : HS) : Option (Int) := k21 x2 x3 (x4 + 1) h
def fX6_isChecked_L21 (k2 : Int → Int → HS → Option (Int)) : Nat → Int → Int → Int → HS → Option (Int)
  | 0, _, _, _, _ => none
  | nf + 1, x2, x3, x4, h => if (64 : Int) ≤ wr x4 then fX6_isChecked_b60 k2 x2 x3 h else if (0 : Int) ≤ x4 ∧ x4 < 64 then (fX6_sideOf (h 35 x4) h).bind fun r1 => if wr r1 = wr (1 - x2) then (fX6_reaches x4 x3 h).bind fun r2 => if wr r2 = 0 then fX6_isChecked_b54 k2 (fun a0 a1 a2 hh => fX6_isChecked_L21 k2 nf a0 a1 a2 hh) x2 x3 x4 h else some 1 else fX6_isChecked_b54 k2 (fun a0 a1 a2 hh => fX6_isChecked_L21 k2 nf a0 a1 a2 hh) x2 x3 x4 h else none
def fX6_isChecked_L2 : Nat → Int → Int → HS → Option (Int)
  | 0, _, _, _ => none
  | nf + 1, x2, x3, h => if (64 : Int) ≤ wr x3 then some 0 else if (0 : Int) ≤ x3 ∧ x3 < 64 then if wr (h 35 x3) = wr x2 then fX6_isChecked_L21 (fun a0 a1 hh => fX6_isChecked_L2 nf a0 a1 hh) zF x2 x3 0 h else fX6_isChecked_b60 (fun a0 a1 hh => fX6_isChecked_L2 nf a0 a1 hh) x2 x3 h else none
def fX6_isChecked (p2 : Int) (h : HS) : Option (Int) := fX6_isChecked_L2 zF p2 0 h
def fX6_isChecked_t_b60 (k2 : Int → Int → HS → Option (Int)) (x2 : Int) (x3 : Int) (h : HS) : Option (Int) := k2 x2 (x3 + 1) h
def fX6_isChecked_t_b54 (k2 : Int → Int → HS → Option (Int)) (k21 : Int → Int → Int → HS → Option (Int)) (x2 : Int) (x3 : Int) (x4 : Int) (h : HS) : Option (Int) := k21 x2 x3 (x4 + 1) h
def fX6_isChecked_t_L21 (k2 : Int → Int → HS → Option (Int)) : Nat → Int → Int → Int → HS → Option (Int)
  | 0, _, _, _, _ => none
  | nf + 1, x2, x3, x4, h => if (64 : Int) ≤ wr x4 then fX6_isChecked_t_b60 k2 x2 x3 h else if (0 : Int) ≤ x4 ∧ x4 < 64 then (fX6_sideOf (h 36 x4) h).bind fun r1 => if wr r1 = wr (1 - x2) then (fX6_reaches_t x4 x3 h).bind fun r2 => if wr r2 = 0 then fX6_isChecked_t_b54 k2 (fun a0 a1 a2 hh => fX6_isChecked_t_L21 k2 nf a0 a1 a2 hh) x2 x3 x4 h else some 1 else fX6_isChecked_t_b54 k2 (fun a0 a1 a2 hh => fX6_isChecked_t_L21 k2 nf a0 a1 a2 hh) x2 x3 x4 h else none
def fX6_isChecked_t_L2 : Nat → Int → Int → HS → Option (Int)
  | 0, _, _, _ => none
  | nf + 1, x2, x3, h => if (64 : Int) ≤ wr x3 then some 0 else if (0 : Int) ≤ x3 ∧ x3 < 64 then if wr (h 36 x3) = wr x2 then fX6_isChecked_t_L21 (fun a0 a1 hh => fX6_isChecked_t_L2 nf a0 a1 hh) zF x2 x3 0 h else fX6_isChecked_t_b60 (fun a0 a1 hh => fX6_isChecked_t_L2 nf a0 a1 hh) x2 x3 h else none
def fX6_isChecked_t (p2 : Int) (h : HS) : Option (Int) := fX6_isChecked_t_L2 zF p2 0 h
def fX6_isLegal (p1 : Int) (p2 : Int) (h : HS) : Option (Int × HS) := if (0 : Int) ≤ 0 ∧ (0 : Int) ≤ 0 ∧ (0 : Int) ≤ 64 ∧ (0 : Int) + 64 ≤ 64 ∧ (0 : Int) + 64 ≤ 64 then (fX6_play_t p1 p2 (hcp h 35 0 36 0 64)).bind fun r1 => if (0 : Int) ≤ p1 ∧ p1 < 64 then (fX6_sideOf (r1 35 p1) r1).bind fun r2 => (fX6_isChecked_t r2 r1).bind fun r3 => if wr r3 = 0 then some (1, r1) else some (0, r1) else none else none
def fX6_legalMoves_b79 (k5 : Int → Int → Int → Int → HS → Option (Int × HS)) (x1 : Int) (x2 : Int) (x3 : Int) (x4 : Int) (h : HS) : Option (Int × HS) := k5 x1 x2 x3 (x4 + 1) h
def fX6_legalMoves_b73 (k5 : Int → Int → Int → Int → HS → Option (Int × HS)) (k32 : Int → Int → Int → Int → Int → HS → Option (Int × HS)) (x1 : Int) (x2 : Int) (x3 : Int) (x4 : Int) (x5 : Int) (h : HS) : Option (Int × HS) := k32 x1 x2 x3 x4 (x5 + 1) h
def fX6_legalMoves_L32 (k5 : Int → Int → Int → Int → HS → Option (Int × HS)) : Nat → Int → Int → Int → Int → Int → HS → Option (Int × HS)
  | 0, _, _, _, _, _, _ => none
  | nf + 1, x1, x2, x3, x4, x5, h => if (64 : Int) ≤ wr x5 then fX6_legalMoves_b79 k5 x1 x2 x3 x4 h else if wr x2 ≤ wr x3 then fX6_legalMoves_b79 k5 x1 x2 x3 x4 h else (fX6_reaches x4 x5 h).bind fun r1 => if wr r1 = 0 then fX6_legalMoves_b73 k5 (fun a0 a1 a2 a3 a4 hh => fX6_legalMoves_L32 k5 nf a0 a1 a2 a3 a4 hh) x1 x2 x3 x4 x5 h else (fX6_isLegal x4 x5 h).bind fun r2 => if wr r2.1 = 0 then fX6_legalMoves_b73 k5 (fun a0 a1 a2 a3 a4 hh => fX6_legalMoves_L32 k5 nf a0 a1 a2 a3 a4 hh) x1 x2 x3 x4 x5 r2.2 else fX6_legalMoves_b73 k5 (fun a0 a1 a2 a3 a4 hh => fX6_legalMoves_L32 k5 nf a0 a1 a2 a3 a4 hh) x1 x2 (x3 + 1) x4 x5 r2.2
def fX6_legalMoves_L5 : Nat → Int → Int → Int → Int → HS → Option (Int × HS)
  | 0, _, _, _, _, _ => none
  | nf + 1, x1, x2, x3, x4, h => if (64 : Int) ≤ wr x4 then some (x3, h) else if (0 : Int) ≤ x4 ∧ x4 < 64 then (fX6_sideOf (h 35 x4) h).bind fun r3 => if wr r3 = wr x1 then fX6_legalMoves_L32 (fun a0 a1 a2 a3 hh => fX6_legalMoves_L5 nf a0 a1 a2 a3 hh) zF x1 x2 x3 x4 0 h else fX6_legalMoves_b79 (fun a0 a1 a2 a3 hh => fX6_legalMoves_L5 nf a0 a1 a2 a3 hh) x1 x2 x3 x4 h else none
def fX6_legalMoves (p1 : Int) (p2 : Int) (h : HS) : Option (Int × HS) := fX6_legalMoves_L5 zF p1 p2 0 0 h
def fX6_at (p1 : Int) (h : HS) : Option (Int × HS) := (fX6_isSquare p1 (hs h 30 0 0)).bind fun r1 => if wr r1 = 0 then (fX6_fail 1 (hs h 30 0 0)).bind fun r2 => some (r2.1, r2.2) else if (0 : Int) ≤ p1 ∧ p1 < 64 then some ((((hs h 30 0 0)) 35 p1), (hs h 30 0 0)) else none
def fX6_stateTold (p1 : Int) (h : HS) : Option (Int × HS) := if wr p1 = 0 then (fX6_turn h).bind fun r1 => some (r1, h) else if wr p1 = 1 then (fX6_turn h).bind fun r2 => (fX6_isChecked r2 h).bind fun r3 => if wr r3 = 0 then some (0, h) else some (1, h) else if wr p1 = 2 then (fX6_turn h).bind fun r4 => (fX6_legalMoves r4 4096 h).bind fun r5 => some (r5.1, r5.2) else if wr p1 = 3 then some ((h 30 9), h) else if wr p1 = 4 then some ((h 30 8), h) else if wr p1 = 5 then some ((h 30 1), h) else some ((h 30 13), h)
def fX6_state (p1 : Int) (h : HS) : Option (Int × HS) := (fX6_isIn p1 0 6 (hs h 30 0 0)).bind fun r1 => if wr r1 = 0 then (fX6_fail 1 (hs h 30 0 0)).bind fun r2 => some (r2.1, r2.2) else (fX6_stateTold p1 (hs h 30 0 0)).bind fun r3 => some (r3.1, r3.2)
def fX6_why (p1 : Int) (p2 : Int) (h : HS) : Option (Int × HS) := if (0 : Int) ≤ p1 ∧ p1 < 64 then (fX6_sideOf (h 35 p1) h).bind fun r1 => (fX6_turn h).bind fun r2 => if wr r1 = wr r2 then (fX6_reaches p1 p2 h).bind fun r3 => if wr r3 = 0 then some (2, h) else (fX6_isLegal p1 p2 h).bind fun r4 => if wr r4.1 = 0 then some (3, r4.2) else some (0, r4.2) else some (1, h) else none
def fX6_reason_b28 (h : HS) : Option (Int × HS) := (fX6_fail 1 h).bind fun r1 => some (r1.1, r1.2)
def fX6_reason (p1 : Int) (p2 : Int) (h : HS) : Option (Int × HS) := (fX6_isSquare p1 (hs h 30 0 0)).bind fun r2 => if wr r2 = 0 then fX6_reason_b28 (hs h 30 0 0) else (fX6_isSquare p2 (hs h 30 0 0)).bind fun r3 => if wr r3 = 0 then fX6_reason_b28 (hs h 30 0 0) else (fX6_why p1 p2 (hs h 30 0 0)).bind fun r4 => some (r4.1, r4.2)
def fX6_continuation0 (p1 : Int) (p2 : Int) (h : HS) : Option (Int) := if (0 : Int) ≤ ((200 * p1) + p2) ∧ ((200 * p1) + p2) < 40000 then some (h 38 ((200 * p1) + p2)) else none
def fX6_known_b51 (k2 : Int → Int → Int → HS → Option (Int)) (x1 : Int) (x2 : Int) (x3 : Int) (h : HS) : Option (Int) := k2 x1 x2 (x3 + 1) h
def fX6_known_L2 : Nat → Int → Int → Int → HS → Option (Int)
  | 0, _, _, _, _ => none
  | nf + 1, x1, x2, x3, h => (fX6_get (h 30 9) 4 h).bind fun r1 => if wr r1 ≤ wr x3 then some (-1) else (fX6_continuation0 (h 30 9) x3 h).bind fun r2 => (fX6_get r2 1 h).bind fun r3 => if wr r3 = wr x1 then (fX6_get r2 2 h).bind fun r4 => if wr r4 = wr x2 then some r2 else fX6_known_b51 (fun a0 a1 a2 hh => fX6_known_L2 nf a0 a1 a2 hh) x1 x2 x3 h else fX6_known_b51 (fun a0 a1 a2 hh => fX6_known_L2 nf a0 a1 a2 hh) x1 x2 x3 h
def fX6_known (p1 : Int) (p2 : Int) (h : HS) : Option (Int) := fX6_known_L2 zF p1 p2 0 h
def fX6_playOn_b120 (x1 : Int) (x2 : Int) (x3 : Int) (h : HS) : Option (HS) := (fX6_play x1 x2 (hs h 30 9 x3)).bind fun r1 => some r1
def fX6_playOn (p1 : Int) (p2 : Int) (h : HS) : Option (HS) := (fX6_known p1 p2 h).bind fun r2 => if wr r2 = ((-1) : Int) then if (0 : Int) ≤ 0 ∧ 0 < 5 then if (0 : Int) ≤ 1 ∧ 1 < 5 then if (0 : Int) ≤ 2 ∧ 2 < 5 then (fX6_get (((hs (hs (hs (hz (hs h 30 8 ((h 30 8) + 1)) 90) 90 0 (((hz (hs h 30 8 ((h 30 8) + 1)) 90)) 30 9)) 90 1 p1) 90 2 p2)) 30 9) 3 (hs (hs (hs (hz (hs h 30 8 ((h 30 8) + 1)) 90) 90 0 (((hz (hs h 30 8 ((h 30 8) + 1)) 90)) 30 9)) 90 1 p1) 90 2 p2)).bind fun r3 => if (0 : Int) ≤ 3 ∧ 3 < 5 then if (0 : Int) ≤ 4 ∧ 4 < 5 then if (0 : Int) ≤ 0 ∧ (0 : Int) ≤ (5 * (h 30 8)) ∧ (0 : Int) ≤ 5 ∧ (0 : Int) + 5 ≤ 5 ∧ ((5 * (h 30 8)) : Int) + 5 ≤ 1000 then (fX6_get (((hcp (hs (hs (hs (hs (hs (hz (hs h 30 8 ((h 30 8) + 1)) 90) 90 0 (((hz (hs h 30 8 ((h 30 8) + 1)) 90)) 30 9)) 90 1 p1) 90 2 p2) 90 3 (r3 + 1)) 90 4 0) 90 0 37 (5 * (h 30 8)) 5)) 30 9) 4 (hcp (hs (hs (hs (hs (hs (hz (hs h 30 8 ((h 30 8) + 1)) 90) 90 0 (((hz (hs h 30 8 ((h 30 8) + 1)) 90)) 30 9)) 90 1 p1) 90 2 p2) 90 3 (r3 + 1)) 90 4 0) 90 0 37 (5 * (h 30 8)) 5)).bind fun r4 => if (0 : Int) ≤ ((200 * (((hcp (hs (hs (hs (hs (hs (hz (hs h 30 8 ((h 30 8) + 1)) 90) 90 0 (((hz (hs h 30 8 ((h 30 8) + 1)) 90)) 30 9)) 90 1 p1) 90 2 p2) 90 3 (r3 + 1)) 90 4 0) 90 0 37 (5 * (h 30 8)) 5)) 30 9)) + r4) ∧ ((200 * (((hcp (hs (hs (hs (hs (hs (hz (hs h 30 8 ((h 30 8) + 1)) 90) 90 0 (((hz (hs h 30 8 ((h 30 8) + 1)) 90)) 30 9)) 90 1 p1) 90 2 p2) 90 3 (r3 + 1)) 90 4 0) 90 0 37 (5 * (h 30 8)) 5)) 30 9)) + r4) < 40000 then if (0 : Int) ≤ ((5 * (((hs (hcp (hs (hs (hs (hs (hs (hz (hs h 30 8 ((h 30 8) + 1)) 90) 90 0 (((hz (hs h 30 8 ((h 30 8) + 1)) 90)) 30 9)) 90 1 p1) 90 2 p2) 90 3 (r3 + 1)) 90 4 0) 90 0 37 (5 * (h 30 8)) 5) 38 ((200 * (((hcp (hs (hs (hs (hs (hs (hz (hs h 30 8 ((h 30 8) + 1)) 90) 90 0 (((hz (hs h 30 8 ((h 30 8) + 1)) 90)) 30 9)) 90 1 p1) 90 2 p2) 90 3 (r3 + 1)) 90 4 0) 90 0 37 (5 * (h 30 8)) 5)) 30 9)) + r4) (h 30 8))) 30 9)) + 4) ∧ ((5 * (((hs (hcp (hs (hs (hs (hs (hs (hz (hs h 30 8 ((h 30 8) + 1)) 90) 90 0 (((hz (hs h 30 8 ((h 30 8) + 1)) 90)) 30 9)) 90 1 p1) 90 2 p2) 90 3 (r3 + 1)) 90 4 0) 90 0 37 (5 * (h 30 8)) 5) 38 ((200 * (((hcp (hs (hs (hs (hs (hs (hz (hs h 30 8 ((h 30 8) + 1)) 90) 90 0 (((hz (hs h 30 8 ((h 30 8) + 1)) 90)) 30 9)) 90 1 p1) 90 2 p2) 90 3 (r3 + 1)) 90 4 0) 90 0 37 (5 * (h 30 8)) 5)) 30 9)) + r4) (h 30 8))) 30 9)) + 4) < 1000 then if (0 : Int) ≤ ((5 * (((hs (hcp (hs (hs (hs (hs (hs (hz (hs h 30 8 ((h 30 8) + 1)) 90) 90 0 (((hz (hs h 30 8 ((h 30 8) + 1)) 90)) 30 9)) 90 1 p1) 90 2 p2) 90 3 (r3 + 1)) 90 4 0) 90 0 37 (5 * (h 30 8)) 5) 38 ((200 * (((hcp (hs (hs (hs (hs (hs (hz (hs h 30 8 ((h 30 8) + 1)) 90) 90 0 (((hz (hs h 30 8 ((h 30 8) + 1)) 90)) 30 9)) 90 1 p1) 90 2 p2) 90 3 (r3 + 1)) 90 4 0) 90 0 37 (5 * (h 30 8)) 5)) 30 9)) + r4) (h 30 8))) 30 9)) + 4) ∧ ((5 * (((hs (hcp (hs (hs (hs (hs (hs (hz (hs h 30 8 ((h 30 8) + 1)) 90) 90 0 (((hz (hs h 30 8 ((h 30 8) + 1)) 90)) 30 9)) 90 1 p1) 90 2 p2) 90 3 (r3 + 1)) 90 4 0) 90 0 37 (5 * (h 30 8)) 5) 38 ((200 * (((hcp (hs (hs (hs (hs (hs (hz (hs h 30 8 ((h 30 8) + 1)) 90) 90 0 (((hz (hs h 30 8 ((h 30 8) + 1)) 90)) 30 9)) 90 1 p1) 90 2 p2) 90 3 (r3 + 1)) 90 4 0) 90 0 37 (5 * (h 30 8)) 5)) 30 9)) + r4) (h 30 8))) 30 9)) + 4) < 1000 then fX6_playOn_b120 p1 p2 (h 30 8) (hz (hs (hs (hcp (hs (hs (hs (hs (hs (hz (hs h 30 8 ((h 30 8) + 1)) 90) 90 0 (((hz (hs h 30 8 ((h 30 8) + 1)) 90)) 30 9)) 90 1 p1) 90 2 p2) 90 3 (r3 + 1)) 90 4 0) 90 0 37 (5 * (h 30 8)) 5) 38 ((200 * (((hcp (hs (hs (hs (hs (hs (hz (hs h 30 8 ((h 30 8) + 1)) 90) 90 0 (((hz (hs h 30 8 ((h 30 8) + 1)) 90)) 30 9)) 90 1 p1) 90 2 p2) 90 3 (r3 + 1)) 90 4 0) 90 0 37 (5 * (h 30 8)) 5)) 30 9)) + r4) (h 30 8)) 37 ((5 * (((hs (hcp (hs (hs (hs (hs (hs (hz (hs h 30 8 ((h 30 8) + 1)) 90) 90 0 (((hz (hs h 30 8 ((h 30 8) + 1)) 90)) 30 9)) 90 1 p1) 90 2 p2) 90 3 (r3 + 1)) 90 4 0) 90 0 37 (5 * (h 30 8)) 5) 38 ((200 * (((hcp (hs (hs (hs (hs (hs (hz (hs h 30 8 ((h 30 8) + 1)) 90) 90 0 (((hz (hs h 30 8 ((h 30 8) + 1)) 90)) 30 9)) 90 1 p1) 90 2 p2) 90 3 (r3 + 1)) 90 4 0) 90 0 37 (5 * (h 30 8)) 5)) 30 9)) + r4) (h 30 8))) 30 9)) + 4) ((((hs (hcp (hs (hs (hs (hs (hs (hz (hs h 30 8 ((h 30 8) + 1)) 90) 90 0 (((hz (hs h 30 8 ((h 30 8) + 1)) 90)) 30 9)) 90 1 p1) 90 2 p2) 90 3 (r3 + 1)) 90 4 0) 90 0 37 (5 * (h 30 8)) 5) 38 ((200 * (((hcp (hs (hs (hs (hs (hs (hz (hs h 30 8 ((h 30 8) + 1)) 90) 90 0 (((hz (hs h 30 8 ((h 30 8) + 1)) 90)) 30 9)) 90 1 p1) 90 2 p2) 90 3 (r3 + 1)) 90 4 0) 90 0 37 (5 * (h 30 8)) 5)) 30 9)) + r4) (h 30 8))) 37 ((5 * (((hs (hcp (hs (hs (hs (hs (hs (hz (hs h 30 8 ((h 30 8) + 1)) 90) 90 0 (((hz (hs h 30 8 ((h 30 8) + 1)) 90)) 30 9)) 90 1 p1) 90 2 p2) 90 3 (r3 + 1)) 90 4 0) 90 0 37 (5 * (h 30 8)) 5) 38 ((200 * (((hcp (hs (hs (hs (hs (hs (hz (hs h 30 8 ((h 30 8) + 1)) 90) 90 0 (((hz (hs h 30 8 ((h 30 8) + 1)) 90)) 30 9)) 90 1 p1) 90 2 p2) 90 3 (r3 + 1)) 90 4 0) 90 0 37 (5 * (h 30 8)) 5)) 30 9)) + r4) (h 30 8))) 30 9)) + 4)) + 1)) 90) else none else none else none else none else none else none else none else none else none else fX6_playOn_b120 p1 p2 r2 h
def fX6_play__b19 (h : HS) : Option (Int × HS) := (fX6_fail 1 h).bind fun r1 => some (r1.1, r1.2)
def fX6_play__b54 (h : HS) : Option (Int × HS) := (fX6_fail 2 h).bind fun r2 => some (r2.1, r2.2)
def fX6_play__b60 (x1 : Int) (x2 : Int) (h : HS) : Option (Int × HS) := (fX6_playOn x1 x2 h).bind fun r3 => some ((r3 30 9), r3)
def fX6_play_ (p1 : Int) (p2 : Int) (h : HS) : Option (Int × HS) := (fX6_isSquare p1 (hs h 30 0 0)).bind fun r4 => if wr r4 = 0 then fX6_play__b19 (hs h 30 0 0) else (fX6_isSquare p2 (hs h 30 0 0)).bind fun r5 => if wr r5 = 0 then fX6_play__b19 (hs h 30 0 0) else (fX6_why p1 p2 (hs h 30 0 0)).bind fun r6 => if wr r6.1 = 0 then if wr (r6.2 30 8) = (200 : Int) then (fX6_known p1 p2 r6.2).bind fun r7 => if wr r7 = ((-1) : Int) then fX6_play__b54 r6.2 else fX6_play__b60 p1 p2 r6.2 else fX6_play__b60 p1 p2 r6.2 else fX6_play__b54 r6.2
def fX6_feed_b50 (h : HS) : Option (Int × HS) := (fX6_fail 1 h).bind fun r1 => some (r1.1, r1.2)
def fX6_feed_b191 (k157 : Int → Int → Int → HS → Option (Int × HS)) (x6 : Int) (x9 : Int) (x10 : Int) (h : HS) : Option (Int × HS) := k157 x6 x9 (x10 + 1) h
def fX6_feed_L157 : Nat → Int → Int → Int → HS → Option (Int × HS)
  | 0, _, _, _, _ => none
  | nf + 1, x6, x9, x10, h => if wr x9 ≤ wr x10 then some ((((hs h 30 13 x6)) 30 13), (hz (hs h 30 13 x6) 91)) else if (0 : Int) ≤ x10 ∧ x10 < 3 then if 0 ≤ wr (h 91 x10) then if (0 : Int) ≤ x6 ∧ x6 < 2000 then fX6_feed_b191 (fun a0 a1 a2 hh => fX6_feed_L157 nf a0 a1 a2 hh) (x6 + 1) x9 x10 (hs h 39 x6 (h 91 x10)) else none else fX6_feed_b191 (fun a0 a1 a2 hh => fX6_feed_L157 nf a0 a1 a2 hh) x6 x9 x10 h else none
def fX6_feed_b87 (x1 : Int) (x2 : Int) (x3 : Int) (x4 : Int) (s0 : Int) (s1 : Int) (h : HS) : Option (Int × HS) := if wr ((h 30 13) + (s0 + s1)) ≤ (2000 : Int) then if (0 : Int) ≤ (h 30 13) ∧ (h 30 13) < 2000 then if (0 : Int) ≤ 0 ∧ 0 < 3 then if (0 : Int) ≤ 1 ∧ 1 < 3 then if (0 : Int) ≤ 2 ∧ 2 < 3 then fX6_feed_L157 zF ((((hs h 39 (h 30 13) x1)) 30 13) + 1) 3 0 (hs (hs (hs (hz (hs h 39 (h 30 13) x1) 91) 91 0 x2) 91 1 x3) 91 2 x4) else none else none else none else none else (fX6_fail 2 h).bind fun r2 => some (r2.1, r2.2)
def fX6_feed_b76 (x1 : Int) (x2 : Int) (x3 : Int) (x4 : Int) (s0 : Int) (s1 : Int) (h : HS) : Option (Int × HS) := if 0 ≤ wr x4 then fX6_feed_b87 x1 x2 x3 x4 (s0 + s1) 1 h else fX6_feed_b87 x1 x2 x3 x4 (s0 + s1) 0 h
def fX6_feed_b66 (x1 : Int) (x2 : Int) (x3 : Int) (x4 : Int) (s0 : Int) (s1 : Int) (h : HS) : Option (Int × HS) := if 0 ≤ wr x3 then fX6_feed_b76 x1 x2 x3 x4 (s0 + s1) 1 h else fX6_feed_b76 x1 x2 x3 x4 (s0 + s1) 0 h
def fX6_feed (p1 : Int) (p2 : Int) (p3 : Int) (p4 : Int) (h : HS) : Option (Int × HS) := (fX6_isIn p1 0 255 (hs h 30 0 0)).bind fun r3 => if wr r3 = 0 then fX6_feed_b50 (hs h 30 0 0) else (fX6_isIn p2 (-1) 255 (hs h 30 0 0)).bind fun r4 => if wr r4 = 0 then fX6_feed_b50 (hs h 30 0 0) else (fX6_isIn p3 (-1) 255 (hs h 30 0 0)).bind fun r5 => if wr r5 = 0 then fX6_feed_b50 (hs h 30 0 0) else (fX6_isIn p4 (-1) 255 (hs h 30 0 0)).bind fun r6 => if wr r6 = 0 then fX6_feed_b50 (hs h 30 0 0) else if 0 ≤ wr p2 then fX6_feed_b66 p1 p2 p3 p4 1 1 (hs h 30 0 0) else fX6_feed_b66 p1 p2 p3 p4 1 0 (hs h 30 0 0)
def fX6_empty (h : HS) : Option (Int × HS) := some ((((hs h 30 0 0)) 30 13), (hs (hs h 30 0 0) 30 13 0))
def fJ0_coder_7d493 (i0 : Nat) (h : HS) : Option (Int) := if (1 : Int) = 0 then some 1 else if i0 < 16 then some 0 else none
def fJ0_length_8abf5 (i0 : Nat) (h : HS) : Option (Int) := if i0 < 16 then if i0 < 16 then if i0 < 16 then (fJ0_coder_7d493 i0 h).bind fun r1 => some (zshr (zln i0) r1) else none else none else none
def fJ0_isLatin1_aae02 (i0 : Nat) (h : HS) : Option (Int) := if (1 : Int) = 0 then some 0 else if i0 < 16 then if (0 : Int) = 0 then some 1 else some 0 else none
def fJ3_checkIndex_8e157_b9 (x0 : Int) (x1 : Int) (h : HS) : Option (Int) := none
def fJ3_checkIndex_8e157 (p1 : Int) (p2 : Int) (h : HS) : Option (Int) := if wr p1 < 0 then fJ3_checkIndex_8e157_b9 p1 p2 h else if wr p1 < wr p2 then some p1 else fJ3_checkIndex_8e157_b9 p1 p2 h
def fJ0_checkIndex_df160 (p1 : Int) (p2 : Int) (h : HS) : Option (Unit) := (fJ3_checkIndex_8e157 p1 p2 h).bind fun r1 => some ()
def fJ1_charAt_3b067 (i1 : Nat) (p2 : Int) (h : HS) : Option (Int) := if i1 < 16 then (fJ0_checkIndex_df160 p2 (zln i1) h).bind fun r1 => if i1 < 16 ∧ 0 ≤ p2 ∧ p2 < zln i1 then if 0 ≤ (zi2c (zand (zbt i1 p2) 255)) ∧ (zi2c (zand (zbt i1 p2) 255)) < 65536 then some (zi2c (zand (zbt i1 p2) 255)) else none else none else none
def fJ0_charAt_5068e (i0 : Nat) (p1 : Int) (h : HS) : Option (Int) := if i0 < 16 then (fJ0_isLatin1_aae02 i0 h).bind fun r1 => if wr r1 = 0 then none else if i0 < 16 then (fJ1_charAt_3b067 i0 p1 h).bind fun r2 => if 0 ≤ r2 ∧ r2 < 65536 then some r2 else none else none else none
def fX6_fits (p1 : Int) (p2 : Int) (h : HS) : Option (Int) := if wr p2 = 102 then (fX6_isIn p1 97 104 h).bind fun r1 => if r1 = 0 ∨ r1 = 1 then some r1 else none else if wr p2 = 114 then (fX6_isIn p1 49 56 h).bind fun r2 => if r2 = 0 ∨ r2 = 1 then some r2 else none else if wr p2 = 120 then if wr p1 = (120 : Int) then some 1 else some 0 else if wr p1 = (43 : Int) then some 1 else if wr p1 = (35 : Int) then some 1 else some 0
def fX6_findForm_b145 (k35 : Int → Int → Int → HS → Option (Int × HS)) (x1 : Int) (x2 : Int) (x3 : Int) (h : HS) : Option (Int × HS) := k35 x1 x2 (x3 + 1) h
def fX6_findForm_b106 (k35 : Int → Int → Int → HS → Option (Int × HS)) (x1 : Int) (x2 : Int) (x3 : Int) (x4 : Int) (x5 : Int) (h : HS) : Option (Int × HS) := if wr x5 = wr x4 then if wr ((x1 + 1) + x4) = wr x2 then fX6_findForm_b145 k35 x1 x2 x3 (hs (hs h 30 21 (zmax (h 30 21) ((x1 + 1) + x5))) 30 18 x3) else fX6_findForm_b145 k35 x1 x2 x3 (hs h 30 21 (zmax (h 30 21) ((x1 + 1) + x5))) else fX6_findForm_b145 k35 x1 x2 x3 (hs h 30 21 (zmax (h 30 21) ((x1 + 1) + x5)))
def fX6_findForm_L56 (k35 : Int → Int → Int → HS → Option (Int × HS)) : Nat → Int → Int → Int → Int → Int → HS → Option (Int × HS)
  | 0, _, _, _, _, _, _ => none
  | nf + 1, x1, x2, x3, x4, x5, h => if wr x4 ≤ wr x5 then fX6_findForm_b106 k35 x1 x2 x3 x4 x5 h else if wr x2 ≤ wr ((x1 + 1) + x5) then fX6_findForm_b106 k35 x1 x2 x3 x4 x5 h else if (0 : Int) ≤ ((x1 + 1) + x5) ∧ ((x1 + 1) + x5) < 2000 then if (0 : Int) ≤ x3 ∧ x3 < 16 then if (Int.toNat x3) < 16 then (fJ0_charAt_5068e (Int.toNat x3) x5 h).bind fun r1 => (fX6_fits (h 39 ((x1 + 1) + x5)) r1 h).bind fun r2 => if wr r2 = 0 then fX6_findForm_b106 k35 x1 x2 x3 x4 x5 h else fX6_findForm_L56 k35 nf x1 x2 x3 x4 (x5 + 1) h else none else none else none
def fX6_findForm_L35 : Nat → Int → Int → Int → HS → Option (Int × HS)
  | 0, _, _, _, _ => none
  | nf + 1, x1, x2, x3, h => if (16 : Int) ≤ wr x3 then if wr (h 30 18) = ((-1) : Int) then some (0, h) else some (1, h) else if (0 : Int) ≤ x3 ∧ x3 < 16 then if (Int.toNat x3) < 16 then (fJ0_length_8abf5 (Int.toNat x3) h).bind fun r3 => fX6_findForm_L56 (fun a0 a1 a2 hh => fX6_findForm_L35 nf a0 a1 a2 hh) zF x1 x2 x3 r3 0 h else none else none
def fX6_findForm (p1 : Int) (p2 : Int) (h : HS) : Option (Int × HS) := if wr p1 = wr p2 then some (0, (hs (hs h 30 18 (-1)) 30 21 p1)) else if (0 : Int) ≤ p1 ∧ p1 < 2000 then (fX6_isIn (((hs (hs h 30 18 (-1)) 30 21 p1)) 39 p1) 65 90 (hs (hs h 30 18 (-1)) 30 21 p1)).bind fun r4 => if wr r4 = 0 then some (0, (hs (hs h 30 18 (-1)) 30 21 p1)) else fX6_findForm_L35 zF p1 p2 0 (hs (hs h 30 18 (-1)) 30 21 p1) else none
def fJ1_canEncode_9a6ad (p1 : Int) (h : HS) : Option (Int) := if wr p1 < 0 then some 0 else if (255 : Int) < wr p1 then some 0 else some 1
def fJ1_indexOfChar_4cfef_L7 : Nat → Nat → Int → Int → Int → HS → Option (Int)
  | 0, _, _, _, _, _ => none
  | nf + 1, x0, x3, x4, x5, h => if wr x3 ≤ wr x5 then some (-1) else if x0 < 16 ∧ 0 ≤ x5 ∧ x5 < zln x0 then if wr (zbt x0 x5) = wr x4 then some x5 else fJ1_indexOfChar_4cfef_L7 nf x0 x3 x4 (x5 + 1) h else none
def fJ1_indexOfChar_4cfef (i1 : Nat) (p2 : Int) (p3 : Int) (p4 : Int) (h : HS) : Option (Int) := fJ1_indexOfChar_4cfef_L7 zF i1 p4 (zi2b p2) p3 h
def fJ1_indexOf_4cfef (i1 : Nat) (p2 : Int) (p3 : Int) (p4 : Int) (h : HS) : Option (Int) := (fJ1_canEncode_9a6ad p2 h).bind fun r1 => if wr r1 = 0 then some (-1) else if i1 < 16 then if wr (zmax p3 0) < wr (zmin p4 (zln i1)) then (fJ1_indexOfChar_4cfef i1 p2 (zmax p3 0) (zmin p4 (zln i1)) h).bind fun r2 => some r2 else some (-1) else none
def fJ0_indexOf_7cf53 (i0 : Nat) (p1 : Int) (p2 : Int) (h : HS) : Option (Int) := if i0 < 16 then (fJ0_isLatin1_aae02 i0 h).bind fun r1 => if wr r1 = 0 then none else if i0 < 16 then if i0 < 16 then (fJ0_length_8abf5 i0 h).bind fun r2 => (fJ1_indexOf_4cfef i0 p1 p2 r2 h).bind fun r3 => some r3 else none else none else none
def fJ0_indexOf_0f7a4 (i0 : Nat) (p1 : Int) (h : HS) : Option (Int) := if i0 < 16 then (fJ0_indexOf_7cf53 i0 p1 0 h).bind fun r1 => some r1 else none
def fJ1_lastIndexOf_7d655_L18 : Nat → Nat → Int → Int → HS → Option (Int)
  | 0, _, _, _, _ => none
  | nf + 1, x0, x1, x3, h => if wr x3 < 0 then some (-1) else if x0 < 16 ∧ 0 ≤ x3 ∧ x3 < zln x0 then if wr (zbt x0 x3) = wr (zi2b x1) then some x3 else fJ1_lastIndexOf_7d655_L18 nf x0 x1 (x3 + (-1)) h else none
def fJ1_lastIndexOf_7d655 (i1 : Nat) (p2 : Int) (p3 : Int) (h : HS) : Option (Int) := (fJ1_canEncode_9a6ad p2 h).bind fun r1 => if wr r1 = 0 then some (-1) else if i1 < 16 then fJ1_lastIndexOf_7d655_L18 zF i1 p2 (zmin p3 ((zln i1) - 1)) h else none
def fJ0_lastIndexOf_7cf53 (i0 : Nat) (p1 : Int) (p2 : Int) (h : HS) : Option (Int) := if i0 < 16 then (fJ0_isLatin1_aae02 i0 h).bind fun r1 => if wr r1 = 0 then none else if i0 < 16 then (fJ1_lastIndexOf_7d655 i0 p1 p2 h).bind fun r2 => some r2 else none else none
def fJ0_lastIndexOf_0f7a4 (i0 : Nat) (p1 : Int) (h : HS) : Option (Int) := if i0 < 16 then (fJ0_length_8abf5 i0 h).bind fun r1 => if i0 < 16 then (fJ0_lastIndexOf_7cf53 i0 p1 (r1 - 1) h).bind fun r2 => some r2 else none else none
def fX6_early (p1 : Int) (p2 : Int) (h : HS) : Option (Int) := if (0 : Int) ≤ (h 30 18) ∧ (h 30 18) < 16 then if (Int.toNat (h 30 18)) < 16 then (fJ0_indexOf_0f7a4 (Int.toNat (h 30 18)) p2 h).bind fun r1 => if (Int.toNat (h 30 18)) < 16 then (fJ0_lastIndexOf_0f7a4 (Int.toNat (h 30 18)) p2 h).bind fun r2 => if wr r1 = wr r2 then some (-1) else if (0 : Int) ≤ ((p1 + 1) + r1) ∧ ((p1 + 1) + r1) < 2000 then some (h 39 ((p1 + 1) + r1)) else none else none else none else none
def fX6_late (p1 : Int) (p2 : Int) (h : HS) : Option (Int) := if (0 : Int) ≤ (h 30 18) ∧ (h 30 18) < 16 then if (Int.toNat (h 30 18)) < 16 then (fJ0_lastIndexOf_0f7a4 (Int.toNat (h 30 18)) p2 h).bind fun r1 => if 0 ≤ wr r1 then if (0 : Int) ≤ ((p1 + 1) + r1) ∧ ((p1 + 1) + r1) < 2000 then some (h 39 ((p1 + 1) + r1)) else none else some (-1) else none else none
def fX6_sign_b61 (x1 : Int) (x2 : Int) (x4 : Int) (s0 : Int) (h : HS) : Option (Int × HS) := if (0 : Int) ≤ x2 ∧ x2 < 64 then if (0 : Int) ≤ x1 ∧ x1 < 64 then if (0 : Int) ≤ x2 ∧ x2 < 64 then some (s0, (hs (hs h 35 x1 (h 35 x2)) 35 x2 x4)) else none else none else none
def fX6_sign (p1 : Int) (p2 : Int) (h : HS) : Option (Int × HS) := if (0 : Int) ≤ p1 ∧ p1 < 64 then (fX6_sideOf (h 35 p1) h).bind fun r1 => if (0 : Int) ≤ p2 ∧ p2 < 64 then (fX6_play p1 p2 h).bind fun r2 => (fX6_isChecked (1 - r1) r2).bind fun r3 => if wr r3 = 0 then fX6_sign_b61 p1 p2 (h 35 p2) (-1) r2 else (fX6_legalMoves (1 - r1) 1 r2).bind fun r4 => if wr r4.1 ≤ 0 then fX6_sign_b61 p1 p2 (h 35 p2) 35 r4.2 else fX6_sign_b61 p1 p2 (h 35 p2) 43 r4.2 else none else none
def fX6_readMove_b278 (x1 : Int) (s0 : Int) (s1 : Int) (h : HS) : Option (Int × HS) := if wr s0 = wr s1 then (fX6_late x1 115 h).bind fun r1 => (fX6_sign (h 30 19) (h 30 20) h).bind fun r2 => if wr r1 = wr r2.1 then some (0, r2.2) else some (7, r2.2) else some (6, h)
def fX6_readMove_b260 (x1 : Int) (s0 : Int) (h : HS) : Option (Int × HS) := if (0 : Int) ≤ (h 30 20) ∧ (h 30 20) < 64 then if wr (h 35 (h 30 20)) = ((-1) : Int) then fX6_readMove_b278 x1 s0 0 h else fX6_readMove_b278 x1 s0 1 h else none
def fX6_readMove_b212 (k89 : Int → Int → Int → Int → Int → Int → Int → HS → Option (Int × HS)) (x1 : Int) (x3 : Int) (x4 : Int) (x5 : Int) (x6 : Int) (x7 : Int) (x8 : Int) (h : HS) : Option (Int × HS) := k89 x1 x3 x4 x5 x6 x7 (x8 + 1) h
def fX6_readMove_b174 (k89 : Int → Int → Int → Int → Int → Int → Int → HS → Option (Int × HS)) (x1 : Int) (x3 : Int) (x4 : Int) (x5 : Int) (x6 : Int) (x7 : Int) (x8 : Int) (s0 : Int) (h : HS) : Option (Int × HS) := if wr s0 = 0 then fX6_readMove_b212 k89 x1 x3 x4 x5 x6 x7 x8 h else (fX6_isLegal x8 (h 30 20) h).bind fun r3 => if wr r3.1 = 0 then fX6_readMove_b212 k89 x1 x3 x4 x5 (x6 + 1) x7 x8 r3.2 else fX6_readMove_b212 k89 x1 x3 x4 x5 (x6 + 1) (x7 + 1) x8 (hs r3.2 30 19 x8)
def fX6_readMove_b173 (k89 : Int → Int → Int → Int → Int → Int → Int → HS → Option (Int × HS)) (x1 : Int) (x3 : Int) (x4 : Int) (x5 : Int) (x6 : Int) (x7 : Int) (x8 : Int) (h : HS) : Option (Int × HS) := fX6_readMove_b174 k89 x1 x3 x4 x5 x6 x7 x8 0 h
def fX6_readMove_b152 (k89 : Int → Int → Int → Int → Int → Int → Int → HS → Option (Int × HS)) (x1 : Int) (x3 : Int) (x4 : Int) (x5 : Int) (x6 : Int) (x7 : Int) (x8 : Int) (h : HS) : Option (Int × HS) := (fX6_reaches x8 (h 30 20) h).bind fun r4 => if wr r4 = 0 then fX6_readMove_b173 k89 x1 x3 x4 x5 x6 x7 x8 h else fX6_readMove_b174 k89 x1 x3 x4 x5 x6 x7 x8 1 h
def fX6_readMove_b133 (k89 : Int → Int → Int → Int → Int → Int → Int → HS → Option (Int × HS)) (x1 : Int) (x3 : Int) (x4 : Int) (x5 : Int) (x6 : Int) (x7 : Int) (x8 : Int) (h : HS) : Option (Int × HS) := if wr x5 = ((-1) : Int) then fX6_readMove_b152 k89 x1 x3 x4 x5 x6 x7 x8 h else if (0 : Int) ≤ x8 ∧ x8 < 2147483648 then if wr (x8 / 8) = wr (x5 - 49) then fX6_readMove_b152 k89 x1 x3 x4 x5 x6 x7 x8 h else fX6_readMove_b173 k89 x1 x3 x4 x5 x6 x7 x8 h else none
def fX6_readMove_L89 : Nat → Int → Int → Int → Int → Int → Int → Int → HS → Option (Int × HS)
  | 0, _, _, _, _, _, _, _, _ => none
  | nf + 1, x1, x3, x4, x5, x6, x7, x8, h => if (64 : Int) ≤ wr x8 then if wr x7 = (1 : Int) then (fX6_late x1 120 h).bind fun r5 => if wr r5 = ((-1) : Int) then fX6_readMove_b260 x1 0 h else fX6_readMove_b260 x1 1 h else if wr x6 = 0 then some (3, h) else if wr x7 = 0 then some (4, h) else some (5, h) else if (0 : Int) ≤ x8 ∧ x8 < 64 then (fX6_turn h).bind fun r6 => if wr (h 35 x8) = wr ((2 * x3) + r6) then if wr x4 = ((-1) : Int) then fX6_readMove_b133 (fun a0 a1 a2 a3 a4 a5 a6 hh => fX6_readMove_L89 nf a0 a1 a2 a3 a4 a5 a6 hh) x1 x3 x4 x5 x6 x7 x8 h else if (0 : Int) ≤ x8 ∧ x8 < 2147483648 then if wr (x8 % 8) = wr (x4 - 97) then fX6_readMove_b133 (fun a0 a1 a2 a3 a4 a5 a6 hh => fX6_readMove_L89 nf a0 a1 a2 a3 a4 a5 a6 hh) x1 x3 x4 x5 x6 x7 x8 h else fX6_readMove_b173 (fun a0 a1 a2 a3 a4 a5 a6 hh => fX6_readMove_L89 nf a0 a1 a2 a3 a4 a5 a6 hh) x1 x3 x4 x5 x6 x7 x8 h else none else fX6_readMove_b173 (fun a0 a1 a2 a3 a4 a5 a6 hh => fX6_readMove_L89 nf a0 a1 a2 a3 a4 a5 a6 hh) x1 x3 x4 x5 x6 x7 x8 h else none
def fX6_readMove (p1 : Int) (p2 : Int) (h : HS) : Option (Int × HS) := (fX6_findForm p1 p2 h).bind fun r7 => if wr r7.1 = 0 then some (1, r7.2) else if (0 : Int) ≤ p1 ∧ p1 < 2000 then (fX6_kindOf (((hs r7.2 30 21 p1)) 39 p1) (hs r7.2 30 21 p1)).bind fun r8 => if wr r8 = ((-1) : Int) then some (2, (hs r7.2 30 21 p1)) else (fX6_late p1 102 (hs r7.2 30 21 p1)).bind fun r9 => (fX6_late p1 114 (hs r7.2 30 21 p1)).bind fun r10 => (fX6_early p1 102 (hs (hs r7.2 30 21 p1) 30 20 ((r9 - 97) + (8 * (r10 - 49))))).bind fun r11 => (fX6_early p1 114 (hs (hs r7.2 30 21 p1) 30 20 ((r9 - 97) + (8 * (r10 - 49))))).bind fun r12 => fX6_readMove_L89 zF p1 r8 r11 r12 0 0 0 (hs (hs r7.2 30 21 p1) 30 20 ((r9 - 97) + (8 * (r10 - 49)))) else none
def fX6_read_b28 (x1 : Int) (s1 : Int) (h : HS) : Option (Int × HS) := if wr x1 = 0 then some (x1, (hs (hs (hs h 30 14 s1) 30 15 (((hs h 30 14 s1)) 30 19)) 30 16 (((hs (hs h 30 14 s1) 30 15 (((hs h 30 14 s1)) 30 19))) 30 20))) else some (x1, (hs h 30 14 s1))
def fX6_read (h : HS) : Option (Int × HS) := (fX6_readMove 0 (((hs h 30 0 0)) 30 13) (hs h 30 0 0)).bind fun r1 => if wr r1.1 = 0 then fX6_read_b28 r1.1 (-1) r1.2 else fX6_read_b28 r1.1 (r1.2 30 21) r1.2
def fX6_found (p1 : Int) (h : HS) : Option (Int × HS) := (fX6_isIn p1 0 2 (hs h 30 0 0)).bind fun r1 => if wr r1 = 0 then (fX6_fail 1 (hs h 30 0 0)).bind fun r2 => some (r2.1, r2.2) else if wr p1 = 0 then some ((((hs h 30 0 0)) 30 14), (hs h 30 0 0)) else if wr p1 = (1 : Int) then some ((((hs h 30 0 0)) 30 15), (hs h 30 0 0)) else some ((((hs h 30 0 0)) 30 16), (hs h 30 0 0))
def fX6_put__b23 (x1 : Int) (s1 : Int) (h : HS) : Option (HS) := if (s1 : Int) = 0 ∨ (s1 : Int) = 1 then if wr (((hs h 30 24 s1)) 30 24) = 0 then if (0 : Int) ≤ (((hs h 30 24 s1)) 30 23) ∧ (((hs h 30 24 s1)) 30 23) < 2000 then some (hs (hs (hs h 30 24 s1) 41 (((hs h 30 24 s1)) 30 23) x1) 30 23 ((((hs (hs h 30 24 s1) 41 (((hs h 30 24 s1)) 30 23) x1)) 30 23) + 1)) else none else some (hs h 30 24 s1) else none
def fX6_put__b18 (x1 : Int) (h : HS) : Option (HS) := fX6_put__b23 x1 1 h
def fX6_put_ (p1 : Int) (h : HS) : Option (HS) := if wr (h 30 24) = 0 then if wr (h 30 23) = (2000 : Int) then fX6_put__b18 p1 h else fX6_put__b23 p1 0 h else fX6_put__b18 p1 h
def fX6_putMove_b202 (x1 : Int) (x2 : Int) (h : HS) : Option (HS) := if (0 : Int) ≤ x2 ∧ x2 < 2147483648 then (fX6_put_ (97 + (x2 % 8)) h).bind fun r1 => if (0 : Int) ≤ x2 ∧ x2 < 2147483648 then (fX6_put_ (49 + (x2 / 8)) r1).bind fun r2 => (fX6_sign x1 x2 r2).bind fun r3 => if wr r3.1 = ((-1) : Int) then some r3.2 else (fX6_put_ r3.1 r3.2).bind fun r4 => some r4 else none else none
def fX6_putMove_b186 (x1 : Int) (x2 : Int) (h : HS) : Option (HS) := if (0 : Int) ≤ x2 ∧ x2 < 64 then if wr (h 35 x2) = ((-1) : Int) then fX6_putMove_b202 x1 x2 h else (fX6_put_ 120 h).bind fun r5 => fX6_putMove_b202 x1 x2 r5 else none
def fX6_putMove_b165 (x1 : Int) (x2 : Int) (x4 : Int) (x5 : Int) (h : HS) : Option (HS) := if wr x4 = 0 then fX6_putMove_b186 x1 x2 h else if wr x5 = 0 then fX6_putMove_b186 x1 x2 h else if (0 : Int) ≤ x1 ∧ x1 < 2147483648 then (fX6_put_ (49 + (x1 / 8)) h).bind fun r6 => fX6_putMove_b186 x1 x2 r6 else none
def fX6_putMove_b154 (x1 : Int) (x2 : Int) (x4 : Int) (x5 : Int) (h : HS) : Option (HS) := if (0 : Int) ≤ x1 ∧ x1 < 2147483648 then (fX6_put_ (97 + (x1 % 8)) h).bind fun r7 => fX6_putMove_b165 x1 x2 x4 x5 r7 else none
def fX6_putMove_b133 (k31 : Int → Int → Int → Int → Int → Int → Int → HS → Option (HS)) (x1 : Int) (x2 : Int) (x3 : Int) (x4 : Int) (x5 : Int) (x6 : Int) (x7 : Int) (h : HS) : Option (HS) := k31 x1 x2 x3 x4 x5 x6 (x7 + 1) h
def fX6_putMove_b131 (k31 : Int → Int → Int → Int → Int → Int → Int → HS → Option (HS)) (x1 : Int) (x2 : Int) (x3 : Int) (x4 : Int) (x5 : Int) (x7 : Int) (s0 : Int) (h : HS) : Option (HS) := fX6_putMove_b133 k31 x1 x2 x3 x4 x5 s0 x7 h
def fX6_putMove_b126 (k31 : Int → Int → Int → Int → Int → Int → Int → HS → Option (HS)) (x1 : Int) (x2 : Int) (x3 : Int) (x4 : Int) (x5 : Int) (x7 : Int) (h : HS) : Option (HS) := fX6_putMove_b131 k31 x1 x2 x3 x4 x5 x7 1 h
def fX6_putMove_b107 (k31 : Int → Int → Int → Int → Int → Int → Int → HS → Option (HS)) (x1 : Int) (x2 : Int) (x3 : Int) (x4 : Int) (x6 : Int) (x7 : Int) (s0 : Int) (h : HS) : Option (HS) := if wr x6 = 0 then if (0 : Int) ≤ x7 ∧ x7 < 2147483648 then if (0 : Int) ≤ x1 ∧ x1 < 2147483648 then if wr (x7 / 8) = wr (x1 / 8) then fX6_putMove_b126 k31 x1 x2 x3 x4 s0 x7 h else fX6_putMove_b131 k31 x1 x2 x3 x4 s0 x7 0 h else none else none else fX6_putMove_b126 k31 x1 x2 x3 x4 s0 x7 h
def fX6_putMove_b102 (k31 : Int → Int → Int → Int → Int → Int → Int → HS → Option (HS)) (x1 : Int) (x2 : Int) (x3 : Int) (x4 : Int) (x6 : Int) (x7 : Int) (h : HS) : Option (HS) := fX6_putMove_b107 k31 x1 x2 x3 x4 x6 x7 1 h
def fX6_putMove_L31 : Nat → Int → Int → Int → Int → Int → Int → Int → HS → Option (HS)
  | 0, _, _, _, _, _, _, _, _ => none
  | nf + 1, x1, x2, x3, x4, x5, x6, x7, h => if (64 : Int) ≤ wr x7 then if wr x4 = 0 then fX6_putMove_b165 x1 x2 x4 x5 h else if wr x5 = 0 then fX6_putMove_b154 x1 x2 x4 x5 h else if wr x6 = 0 then fX6_putMove_b165 x1 x2 x4 x5 h else fX6_putMove_b154 x1 x2 x4 x5 h else if wr x7 = wr x1 then fX6_putMove_b133 (fun a0 a1 a2 a3 a4 a5 a6 hh => fX6_putMove_L31 nf a0 a1 a2 a3 a4 a5 a6 hh) x1 x2 x3 x4 x5 x6 x7 h else if (0 : Int) ≤ x7 ∧ x7 < 64 then if wr (h 35 x7) = wr x3 then (fX6_reaches x7 x2 h).bind fun r8 => if wr r8 = 0 then fX6_putMove_b133 (fun a0 a1 a2 a3 a4 a5 a6 hh => fX6_putMove_L31 nf a0 a1 a2 a3 a4 a5 a6 hh) x1 x2 x3 x4 x5 x6 x7 h else (fX6_isLegal x7 x2 h).bind fun r9 => if wr r9.1 = 0 then fX6_putMove_b133 (fun a0 a1 a2 a3 a4 a5 a6 hh => fX6_putMove_L31 nf a0 a1 a2 a3 a4 a5 a6 hh) x1 x2 x3 x4 x5 x6 x7 r9.2 else if wr x5 = 0 then if (0 : Int) ≤ x7 ∧ x7 < 2147483648 then if (0 : Int) ≤ x1 ∧ x1 < 2147483648 then if wr (x7 % 8) = wr (x1 % 8) then fX6_putMove_b102 (fun a0 a1 a2 a3 a4 a5 a6 hh => fX6_putMove_L31 nf a0 a1 a2 a3 a4 a5 a6 hh) x1 x2 x3 1 x6 x7 r9.2 else fX6_putMove_b107 (fun a0 a1 a2 a3 a4 a5 a6 hh => fX6_putMove_L31 nf a0 a1 a2 a3 a4 a5 a6 hh) x1 x2 x3 1 x6 x7 0 r9.2 else none else none else fX6_putMove_b102 (fun a0 a1 a2 a3 a4 a5 a6 hh => fX6_putMove_L31 nf a0 a1 a2 a3 a4 a5 a6 hh) x1 x2 x3 1 x6 x7 r9.2 else fX6_putMove_b133 (fun a0 a1 a2 a3 a4 a5 a6 hh => fX6_putMove_L31 nf a0 a1 a2 a3 a4 a5 a6 hh) x1 x2 x3 x4 x5 x6 x7 h else none
def fX6_putMove (p1 : Int) (p2 : Int) (h : HS) : Option (HS) := if (0 : Int) ≤ p1 ∧ p1 < 64 then if (0 : Int) ≤ (h 35 p1) ∧ (h 35 p1) < 2147483648 then if (0 : Int) ≤ ((h 35 p1) / 2) ∧ ((h 35 p1) / 2) < 6 then (fX6_put_ (h 31 ((h 35 p1) / 2)) h).bind fun r10 => fX6_putMove_L31 zF p1 p2 (h 35 p1) 0 0 0 0 r10 else none else none else none
def fX6_toTape (h : HS) : Option (Int × HS) := if (0 : Int) ≤ 0 ∧ (0 : Int) ≤ 0 ∧ (0 : Int) ≤ (h 30 23) ∧ (0 : Int) + (h 30 23) ≤ 2000 ∧ (0 : Int) + (h 30 23) ≤ 2000 then some ((((hs (hcp h 41 0 39 0 (h 30 23)) 30 13 (((hcp h 41 0 39 0 (h 30 23))) 30 23))) 30 13), (hs (hcp h 41 0 39 0 (h 30 23)) 30 13 (((hcp h 41 0 39 0 (h 30 23))) 30 23))) else none
def fX6_write_b19 (h : HS) : Option (Int × HS) := (fX6_fail 1 h).bind fun r1 => some (r1.1, r1.2)
def fX6_write (p1 : Int) (p2 : Int) (h : HS) : Option (Int × HS) := (fX6_isSquare p1 (hs h 30 0 0)).bind fun r2 => if wr r2 = 0 then fX6_write_b19 (hs h 30 0 0) else (fX6_isSquare p2 (hs h 30 0 0)).bind fun r3 => if wr r3 = 0 then fX6_write_b19 (hs h 30 0 0) else (fX6_why p1 p2 (hs h 30 0 0)).bind fun r4 => if wr r4.1 = 0 then if (0 : Int) = 0 ∨ (0 : Int) = 1 then (fX6_putMove p1 p2 (hs (hs r4.2 30 23 0) 30 24 0)).bind fun r5 => (fX6_toTape r5).bind fun r6 => some (r6.1, r6.2) else none else (fX6_fail 2 r4.2).bind fun r7 => some (r7.1, r7.2)
def fX6_byteAt (p1 : Int) (h : HS) : Option (Int × HS) := (fX6_isIn p1 0 ((((hs h 30 0 0)) 30 13) - 1) (hs h 30 0 0)).bind fun r1 => if wr r1 = 0 then (fX6_fail 1 (hs h 30 0 0)).bind fun r2 => some (r2.1, r2.2) else if (0 : Int) ≤ p1 ∧ p1 < 2000 then some ((((hs h 30 0 0)) 39 p1), (hs h 30 0 0)) else none
def fX6_node_b31 (h : HS) : Option (Int × HS) := (fX6_fail 1 h).bind fun r1 => some (r1.1, r1.2)
def fX6_node (p1 : Int) (p2 : Int) (h : HS) : Option (Int × HS) := (fX6_isNode p1 (hs h 30 0 0)).bind fun r2 => if wr r2 = 0 then fX6_node_b31 (hs h 30 0 0) else (fX6_isIn p2 0 4 (hs h 30 0 0)).bind fun r3 => if wr r3 = 0 then fX6_node_b31 (hs h 30 0 0) else (fX6_get p1 p2 (hs h 30 0 0)).bind fun r4 => some (r4, (hs h 30 0 0))
def fX6_continuation_b38 (h : HS) : Option (Int × HS) := (fX6_fail 1 h).bind fun r1 => some (r1.1, r1.2)
def fX6_continuation (p1 : Int) (p2 : Int) (h : HS) : Option (Int × HS) := (fX6_isNode p1 (hs h 30 0 0)).bind fun r2 => if wr r2 = 0 then fX6_continuation_b38 (hs h 30 0 0) else (fX6_get p1 4 (hs h 30 0 0)).bind fun r3 => (fX6_isIn p2 0 (r3 - 1) (hs h 30 0 0)).bind fun r4 => if wr r4 = 0 then fX6_continuation_b38 (hs h 30 0 0) else (fX6_continuation0 p1 p2 (hs h 30 0 0)).bind fun r5 => some (r5, (hs h 30 0 0))
def fX6_goTo (p1 : Int) (h : HS) : Option (Int × HS) := (fX6_isNode p1 (hs h 30 0 0)).bind fun r1 => if wr r1 = 0 then (fX6_fail 1 (hs h 30 0 0)).bind fun r4 => some (r4.1, r4.2) else (fX6_set p1 (hs (hs h 30 0 0) 30 9 p1)).bind fun r2 => (fX6_turn r2).bind fun r3 => some (r3, r2)
def fX6_promote_L38 : Nat → Int → Int → Int → HS → Option (Int × HS)
  | 0, _, _, _, _ => none
  | nf + 1, x1, x2, x3, h => if (0 : Int) ≤ (x2 + x3) ∧ (x2 + x3) < 40000 then if wr (h 38 (x2 + x3)) = wr x1 then if (0 : Int) ≤ x2 ∧ (0 : Int) ≤ (x2 + 1) ∧ (0 : Int) ≤ x3 ∧ (x2 : Int) + x3 ≤ 40000 ∧ ((x2 + 1) : Int) + x3 ≤ 40000 then if (0 : Int) ≤ x2 ∧ x2 < 40000 then some (x3, (hs (hcp h 38 x2 38 (x2 + 1) x3) 38 x2 x1)) else none else none else fX6_promote_L38 nf x1 x2 (x3 + 1) h else none
def fX6_promote (p1 : Int) (h : HS) : Option (Int × HS) := (fX6_isIn p1 1 ((((hs h 30 0 0)) 30 8) - 1) (hs h 30 0 0)).bind fun r1 => if wr r1 = 0 then (fX6_fail 1 (hs h 30 0 0)).bind fun r3 => some (r3.1, r3.2) else (fX6_get p1 0 (hs h 30 0 0)).bind fun r2 => fX6_promote_L38 zF p1 (200 * r2) 0 (hs h 30 0 0)
def fX6_blank (h : HS) : Option (HS) := if wr (h 30 23) ≤ 0 then some h else if (0 : Int) ≤ ((h 30 23) - 1) ∧ ((h 30 23) - 1) < 2000 then if wr (h 41 ((h 30 23) - 1)) = (40 : Int) then some h else (fX6_put_ 32 h).bind fun r1 => some r1 else none
def fX6_putNode (p1 : Int) (h : HS) : Option (HS) := (fX6_get p1 0 h).bind fun r1 => (fX6_set r1 h).bind fun r2 => (fX6_blank r2).bind fun r3 => (fX6_get p1 1 r3).bind fun r4 => (fX6_get p1 2 r3).bind fun r5 => (fX6_putMove r4 r5 r3).bind fun r6 => some r6
def fX6_putBelow_b89 (kr : Int → HS → Option HS) (k2 : Int → HS → Option (HS)) (x2 : Int) (h : HS) : Option (HS) := (fX6_continuation0 x2 0 h).bind fun r1 => k2 r1 h
def fX6_putBelow_L30 (kr : Int → HS → Option HS) (k2 : Int → HS → Option (HS)) : Nat → Int → Int → HS → Option (HS)
  | 0, _, _, _ => none
  | nf + 1, x2, x3, h => (fX6_get x2 4 h).bind fun r2 => if wr r2 ≤ wr x3 then fX6_putBelow_b89 kr k2 x2 h else if wr (h 30 24) = 0 then (fX6_blank h).bind fun r3 => (fX6_put_ 40 r3).bind fun r4 => (fX6_continuation0 x2 x3 r4).bind fun r5 => (fX6_putNode r5 r4).bind fun r6 => (fX6_continuation0 x2 x3 r6).bind fun r7 => (kr r7 r6).bind fun r8 => (fX6_put_ 41 r8).bind fun r9 => fX6_putBelow_L30 kr k2 nf x2 (x3 + 1) r9 else fX6_putBelow_b89 kr k2 x2 h
def fX6_putBelow_L2 (kr : Int → HS → Option HS) : Nat → Int → HS → Option (HS)
  | 0, _, _ => none
  | nf + 1, x2, h => (fX6_get x2 4 h).bind fun r10 => if wr r10 ≤ 0 then some h else if wr (h 30 24) = 0 then (fX6_continuation0 x2 0 h).bind fun r11 => (fX6_putNode r11 h).bind fun r12 => fX6_putBelow_L30 kr (fun a0 hh => fX6_putBelow_L2 kr nf a0 hh) zF x2 1 r12 else some h
def fX6_putBelow_c (kr : Int → HS → Option HS) (p1 : Int) (h : HS) : Option (HS) := fX6_putBelow_L2 kr zF p1 h
def fX6_putBelow : Nat → Int → HS → Option HS
  | 0, _, _ => none
  | d + 1, p1, h => fX6_putBelow_c (fun a hh => fX6_putBelow d a hh) p1 h
def fX6_writeGame (h : HS) : Option (Int × HS) := if (0 : Int) = 0 ∨ (0 : Int) = 1 then (fX6_putBelow 201 0 (hs (hs (hs h 30 0 0) 30 23 0) 30 24 0)).bind fun r1 => (fX6_set (r1 30 9) r1).bind fun r2 => if wr (r2 30 24) = 0 then (fX6_toTape r2).bind fun r3 => some (r3.1, r3.2) else (fX6_fail 1 r2).bind fun r4 => some (r4.1, r4.2) else none
def fX6_clearNodes (h : HS) : Option (HS) := if (0 : Int) ≤ 4 ∧ 4 < 1000 then (fX6_set 0 (hs (hs (hs h 30 8 1) 37 4 0) 30 9 0)).bind fun r1 => some r1 else none
def fX6_stop (p1 : Int) (p2 : Int) (h : HS) : Option (Int × HS) := some (p1, (hs h 30 14 p2))
def fX6_isWord (p1 : Int) (h : HS) : Option (Int) := if wr (h 30 13) ≤ wr p1 then some 0 else if (0 : Int) ≤ p1 ∧ p1 < 2000 then if wr (h 39 p1) = (32 : Int) then some 0 else if (0 : Int) ≤ p1 ∧ p1 < 2000 then if wr (h 39 p1) = (40 : Int) then some 0 else if (0 : Int) ≤ p1 ∧ p1 < 2000 then if wr (h 39 p1) = (41 : Int) then some 0 else some 1 else none else none else none
def fX6_playOn_k (p1 : Int) (p2 : Int) (h : HS) : Option (HS) := (fX6_known p1 p2 h).bind fun r1 => if wr r1 = ((-1) : Int) then none else (fX6_play p1 p2 (hs h 30 9 r1)).bind fun r2 => some r2
def zk (h : HS) : Nat := (h 30 8 - 1).toNat
def fX6_readGame_b267 (h : HS) : Option (Int × HS) := if 1 ≤ h 30 8 ∧ h 30 8 ≤ 200 then (fX6_stop 8 (h 30 13) h).bind fun r1 => some (r1.1, r1.2) else none
def fX6_readGame_b242 (k20 : Int → Int → Int → HS → Option (Int × HS)) (x1 : Int) (x3 : Int) (h : HS) : Option (Int × HS) := if 1 ≤ h 30 8 ∧ h 30 8 ≤ 200 then (fX6_known (h 30 19) (h 30 20) h).bind fun rk => if wr rk = -1 then (if (zk h) + 1 ≤ 199 then (fX6_playOn (h 30 19) (h 30 20) h).bind fun r2 => if ((zk h) + 1) ≤ zk r2 then k20 x1 0 x3 r2 else none else none) else (fX6_playOn_k (h 30 19) (h 30 20) h).bind fun r2 => if (zk h) ≤ zk r2 then k20 x1 0 x3 r2 else none else none
def fX6_readGame_L170 (k20 : Int → Int → Int → HS → Option (Int × HS)) : Nat → Int → Int → Int → HS → Option (Int × HS)
  | 0, _, _, _, _ => none
  | nf + 1, x1, x3, x4, h => if 1 ≤ h 30 8 ∧ h 30 8 ≤ 200 then (fX6_isWord x3 h).bind fun r3 => if wr r3 = 0 then (fX6_readMove x4 x3 h).bind fun r4 => if wr r4.1 = 0 then if wr (r4.2 30 8) = (200 : Int) then (fX6_known (r4.2 30 19) (r4.2 30 20) r4.2).bind fun r5 => if wr r5 = ((-1) : Int) then (fX6_stop 9 x4 r4.2).bind fun r6 => some (r6.1, r6.2) else if (zk h) ≤ zk r4.2 then fX6_readGame_b242 k20 x1 x3 r4.2 else none else if (zk h) ≤ zk r4.2 then fX6_readGame_b242 k20 x1 x3 r4.2 else none else (fX6_stop r4.1 x4 r4.2).bind fun r7 => some (r7.1, r7.2) else if (zk h) ≤ zk h then fX6_readGame_L170 k20 nf x1 (x3 + 1) x4 h else none else none
def fX6_readGame_b125 (x4 : Int) (h : HS) : Option (Int × HS) := if 1 ≤ h 30 8 ∧ h 30 8 ≤ 200 then (fX6_stop 8 x4 h).bind fun r8 => some (r8.1, r8.2) else none
def fX6_readGame_b57 (x4 : Int) (h : HS) : Option (Int × HS) := if 1 ≤ h 30 8 ∧ h 30 8 ≤ 200 then (fX6_stop 8 x4 h).bind fun r9 => some (r9.1, r9.2) else none
def fX6_readGame_L20 : Nat → Int → Int → Int → HS → Option (Int × HS)
  | 0, _, _, _, _ => none
  | nf + 1, x1, x2, x3, h => if 1 ≤ h 30 8 ∧ h 30 8 ≤ 200 then if wr (h 30 13) ≤ wr x3 then if wr x2 = 0 then if wr x1 ≤ 0 then some (0, h) else if (zk h) ≤ zk h then fX6_readGame_b267 h else none else if (zk h) ≤ zk h then fX6_readGame_b267 h else none else if (0 : Int) ≤ x3 ∧ x3 < 2000 then if wr (h 39 x3) = (40 : Int) then if wr x2 = 0 then if wr (h 30 9) = 0 then if (zk h) ≤ zk h then fX6_readGame_b57 x3 h else none else if (0 : Int) ≤ x1 ∧ x1 < 2000 then (fX6_get (((hs h 42 x1 (h 30 9))) 30 9) 0 (hs h 42 x1 (h 30 9))).bind fun r11 => (fX6_set (((hs (hs h 42 x1 (h 30 9)) 30 9 r11)) 30 9) (hs (hs h 42 x1 (h 30 9)) 30 9 r11)).bind fun r12 => if (zk h) ≤ zk r12 then fX6_readGame_L20 nf (x1 + 1) 1 (x3 + 1) r12 else none else none else if (zk h) ≤ zk h then fX6_readGame_b57 x3 h else none else if (0 : Int) ≤ x3 ∧ x3 < 2000 then if wr (h 39 x3) = (41 : Int) then if wr x2 = 0 then if wr x1 = 0 then if (zk h) ≤ zk h then fX6_readGame_b125 x3 h else none else if (0 : Int) ≤ (x1 + (-1)) ∧ (x1 + (-1)) < 2000 then (fX6_set (((hs h 30 9 (h 42 (x1 + (-1))))) 30 9) (hs h 30 9 (h 42 (x1 + (-1))))).bind fun r10 => if (zk h) ≤ zk r10 then fX6_readGame_L20 nf (x1 + (-1)) x2 (x3 + 1) r10 else none else none else if (zk h) ≤ zk h then fX6_readGame_b125 x3 h else none else if (0 : Int) ≤ x3 ∧ x3 < 2000 then if wr (h 39 x3) = (32 : Int) then if (zk h) ≤ zk h then fX6_readGame_L20 nf x1 x2 (x3 + 1) h else none else if (zk h) ≤ zk h then fX6_readGame_L170 (fun a0 a1 a2 hh => fX6_readGame_L20 nf a0 a1 a2 hh) zF x1 (x3 + 1) x3 h else none else none else none else none else none
def fX6_readGame (h : HS) : Option (Int × HS) := (fX6_clearNodes (hs h 30 0 0)).bind fun r13 => if 0 ≤ zk (hs r13 30 14 (-1)) then fX6_readGame_L20 zF 0 0 0 (hs r13 30 14 (-1)) else none
def fX6_clear (h : HS) : Option (Int × HS) := (fX6_clearNodes (hs h 30 0 0)).bind fun r1 => some ((((hs h 30 0 0)) 30 8), r1)
def fX6_digest_L147 : Nat → Int64 → Int → HS → Option (Int64 × HS)
  | 0, _, _, _ => none
  | nf + 1, x1, x3, h => if wr (h 30 13) ≤ wr x3 then some (x1, h) else if (0 : Int) ≤ x3 ∧ x3 < 2000 then fX6_digest_L147 nf ((x1 * (31 : Int64)) + (iI (h 39 x3)).toInt64) (x3 + 1) h else none
def fX6_digest_L107 (k66 : Int64 → Int → HS → Option (Int64 × HS)) : Nat → Int64 → Int → Int → HS → Option (Int64 × HS)
  | 0, _, _, _, _ => none
  | nf + 1, x1, x3, x4, h => (fX6_get x3 4 h).bind fun r1 => if wr r1 ≤ wr x4 then k66 x1 (x3 + 1) h else (fX6_continuation0 x3 x4 h).bind fun r2 => fX6_digest_L107 k66 nf ((x1 * (31 : Int64)) + (iI r2).toInt64) x3 (x4 + 1) h
def fX6_digest_L77 (k66 : Int64 → Int → HS → Option (Int64 × HS)) : Nat → Int64 → Int → Int → HS → Option (Int64 × HS)
  | 0, _, _, _, _ => none
  | nf + 1, x1, x3, x4, h => if (5 : Int) ≤ wr x4 then fX6_digest_L107 k66 zF x1 x3 0 h else (fX6_get x3 x4 h).bind fun r3 => fX6_digest_L77 k66 nf ((x1 * (31 : Int64)) + (iI r3).toInt64) x3 (x4 + 1) h
def fX6_digest_L66 : Nat → Int64 → Int → HS → Option (Int64 × HS)
  | 0, _, _, _ => none
  | nf + 1, x1, x3, h => if wr (h 30 8) ≤ wr x3 then fX6_digest_L147 zF x1 0 h else fX6_digest_L77 (fun a0 a1 hh => fX6_digest_L66 nf a0 a1 hh) zF x1 x3 0 h
def fX6_digest_L38 : Nat → Int64 → Int → HS → Option (Int64 × HS)
  | 0, _, _, _ => none
  | nf + 1, x1, x3, h => if (64 : Int) ≤ wr x3 then fX6_digest_L66 zF x1 0 h else if (0 : Int) ≤ x3 ∧ x3 < 64 then fX6_digest_L38 nf ((x1 * (31 : Int64)) + (iI (h 35 x3)).toInt64) (x3 + 1) h else none
def fX6_digest_L11 : Nat → Int64 → Int → HS → Option (Int64 × HS)
  | 0, _, _, _ => none
  | nf + 1, x1, x3, h => if (7 : Int) ≤ wr x3 then fX6_digest_L38 zF x1 0 h else (fX6_stateTold x3 h).bind fun r4 => fX6_digest_L11 nf ((x1 * (31 : Int64)) + (iI r4.1).toInt64) (x3 + 1) r4.2
def fX6_digest (h : HS) : Option (Int64 × HS) := fX6_digest_L11 zF (353 : Int64) 0 (hs h 30 0 0)
def fX5_addKind_b24 (h : HS) : Option (Int × Int × HS) := some (2, 0, h)
def fX5_addKind_b57 (h : HS) : Option (Int × Int × HS) := some (3, 0, h)
def fX5_addKind (p1 : Int) (h : HS) : Option (Int × Int × HS) := if wr p1 < (65 : Int) then fX5_addKind_b24 h else if (90 : Int) < wr p1 then fX5_addKind_b24 h else (fX1_withLetter p1 h).bind fun r1 => if wr r1 = ((-1) : Int) then (fX1_size h).bind fun r2 => if (6 : Int) ≤ wr r2 then fX5_addKind_b57 h else (fX4_size h).bind fun r3 => if wr r3 ≤ (1 : Int) then (fX1_include p1 h).bind fun r4 => some (0, r4.1, r4.2) else fX5_addKind_b57 h else fX5_addKind_b24 h
def fX5_addStep_b42 (h : HS) : Option (Int × Int × HS) := some (2, 0, h)
def fX5_addStep_b76 (h : HS) : Option (Int × Int × HS) := some (3, 0, h)
def fX5_addStep (p1 : Int) (p2 : Int) (p3 : Int) (p4 : Int) (h : HS) : Option (Int × Int × HS) := (fX1_has p1 h).bind fun r1 => if wr r1 = 0 then some (1, 0, h) else (fX5_isStep p2 p3 h).bind fun r2 => if wr r2 = 0 then fX5_addStep_b42 h else if wr p4 < (1 : Int) then fX5_addStep_b42 h else if wr p4 ≤ (7 : Int) then (fX1_stepCount p1 h).bind fun r3 => if (8 : Int) ≤ wr r3 then fX5_addStep_b76 h else (fX4_size h).bind fun r4 => if wr r4 ≤ (1 : Int) then (fX1_includeStep p1 p2 p3 p4 h).bind fun r5 => some (0, r5.1, r5.2) else fX5_addStep_b76 h else fX5_addStep_b42 h
def fX5_put_b23 (h : HS) : Option (Int × Int × HS) := some (1, 0, h)
def fX5_put_b92 (s1 : Int) (s2 : Int) (h : HS) : Option (Int × Int × HS) := (fX0_replace s1 s2 h).bind fun r1 => some (0, r1.1, r1.2)
def fX5_put_b52 (x1 : Int) (x2 : Int) (x3 : Int) (h : HS) : Option (Int × Int × HS) := (fX4_size h).bind fun r2 => if wr r2 ≤ (1 : Int) then if wr x2 = ((-1) : Int) then fX5_put_b92 x1 (-1) h else fX5_put_b92 x1 ((2 * x2) + x3) h else some (3, 0, h)
def fX5_put_b33 (x1 : Int) (x2 : Int) (x3 : Int) (h : HS) : Option (Int × Int × HS) := if wr x3 = 0 then fX5_put_b52 x1 x2 x3 h else if wr x3 = (1 : Int) then fX5_put_b52 x1 x2 x3 h else some (2, 0, h)
def fX5_put (p1 : Int) (p2 : Int) (p3 : Int) (h : HS) : Option (Int × Int × HS) := (fX5_isSquare p1 h).bind fun r3 => if wr r3 = 0 then fX5_put_b23 h else if wr p2 = ((-1) : Int) then fX5_put_b33 p1 p2 p3 h else (fX1_has p2 h).bind fun r4 => if wr r4 = 0 then fX5_put_b23 h else fX5_put_b33 p1 p2 p3 h
def fX5_at (p1 : Int) (h : HS) : Option (Int × Int × HS) := (fX5_isSquare p1 h).bind fun r1 => if wr r1 = 0 then some (1, 0, h) else (fX0_pieceOn p1 h).bind fun r2 => some (0, r2, h)
def fX5_state (p1 : Int) (h : HS) : Option (Int × Int × HS) := if wr p1 = 0 then (fX5_turn h).bind fun r1 => some (0, r1, h) else if wr p1 = 1 then (fX5_turn h).bind fun r2 => (fX0_inCheck r2 h).bind fun r3 => if wr r3 = 0 then some (0, 0, h) else some (0, 1, h) else if wr p1 = 2 then (fX5_turn h).bind fun r4 => (fX0_countLegalMoves r4 4096 h).bind fun r5 => some (0, r5.1, r5.2) else if wr p1 = 3 then some (0, (h 0 8), h) else if wr p1 = 4 then (fX4_size h).bind fun r6 => some (0, r6, h) else if wr p1 = 5 then (fX1_size h).bind fun r7 => some (0, r7, h) else if wr p1 = 6 then (fX3_size h).bind fun r8 => some (0, r8, h) else some (1, 0, h)
def fX5_reason_b14 (h : HS) : Option (Int × Int × HS) := some (1, 0, h)
def fX5_reason (p1 : Int) (p2 : Int) (h : HS) : Option (Int × Int × HS) := (fX5_isSquare p1 h).bind fun r1 => if wr r1 = 0 then fX5_reason_b14 h else (fX5_isSquare p2 h).bind fun r2 => if wr r2 = 0 then fX5_reason_b14 h else (fX5_reasonAgainst p1 p2 h).bind fun r3 => some (0, r3.1, r3.2)
def fX5_play_b14 (h : HS) : Option (Int × Int × HS) := some (1, 0, h)
def fX5_play (p1 : Int) (p2 : Int) (h : HS) : Option (Int × Int × HS) := (fX5_isSquare p1 h).bind fun r1 => if wr r1 = 0 then fX5_play_b14 h else (fX5_isSquare p2 h).bind fun r2 => if wr r2 = 0 then fX5_play_b14 h else (fX5_reasonAgainst p1 p2 h).bind fun r3 => if wr r3.1 = 0 then (fX5_follow p1 p2 r3.2).bind fun r4 => if wr r4.1 = 0 then some (3, 0, r4.2) else some (0, (r4.2 0 8), r4.2) else some (3, 0, r3.2)
def fX5_feed_b33 (h : HS) : Option (Int × Int × HS) := some (2, 0, h)
def fX5_feed (p1 : Int) (p2 : Int) (p3 : Int) (p4 : Int) (h : HS) : Option (Int × Int × HS) := if wr p1 < 0 then fX5_feed_b33 h else if (255 : Int) < wr p1 then fX5_feed_b33 h else (fX5_isByteOrNothing p2 h).bind fun r1 => if wr r1 = 0 then fX5_feed_b33 h else (fX5_isByteOrNothing p3 h).bind fun r2 => if wr r2 = 0 then fX5_feed_b33 h else (fX5_isByteOrNothing p4 h).bind fun r3 => if wr r3 = 0 then fX5_feed_b33 h else (fX5_countByte p2 h).bind fun r4 => (fX5_countByte p3 h).bind fun r5 => (fX5_countByte p4 h).bind fun r6 => (fX3_size h).bind fun r7 => if wr (r7 + (((1 + r4) + r5) + r6)) ≤ (2000 : Int) then (fX3_append p1 h).bind fun r8 => (fX5_appendUnlessNothing p2 r8).bind fun r9 => (fX5_appendUnlessNothing p3 r9).bind fun r10 => (fX5_appendUnlessNothing p4 r10).bind fun r11 => (fX3_size r11).bind fun r12 => some (0, r12, r11) else some (3, 0, h)
def fX5_found (p1 : Int) (h : HS) : Option (Int × Int × HS) := if wr p1 = 0 then some (0, (h 0 13), h) else if wr p1 = 1 then some (0, (h 0 14), h) else if wr p1 = 2 then some (0, (h 0 15), h) else some (1, 0, h)
def fX5_write_b14 (h : HS) : Option (Int × Int × HS) := some (1, 0, h)
def fX5_write (p1 : Int) (p2 : Int) (h : HS) : Option (Int × Int × HS) := (fX5_isSquare p1 h).bind fun r1 => if wr r1 = 0 then fX5_write_b14 h else (fX5_isSquare p2 h).bind fun r2 => if wr r2 = 0 then fX5_write_b14 h else (fX5_reasonAgainst p1 p2 h).bind fun r3 => if wr r3.1 = 0 then (fX3_wipe r3.2).bind fun r4 => (fX5_writeMove p1 p2 r4).bind fun r5 => (fX3_size r5).bind fun r6 => some (0, r6, r5) else some (3, 0, r3.2)
def fX5_byteAt_b15 (h : HS) : Option (Int × Int × HS) := some (1, 0, h)
def fX5_byteAt (p1 : Int) (h : HS) : Option (Int × Int × HS) := if wr p1 < 0 then fX5_byteAt_b15 h else (fX3_size h).bind fun r1 => if wr p1 < wr r1 then (fX3_get p1 h).bind fun r2 => some (0, r2, h) else fX5_byteAt_b15 h
def fX5_node_b20 (h : HS) : Option (Int × Int × HS) := some (1, 0, h)
def fX5_node (p1 : Int) (p2 : Int) (h : HS) : Option (Int × Int × HS) := (fX4_has p1 h).bind fun r1 => if wr r1 = 0 then fX5_node_b20 h else if wr p2 < 0 then fX5_node_b20 h else if wr p2 < (5 : Int) then (fX4_fact p1 p2 h).bind fun r2 => some (0, r2, h) else fX5_node_b20 h
def fX5_continuation_b27 (h : HS) : Option (Int × Int × HS) := some (1, 0, h)
def fX5_continuation (p1 : Int) (p2 : Int) (h : HS) : Option (Int × Int × HS) := (fX4_has p1 h).bind fun r1 => if wr r1 = 0 then fX5_continuation_b27 h else if wr p2 < 0 then fX5_continuation_b27 h else (fX4_childCount p1 h).bind fun r2 => if wr p2 < wr r2 then (fX4_child p1 p2 h).bind fun r3 => some (0, r3, h) else fX5_continuation_b27 h
def fX5_goTo (p1 : Int) (h : HS) : Option (Int × Int × HS) := (fX4_has p1 h).bind fun r1 => if wr r1 = 0 then some (1, 0, h) else (fX5_visit p1 h).bind fun r2 => (fX5_turn r2).bind fun r3 => some (0, r3, r2)
def fX5_promote_b15 (h : HS) : Option (Int × Int × HS) := some (1, 0, h)
def fX5_promote (p1 : Int) (h : HS) : Option (Int × Int × HS) := (fX4_has p1 h).bind fun r1 => if wr r1 = 0 then fX5_promote_b15 h else if wr p1 = 0 then fX5_promote_b15 h else (fX4_makeMain p1 h).bind fun r2 => some (0, r2.1, r2.2)
def fX5_state_x (p1 : Int) (h : HS) : Option (Int × HS) := if wr p1 = 0 then (fX5_turn h).bind fun r1 => some (r1, h) else if wr p1 = 1 then (fX5_turn h).bind fun r2 => (fX0_inCheck r2 h).bind fun r3 => if wr r3 = 0 then some (0, h) else some (1, h) else if wr p1 = 2 then (fX5_turn h).bind fun r4 => (fX0_countLegalMoves r4 4096 h).bind fun r5 => some (r5.1, r5.2) else if wr p1 = 3 then some ((h 0 8), h) else if wr p1 = 4 then (fX4_size h).bind fun r6 => some (r6, h) else if wr p1 = 5 then (fX1_size h).bind fun r7 => some (r7, h) else if wr p1 = 6 then (fX3_size h).bind fun r8 => some (r8, h) else none
def fX5_digest_L89 : Nat → Int64 → Int → HS → Option (Int64 × HS)
  | 0, _, _, _ => none
  | nf + 1, x1, x3, h => (fX3_size h).bind fun r1 => if wr r1 ≤ wr x3 then some (x1, h) else (fX3_get x3 h).bind fun r2 => fX5_digest_L89 nf ((x1 * (31 : Int64)) + (iI r2).toInt64) (x3 + 1) h
def fX5_digest_L63 : Nat → Int64 → Int → HS → Option (Int64 × HS)
  | 0, _, _, _ => none
  | nf + 1, x1, x3, h => (fX4_size h).bind fun r3 => if wr r3 ≤ wr x3 then fX5_digest_L89 zF x1 0 h else (fX5_digestNode x1 x3 h).bind fun r4 => fX5_digest_L63 nf r4 (x3 + 1) h
def fX5_digest_L33 : Nat → Int64 → Int → HS → Option (Int64 × HS)
  | 0, _, _, _ => none
  | nf + 1, x1, x3, h => if (64 : Int) ≤ wr x3 then fX5_digest_L63 zF x1 0 h else (fX0_pieceOn x3 h).bind fun r5 => fX5_digest_L33 nf ((x1 * (31 : Int64)) + (iI r5).toInt64) (x3 + 1) h
def fX5_digest_L6 : Nat → Int64 → Int → HS → Option (Int64 × HS)
  | 0, _, _, _ => none
  | nf + 1, x1, x3, h => if (7 : Int) ≤ wr x3 then fX5_digest_L33 zF x1 0 h else (fX5_state_x x3 h).bind fun r6 => fX5_digest_L6 nf ((x1 * (31 : Int64)) + (iI r6.1).toInt64) (x3 + 1) r6.2
def fX5_digest (h : HS) : Option (Int64 × HS) := fX5_digest_L6 zF (353 : Int64) 0 h
def fX5_writeGame_b105 (x1 : Int) (h : HS) : Option (Int × Int × HS) := (fX5_visit x1 h).bind fun r1 => (fX3_hasSpilled_d r1).bind fun r2 => if wr r2 = 0 then (fX3_size_d r1).bind fun r3 => some (0, r3, (hsw r1)) else some (3, 0, r1)
def fX5_writeGame_b91 (k21 : Int → Int → Int → HS → Option (Int × Int × HS)) (x1 : Int) (x2 : Int) (x3 : Int) (x4 : Int) (h : HS) : Option (Int × Int × HS) := (fX5_goOn x2 x4 h).bind fun r4 => k21 x1 r4.1 (x3 + 1) r4.2
def fX5_writeGame_L21 : Nat → Int → Int → Int → HS → Option (Int × Int × HS)
  | 0, _, _, _, _ => none
  | nf + 1, x1, x2, x3, h => if (800 : Int) ≤ wr x3 then fX5_writeGame_b105 x1 h else if wr x2 = ((-1) : Int) then fX5_writeGame_b105 x1 h else (fX4_child (h 0 8) x2 h).bind fun r5 => if wr r5 = ((-1) : Int) then fX5_writeGame_b91 (fun a0 a1 a2 hh => fX5_writeGame_L21 nf a0 a1 a2 hh) x1 x2 x3 r5 h else (fX5_writeOpening x2 h).bind fun r6 => (fX3_separate_d r6).bind fun r7 => (fX4_from r5 r7).bind fun r8 => (fX4_to r5 r7).bind fun r9 => (fX5_writeMove_d r8 r9 r7).bind fun r10 => fX5_writeGame_b91 (fun a0 a1 a2 hh => fX5_writeGame_L21 nf a0 a1 a2 hh) x1 x2 x3 r5 r10
def fX5_writeGame (h : HS) : Option (Int × Int × HS) := (fX5_visit 0 h).bind fun r11 => (fX3_wipe_d r11).bind fun r12 => fX5_writeGame_L21 zF (h 0 8) 0 0 r12
def fX5_branching_b29 (k4 : Int → Int → HS → Option (Int × Int × Int)) (x1 : Int) (x2 : Int) (h : HS) : Option (Int × Int × Int) := k4 x1 (x2 + 1) h
def fX5_branching_L4 : Nat → Int → Int → HS → Option (Int × Int × Int)
  | 0, _, _, _ => none
  | nf + 1, x1, x2, h => (fX4_size h).bind fun r1 => if wr r1 ≤ wr x2 then if wr x1 = 0 then some (0, 0, 0) else (fX4_size h).bind fun r2 => some (1, (r2 - 1), x1) else (fX4_childCount x2 h).bind fun r3 => if wr r3 ≤ 0 then fX5_branching_b29 (fun a0 a1 hh => fX5_branching_L4 nf a0 a1 hh) x1 x2 h else fX5_branching_b29 (fun a0 a1 hh => fX5_branching_L4 nf a0 a1 hh) (x1 + 1) x2 h
def fX5_branching (h : HS) : Option (Int × Int × Int) := fX5_branching_L4 zF 0 0 h
def fX6_branching_b43 (k11 : Int → Int → Int → HS → Option ((Int × Int × Int) × HS)) (x1 : Int) (x3 : Int) (s0 : Int) (s1 : Int) (h : HS) : Option ((Int × Int × Int) × HS) := k11 x1 (s0 + s1) (x3 + 1) h
def fX6_branching_L11 : Nat → Int → Int → Int → HS → Option ((Int × Int × Int) × HS)
  | 0, _, _, _, _ => none
  | nf + 1, x1, x2, x3, h => if wr (h 30 8) ≤ wr x3 then if wr x2 = 0 then some ((0, 0, 0), h) else some ((1, x1, x2), h) else (fX6_get x3 4 h).bind fun r1 => (fX6_get x3 4 h).bind fun r2 => if wr r2 ≤ 0 then fX6_branching_b43 (fun a0 a1 a2 hh => fX6_branching_L11 nf a0 a1 a2 hh) (x1 + r1) x3 x2 0 h else fX6_branching_b43 (fun a0 a1 a2 hh => fX6_branching_L11 nf a0 a1 a2 hh) (x1 + r1) x3 x2 1 h
def fX6_branching (h : HS) : Option ((Int × Int × Int) × HS) := fX6_branching_L11 zF 0 0 0 (hs h 30 0 0)
def fJ7_fill_53178_L5 : Nat → Int → Int → Int → HS → Option (HS)
  | 0, _, _, _, _ => none
  | nf + 1, x1, x2, x3, h => if wr x3 ≤ wr x2 then some h else if (0 : Int) ≤ x2 ∧ x2 < 64 then fJ7_fill_53178_L5 nf x1 (x2 + 1) x3 (hs h 8 x2 x1) else none
def fJ7_fill_53178 (p2 : Int) (h : HS) : Option (HS) := fJ7_fill_53178_L5 zF p2 0 64 h
def fX1_init (h : HS) : Option HS := some (hs (hz (hz (hz (hz (hz h 2) 3) 4) 5) 6) 1 5 0)
def fX0_init (h : HS) : Option HS := (fJ7_fill_53178 (-1) (hz h 8)).bind fun r2 => some r2
def fX4_init (h : HS) : Option HS := (fX4_occupy (-1) (-1) (-1) 0 (hs (hz (hz (hz (hz (hz (hz (hz (hz h 10) 11) 12) 13) 14) 15) 16) 17) 9 8 0)).bind fun r9 => some r9.2
def fX2_init (h : HS) : Option HS := some (hs (hs (hs (hs (hs (hs (hs (hs h 18 0 (-1)) 18 1 (-1)) 18 2 (-1)) 18 3 (-1)) 18 4 (-1)) 18 5 (-1)) 18 6 (-1)) 18 7 0)
def fX3_init (h : HS) : Option HS := some (hs (hs (hz h 20) 19 1 0) 19 2 0)
def fX3_init_d (h : HS) : Option HS := some (hs (hs (hz h 22) 21 1 0) 21 2 0)
def fX5_init (h : HS) : Option HS := (fX1_init (hz h 1)).bind fun r2 => (fX0_init (hz r2 7)).bind fun r4 => (fX4_init (hz r4 9)).bind fun r6 => (fX2_init (hz r6 18)).bind fun r8 => (fX3_init (hz (hz (hz r8 23) 24) 19)).bind fun r12 => (fX3_init_d (hz r12 21)).bind fun r14 => some (hs (hs (hs (hs (hs (hs (hs (hs r14 0 8 0) 0 9 0) 0 10 0) 0 11 (-1)) 0 12 (-1)) 0 13 (-1)) 0 14 (-1)) 0 15 (-1))
def fX6_init_L164 : Nat → Int → HS → Option HS
  | 0, _, _ => none
  | nf + 1, x1, h => if (3 : Int) ≤ wr x1 then some h else if (0 : Int) ≤ x1 ∧ x1 < 1000 then fX6_init_L164 nf (x1 + 1) (hs h 37 x1 (-1)) else none
def fX6_init_L128 : Nat → Int → HS → Option HS
  | 0, _, _ => none
  | nf + 1, x1, h => if (64 : Int) ≤ wr x1 then if (0 : Int) ≤ 0 ∧ (0 : Int) ≤ 0 ∧ (0 : Int) ≤ 64 ∧ (0 : Int) + 64 ≤ 64 ∧ (0 : Int) + 64 ≤ 64 then fX6_init_L164 zF 0 (hcp h 34 0 35 0 64) else none else if (0 : Int) ≤ x1 ∧ x1 < 64 then fX6_init_L128 nf (x1 + 1) (hs h 34 x1 (-1)) else none
def fX6_init (h : HS) : Option HS := fX6_init_L128 zF 0 (hz (hz (hz (hs (hs (hs (hz (hz (hz (hs (hz (hz (hz (hz (hz (hz h 31) 32) 33) 34) 35) 36) 30 8 1) 37) 38) 39) 30 14 (-1)) 30 15 (-1)) 30 16 (-1)) 40) 41) 42)
def fL_addKind (p1 : Int) (h : HS) : Option (Int × HS) := (fX5_addKind p1 h).bind fun o => if o.1 = (0 : Int) then some (0, hs o.2.2 50 0 (wr o.2.1)) else if o.1 = (2 : Int) then some (1, o.2.2) else if o.1 = (3 : Int) then some (2, o.2.2) else none
def fL_addStep (p1 : Int) (p2 : Int) (p3 : Int) (p4 : Int) (h : HS) : Option (Int × HS) := (fX5_addStep p1 p2 p3 p4 h).bind fun o => if o.1 = (0 : Int) then some (0, hs o.2.2 50 0 (wr o.2.1)) else if o.1 = (1 : Int) then some (1, o.2.2) else if o.1 = (2 : Int) then some (2, o.2.2) else if o.1 = (3 : Int) then some (3, o.2.2) else none
def fL_put (p1 : Int) (p2 : Int) (p3 : Int) (h : HS) : Option (Int × HS) := (fX5_put p1 p2 p3 h).bind fun o => if o.1 = (0 : Int) then some (0, hs o.2.2 50 0 (wr o.2.1)) else if o.1 = (1 : Int) then some (1, o.2.2) else if o.1 = (2 : Int) then some (2, o.2.2) else if o.1 = (3 : Int) then some (3, o.2.2) else none
def fL_at (p1 : Int) (h : HS) : Option (Int × HS) := (fX5_at p1 h).bind fun o => if o.1 = (0 : Int) then some (0, hs o.2.2 50 0 (wr o.2.1)) else if o.1 = (1 : Int) then some (1, o.2.2) else none
def fL_state (p1 : Int) (h : HS) : Option (Int × HS) := (fX5_state p1 h).bind fun o => if o.1 = (0 : Int) then some (0, hs o.2.2 50 0 (wr o.2.1)) else if o.1 = (1 : Int) then some (1, o.2.2) else none
def fL_reason (p1 : Int) (p2 : Int) (h : HS) : Option (Int × HS) := (fX5_reason p1 p2 h).bind fun o => if o.1 = (0 : Int) then some (0, hs o.2.2 50 0 (wr o.2.1)) else if o.1 = (1 : Int) then some (1, o.2.2) else none
def fL_play (p1 : Int) (p2 : Int) (h : HS) : Option (Int × HS) := (fX5_play p1 p2 h).bind fun o => if o.1 = (0 : Int) then some (0, hs o.2.2 50 0 (wr o.2.1)) else if o.1 = (1 : Int) then some (1, o.2.2) else if o.1 = (3 : Int) then some (2, o.2.2) else none
def fL_feed (p1 : Int) (p2 : Int) (p3 : Int) (p4 : Int) (h : HS) : Option (Int × HS) := (fX5_feed p1 p2 p3 p4 h).bind fun o => if o.1 = (0 : Int) then some (0, hs o.2.2 50 0 (wr o.2.1)) else if o.1 = (2 : Int) then some (1, o.2.2) else if o.1 = (3 : Int) then some (2, o.2.2) else none
def fL_found (p1 : Int) (h : HS) : Option (Int × HS) := (fX5_found p1 h).bind fun o => if o.1 = (0 : Int) then some (0, hs o.2.2 50 0 (wr o.2.1)) else if o.1 = (1 : Int) then some (1, o.2.2) else none
def fL_write (p1 : Int) (p2 : Int) (h : HS) : Option (Int × HS) := (fX5_write p1 p2 h).bind fun o => if o.1 = (0 : Int) then some (0, hs o.2.2 50 0 (wr o.2.1)) else if o.1 = (1 : Int) then some (1, o.2.2) else if o.1 = (3 : Int) then some (2, o.2.2) else none
def fL_byteAt (p1 : Int) (h : HS) : Option (Int × HS) := (fX5_byteAt p1 h).bind fun o => if o.1 = (0 : Int) then some (0, hs o.2.2 50 0 (wr o.2.1)) else if o.1 = (1 : Int) then some (1, o.2.2) else none
def fL_node (p1 : Int) (p2 : Int) (h : HS) : Option (Int × HS) := (fX5_node p1 p2 h).bind fun o => if o.1 = (0 : Int) then some (0, hs o.2.2 50 0 (wr o.2.1)) else if o.1 = (1 : Int) then some (1, o.2.2) else none
def fL_continuation (p1 : Int) (p2 : Int) (h : HS) : Option (Int × HS) := (fX5_continuation p1 p2 h).bind fun o => if o.1 = (0 : Int) then some (0, hs o.2.2 50 0 (wr o.2.1)) else if o.1 = (1 : Int) then some (1, o.2.2) else none
def fL_goTo (p1 : Int) (h : HS) : Option (Int × HS) := (fX5_goTo p1 h).bind fun o => if o.1 = (0 : Int) then some (0, hs o.2.2 50 0 (wr o.2.1)) else if o.1 = (1 : Int) then some (1, o.2.2) else none
def fL_promote (p1 : Int) (h : HS) : Option (Int × HS) := (fX5_promote p1 h).bind fun o => if o.1 = (0 : Int) then some (0, hs o.2.2 50 0 (wr o.2.1)) else if o.1 = (1 : Int) then some (1, o.2.2) else none
def fL_writeGame (h : HS) : Option (Int × HS) := (fX5_writeGame h).bind fun o => if o.1 = (0 : Int) then some (0, hs o.2.2 50 0 (wr o.2.1)) else if o.1 = (3 : Int) then some (1, o.2.2) else none
def zxs (xs : Nat → Int32) (i : Int) : Int := (xs i.toNat).toInt
def fL_c0 (p1 : Int) (h : HS) : Option HS := (fL_addKind p1 h).bind fun r1 => (fX6_addKind p1 r1.2).bind fun r2 => (fX6_thrown r2.2).bind fun r3 => if wr r3 = wr r1.1 then (if wr r1.1 = 0 then (if wr (zcmp (Int64.ofInt (r2.2 50 0)) (iI r2.1).toInt64) = 0 then some r2.2 else none) else some r2.2) else none
def fL_c1 (p1 : Int) (p2 : Int) (p3 : Int) (p4 : Int) (h : HS) : Option HS := (fL_addStep p1 p2 p3 p4 h).bind fun r1 => (fX6_addStep p1 p2 p3 p4 r1.2).bind fun r2 => (fX6_thrown r2.2).bind fun r3 => if wr r3 = wr r1.1 then (if wr r1.1 = 0 then (if wr (zcmp (Int64.ofInt (r2.2 50 0)) (iI r2.1).toInt64) = 0 then some r2.2 else none) else some r2.2) else none
def fL_c2 (p1 : Int) (p2 : Int) (p3 : Int) (h : HS) : Option HS := (fL_put p1 p2 p3 h).bind fun r1 => (fX6_put p1 p2 p3 r1.2).bind fun r2 => (fX6_thrown r2.2).bind fun r3 => if wr r3 = wr r1.1 then (if wr r1.1 = 0 then (if wr (zcmp (Int64.ofInt (r2.2 50 0)) (iI r2.1).toInt64) = 0 then some r2.2 else none) else some r2.2) else none
def fL_c3 (p1 : Int) (h : HS) : Option HS := (fL_at p1 h).bind fun r1 => (fX6_at p1 r1.2).bind fun r2 => (fX6_thrown r2.2).bind fun r3 => if wr r3 = wr r1.1 then (if wr r1.1 = 0 then (if wr (zcmp (Int64.ofInt (r2.2 50 0)) (iI r2.1).toInt64) = 0 then some r2.2 else none) else some r2.2) else none
def fL_c4 (p1 : Int) (h : HS) : Option HS := (fL_state p1 h).bind fun r1 => (fX6_state p1 r1.2).bind fun r2 => (fX6_thrown r2.2).bind fun r3 => if wr r3 = wr r1.1 then (if wr r1.1 = 0 then (if wr (zcmp (Int64.ofInt (r2.2 50 0)) (iI r2.1).toInt64) = 0 then some r2.2 else none) else some r2.2) else none
def fL_c5 (p1 : Int) (p2 : Int) (h : HS) : Option HS := (fL_reason p1 p2 h).bind fun r1 => (fX6_reason p1 p2 r1.2).bind fun r2 => (fX6_thrown r2.2).bind fun r3 => if wr r3 = wr r1.1 then (if wr r1.1 = 0 then (if wr (zcmp (Int64.ofInt (r2.2 50 0)) (iI r2.1).toInt64) = 0 then some r2.2 else none) else some r2.2) else none
def fL_c6 (p1 : Int) (p2 : Int) (h : HS) : Option HS := (fL_play p1 p2 h).bind fun r1 => (fX6_play_ p1 p2 r1.2).bind fun r2 => (fX6_thrown r2.2).bind fun r3 => if wr r3 = wr r1.1 then (if wr r1.1 = 0 then (if wr (zcmp (Int64.ofInt (r2.2 50 0)) (iI r2.1).toInt64) = 0 then some r2.2 else none) else some r2.2) else none
def fL_c7 (p1 : Int) (p2 : Int) (p3 : Int) (p4 : Int) (h : HS) : Option HS := (fL_feed p1 p2 p3 p4 h).bind fun r1 => (fX6_feed p1 p2 p3 p4 r1.2).bind fun r2 => (fX6_thrown r2.2).bind fun r3 => if wr r3 = wr r1.1 then (if wr r1.1 = 0 then (if wr (zcmp (Int64.ofInt (r2.2 50 0)) (iI r2.1).toInt64) = 0 then some r2.2 else none) else some r2.2) else none
def fL_c8 (h : HS) : Option HS := (fX5_empty h).bind fun r1 => (fX6_empty r1.2).bind fun r2 => if wr r1.1 = wr r2.1 then some r2.2 else none
def fL_c9 (h : HS) : Option HS := (fX5_read h).bind fun r1 => (fX6_read r1.2).bind fun r2 => if wr r1.1 = wr r2.1 then some r2.2 else none
def fL_c10 (p1 : Int) (h : HS) : Option HS := (fL_found p1 h).bind fun r1 => (fX6_found p1 r1.2).bind fun r2 => (fX6_thrown r2.2).bind fun r3 => if wr r3 = wr r1.1 then (if wr r1.1 = 0 then (if wr (zcmp (Int64.ofInt (r2.2 50 0)) (iI r2.1).toInt64) = 0 then some r2.2 else none) else some r2.2) else none
def fL_c11 (p1 : Int) (p2 : Int) (h : HS) : Option HS := (fL_write p1 p2 h).bind fun r1 => (fX6_write p1 p2 r1.2).bind fun r2 => (fX6_thrown r2.2).bind fun r3 => if wr r3 = wr r1.1 then (if wr r1.1 = 0 then (if wr (zcmp (Int64.ofInt (r2.2 50 0)) (iI r2.1).toInt64) = 0 then some r2.2 else none) else some r2.2) else none
def fL_c12 (p1 : Int) (h : HS) : Option HS := (fL_byteAt p1 h).bind fun r1 => (fX6_byteAt p1 r1.2).bind fun r2 => (fX6_thrown r2.2).bind fun r3 => if wr r3 = wr r1.1 then (if wr r1.1 = 0 then (if wr (zcmp (Int64.ofInt (r2.2 50 0)) (iI r2.1).toInt64) = 0 then some r2.2 else none) else some r2.2) else none
def fL_c13 (p1 : Int) (p2 : Int) (h : HS) : Option HS := (fL_node p1 p2 h).bind fun r1 => (fX6_node p1 p2 r1.2).bind fun r2 => (fX6_thrown r2.2).bind fun r3 => if wr r3 = wr r1.1 then (if wr r1.1 = 0 then (if wr (zcmp (Int64.ofInt (r2.2 50 0)) (iI r2.1).toInt64) = 0 then some r2.2 else none) else some r2.2) else none
def fL_c14 (p1 : Int) (p2 : Int) (h : HS) : Option HS := (fL_continuation p1 p2 h).bind fun r1 => (fX6_continuation p1 p2 r1.2).bind fun r2 => (fX6_thrown r2.2).bind fun r3 => if wr r3 = wr r1.1 then (if wr r1.1 = 0 then (if wr (zcmp (Int64.ofInt (r2.2 50 0)) (iI r2.1).toInt64) = 0 then some r2.2 else none) else some r2.2) else none
def fL_c15 (p1 : Int) (h : HS) : Option HS := (fL_goTo p1 h).bind fun r1 => (fX6_goTo p1 r1.2).bind fun r2 => (fX6_thrown r2.2).bind fun r3 => if wr r3 = wr r1.1 then (if wr r1.1 = 0 then (if wr (zcmp (Int64.ofInt (r2.2 50 0)) (iI r2.1).toInt64) = 0 then some r2.2 else none) else some r2.2) else none
def fL_c16 (p1 : Int) (h : HS) : Option HS := (fL_promote p1 h).bind fun r1 => (fX6_promote p1 r1.2).bind fun r2 => (fX6_thrown r2.2).bind fun r3 => if wr r3 = wr r1.1 then (if wr r1.1 = 0 then (if wr (zcmp (Int64.ofInt (r2.2 50 0)) (iI r2.1).toInt64) = 0 then some r2.2 else none) else some r2.2) else none
def fL_c17 (h : HS) : Option HS := (fL_writeGame h).bind fun r1 => (fX6_writeGame r1.2).bind fun r2 => (fX6_thrown r2.2).bind fun r3 => if wr r3 = wr r1.1 then (if wr r1.1 = 0 then (if wr (zcmp (Int64.ofInt (r2.2 50 0)) (iI r2.1).toInt64) = 0 then some r2.2 else none) else some r2.2) else none
def fL_c18 (h : HS) : Option HS := (fX5_readGame h).bind fun r1 => (fX6_readGame r1.2).bind fun r2 => if wr r1.1 = wr r2.1 then some r2.2 else none
def fL_c19 (h : HS) : Option HS := (fX5_clear h).bind fun r1 => (fX6_clear r1.2).bind fun r2 => if wr r1.1 = wr r2.1 then some r2.2 else none
def fL_c20 (h : HS) : Option HS := (fX5_branching h).bind fun r1 => (fX6_branching h).bind fun r2 => if r1.1 = r2.1.1 ∧ wr r1.2.1 = wr r2.1.2.1 ∧ wr r1.2.2 = wr r2.1.2.2 then some r2.2 else none
def fL_c21 (h : HS) : Option HS := (fX5_digest h).bind fun r1 => (fX6_digest r1.2).bind fun r2 => if wr (zcmp r1.1 r2.1) = 0 then some r2.2 else none
theorem wr_0 : wr 0 = 0 := rfl
def fL_step (xs : Nat → Int32) (i : Int) (h : HS) : Option HS := if wr (zand (zxs xs i) 31) = (0 : Int) then fL_c0 (zxs xs (i + 1)) h else if wr (zand (zxs xs i) 31) = (1 : Int) then fL_c1 (zxs xs (i + 1)) (zxs xs (i + 2)) (zxs xs (i + 3)) (zxs xs (i + 4)) h else if wr (zand (zxs xs i) 31) = (2 : Int) then fL_c2 (zxs xs (i + 1)) (zxs xs (i + 2)) (zxs xs (i + 3)) h else if wr (zand (zxs xs i) 31) = (3 : Int) then fL_c3 (zxs xs (i + 1)) h else if wr (zand (zxs xs i) 31) = (4 : Int) then fL_c4 (zxs xs (i + 1)) h else if wr (zand (zxs xs i) 31) = (5 : Int) then fL_c5 (zxs xs (i + 1)) (zxs xs (i + 2)) h else if wr (zand (zxs xs i) 31) = (6 : Int) then fL_c6 (zxs xs (i + 1)) (zxs xs (i + 2)) h else if wr (zand (zxs xs i) 31) = (7 : Int) then fL_c7 (zxs xs (i + 1)) (zxs xs (i + 2)) (zxs xs (i + 3)) (zxs xs (i + 4)) h else if wr (zand (zxs xs i) 31) = (8 : Int) then fL_c8 h else if wr (zand (zxs xs i) 31) = (9 : Int) then fL_c9 h else if wr (zand (zxs xs i) 31) = (10 : Int) then fL_c10 (zxs xs (i + 1)) h else if wr (zand (zxs xs i) 31) = (11 : Int) then fL_c11 (zxs xs (i + 1)) (zxs xs (i + 2)) h else if wr (zand (zxs xs i) 31) = (12 : Int) then fL_c12 (zxs xs (i + 1)) h else if wr (zand (zxs xs i) 31) = (13 : Int) then fL_c13 (zxs xs (i + 1)) (zxs xs (i + 2)) h else if wr (zand (zxs xs i) 31) = (14 : Int) then fL_c14 (zxs xs (i + 1)) (zxs xs (i + 2)) h else if wr (zand (zxs xs i) 31) = (15 : Int) then fL_c15 (zxs xs (i + 1)) h else if wr (zand (zxs xs i) 31) = (16 : Int) then fL_c16 (zxs xs (i + 1)) h else if wr (zand (zxs xs i) 31) = (17 : Int) then fL_c17 h else if wr (zand (zxs xs i) 31) = (18 : Int) then fL_c18 h else if wr (zand (zxs xs i) 31) = (19 : Int) then fL_c19 h else if wr (zand (zxs xs i) 31) = (20 : Int) then fL_c20 h else if wr (zand (zxs xs i) 31) = (21 : Int) then fL_c21 h else some h
def fL_loop (xs : Nat → Int32) (L : Int) : Nat → Int → HS → Option HS
  | 0, _, _ => none
  | f + 1, i, h => if L - 5 < i then some h else (fL_step xs i h).bind (fL_loop xs L f (i + 5))
def z0 : HS := fun _ _ => 0
def fL_start (xs : Nat → Int32) (L : Int) : Option HS := (fX5_init (hz z0 0)).bind fun h1 => (fX6_init (hz h1 30)).bind fun h2 => fL_loop xs L 513 0 (hz h2 50)
end ZDEFS
end
section
section ZPURE0
/-! PURE MATHEMATICS from here on: the two sides' functions agree -/
theorem hs_at (h : HS) (i : Nat) (k v : Int) (a : Nat) (b : Int) : hs h i k v a b = if a = i then (if b = k then v else h i b) else h a b := by
  unfold hs
  by_cases e : a = i
  · rw [if_pos e, if_pos e]
  · rw [if_neg e, if_neg e]
def zr (x : Int) : Prop := -2147483648 ≤ x ∧ x < 2147483648
theorem zxs_r (xs : Nat → Int32) (i : Int) : zr (zxs xs i) := by
  unfold zr zxs
  have h1 := Int32.le_toInt (xs i.toNat)
  have h2 := Int32.toInt_lt (xs i.toNat)
  constructor <;> omega
theorem wr_r (x : Int) : zr (wr x) := by
  unfold zr wr
  have h1 := Int32.le_toInt (iI x)
  have h2 := Int32.toInt_lt (iI x)
  constructor <;> omega
/-- the law's test of two answers -/
theorem zcmp_eq {x y : Int} (hx : zr x) (e : x = y) : wr (zcmp (Int64.ofInt (wr x)) (iI y).toInt64) = 0 := by
  subst e
  have e1 : Int64.ofInt (wr x) = (iI x).toInt64 := by
    unfold wr
    rw [← Int32.toInt_toInt64, Int64.ofInt_toInt]
  rw [e1]
  unfold zcmp
  rw [if_neg (by exact Int64.lt_irrefl), if_pos rfl]
  rfl
/-! the reference's small helpers -/
theorem pX6_isIn {x a b : Int} {h : HS} (hx : zr x) (ha : zr a) (hb : zr b) : fX6_isIn x a b h = some (if a ≤ x ∧ x ≤ b then 1 else 0) := by
  unfold fX6_isIn zr at *
  simp (disch := omega) only [wr_of]
  by_cases h1 : x < a
  · rw [if_pos h1, if_neg (by omega)]
  · rw [if_neg h1]
    by_cases h2 : b < x
    · rw [if_pos h2, if_neg (by omega)]
    · rw [if_neg h2, if_pos (by omega)]
/-! the tape -/
abbrev PsT (h : HS) : Prop := (0 ≤ h 19 1 ∧ h 19 1 ≤ 2000) ∧ (h 30 13 = h 19 1) ∧ (∀ i : Int, 0 ≤ i → i < h 19 1 → h 39 i = h 20 i ∧ 0 ≤ h 20 i ∧ h 20 i ≤ 255)
theorem PsT.n {h : HS} (w : PsT h) : 0 ≤ h 19 1 ∧ h 19 1 ≤ 2000 := w.1
theorem PsT.n2 {h : HS} (w : PsT h) : h 30 13 = h 19 1 := w.2.1
theorem PsT.by_ {h : HS} (w : PsT h) : ∀ i : Int, 0 ≤ i → i < h 19 1 → h 39 i = h 20 i ∧ 0 ≤ h 20 i ∧ h 20 i ≤ 255 := w.2.2
/-- what the last reading said -/
abbrev PsE (h : HS) : Prop := (h 30 14 = h 0 13 ∧ -1 ≤ h 0 13 ∧ h 0 13 ≤ 5000) ∧ (h 30 15 = h 0 14 ∧ -1 ≤ h 0 14 ∧ h 0 14 ≤ 5000) ∧ (h 30 16 = h 0 15 ∧ -1 ≤ h 0 15 ∧ h 0 15 ≤ 5000)
theorem PsE.e1 {h : HS} (w : PsE h) : h 30 14 = h 0 13 ∧ -1 ≤ h 0 13 ∧ h 0 13 ≤ 5000 := w.1
theorem PsE.e2 {h : HS} (w : PsE h) : h 30 15 = h 0 14 ∧ -1 ≤ h 0 14 ∧ h 0 14 ≤ 5000 := w.2.1
theorem PsE.e3 {h : HS} (w : PsE h) : h 30 16 = h 0 15 ∧ -1 ≤ h 0 15 ∧ h 0 15 ≤ 5000 := w.2.2
theorem pX5_byteAt {p : Int} {h : HS} (hp : zr p) (hT : PsT h) : fX5_byteAt p h = if 0 ≤ p ∧ p < h 19 1 then some (0, h 20 p, h) else some (1, 0, h) := by
  obtain ⟨n1, n2, -⟩ := hT
  unfold fX5_byteAt fX5_byteAt_b15 fX3_size fX3_get zr at *
  simp (disch := omega) only [wr_of, Option.bind_some]
  by_cases h1 : p < 0
  · rw [if_pos h1, if_neg (by omega)]
  · rw [if_neg h1]
    by_cases h2 : p < h 19 1
    · rw [if_pos h2, if_neg h1, if_neg (by omega), if_pos (by omega), if_pos (by omega)]
      rfl
    · rw [if_neg h2, if_neg (by omega)]
theorem pX6_byteAt {p : Int} {h : HS} (hp : zr p) (hn : 0 ≤ h 30 13 ∧ h 30 13 ≤ 2000) : fX6_byteAt p h = if 0 ≤ p ∧ p < h 30 13 then some (h 39 p, hs h 30 0 0) else some (0, hs (hs h 30 0 0) 30 0 1) := by
  have e1 : hs h 30 0 0 30 13 = h 30 13 := by simp [hs_at]
  have e2 : hs h 30 0 0 39 p = h 39 p := by simp [hs_at]
  unfold fX6_byteAt fX6_fail
  rw [e1, e2, pX6_isIn hp (by unfold zr; omega) (by unfold zr; omega)]
  by_cases h1 : 0 ≤ p ∧ p < h 30 13
  · rw [if_pos h1, if_pos (by omega), Option.bind_some, if_neg (by decide), if_pos (by omega)]
  · rw [if_neg h1, if_neg (by omega), Option.bind_some, if_pos (by decide)]
    rfl
/-! the law's case, in general -/
def gC (r1 : Option (Int × HS)) (k : HS → Option (Int × HS)) : Option HS := r1.bind fun r1 => (k r1.2).bind fun r2 => (fX6_thrown r2.2).bind fun r3 => if wr r3 = wr r1.1 then (if wr r1.1 = 0 then (if wr (zcmp (Int64.ofInt (r2.2 50 0)) (iI r2.1).toInt64) = 0 then some r2.2 else none) else some r2.2) else none
theorem gC_ok {h1 h2 : HS} {v v1 : Int} {k : HS → Option (Int × HS)} (hk : k (hs h1 50 0 (wr v)) = some (v1, h2)) (hv : zr v) (e : v = v1) (h0 : h2 30 0 = 0) (h5 : h2 50 0 = wr v) : gC (some (0, hs h1 50 0 (wr v))) k = some h2 := by
  unfold gC fX6_thrown
  rw [Option.bind_some, hk, Option.bind_some, Option.bind_some]
  show (if wr (h2 30 0) = wr 0 then (if wr 0 = 0 then (if wr (zcmp (Int64.ofInt (h2 50 0)) (iI v1).toInt64) = 0 then some h2 else none) else some h2) else none) = some h2
  rw [h0, h5, if_pos rfl, if_pos wr_0, if_pos (zcmp_eq hv e)]
theorem gC_thr {h1 h2 : HS} {t v1 : Int} {k : HS → Option (Int × HS)} (hk : k h1 = some (v1, h2)) (ht : zr t ∧ t ≠ 0) (h0 : h2 30 0 = t) : gC (some (t, h1)) k = some h2 := by
  unfold gC fX6_thrown
  rw [Option.bind_some, hk, Option.bind_some, Option.bind_some]
  show (if wr (h2 30 0) = wr t then (if wr t = 0 then (if wr (zcmp (Int64.ofInt (h2 50 0)) (iI v1).toInt64) = 0 then some h2 else none) else some h2) else none) = some h2
  rw [h0, if_pos rfl, if_neg (by rw [wr_of ht.1.1 ht.1.2]; exact ht.2)]
/-- the same but for what a call may leave behind anyhow -/
def zeqv (o h : HS) : Prop := ∀ (a : Nat) (b : Int), a ≠ 50 → ¬ (a = 30 ∧ b = 0) → o a b = h a b
theorem zeqv.rf {h : HS} : zeqv h h := fun _ _ _ _ => rfl
theorem zeqv.h50 {o h : HS} (e : zeqv o h) (k v : Int) : zeqv (hs o 50 k v) h := fun a b h1 h2 => by
  rw [hs_at, if_neg h1]
  exact e a b h1 h2
theorem zeqv.h30 {o h : HS} (e : zeqv o h) (v : Int) : zeqv (hs o 30 0 v) h := fun a b h1 h2 => by
  rw [hs_at]
  by_cases ha : a = 30
  · subst ha
    rw [if_pos rfl, if_neg (fun hb => h2 ⟨rfl, hb⟩)]
    exact e 30 b h1 h2
  · rw [if_neg ha]
    exact e a b h1 h2
theorem pc_12 {p : Int} {h : HS} (hp : zr p) (hT : PsT h) : ∃ o, fL_c12 p h = some o ∧ zeqv o h := by
  have eg : fL_c12 p h = gC (fL_byteAt p h) (fX6_byteAt p) := rfl
  obtain ⟨n, n2, hb⟩ := id hT
  rw [eg]
  unfold fL_byteAt
  rw [pX5_byteAt hp hT]
  by_cases h1 : 0 ≤ p ∧ p < h 19 1
  · rw [if_pos h1, Option.bind_some, if_pos rfl]
    obtain ⟨b1, b2, b3⟩ := hb p h1.1 h1.2
    refine ⟨_, gC_ok (v1 := h 39 p) (h2 := hs (hs h 50 0 (wr (h 20 p))) 30 0 0) ?_ (by show zr (h 20 p); unfold zr; omega) b1.symm (by simp [hs_at]) (by simp [hs_at]), (zeqv.rf.h50 _ _).h30 _⟩
    rw [pX6_byteAt hp (by simp [hs_at]; omega), if_pos (by simp [hs_at]; omega)]
    simp [hs_at]
  · rw [if_neg h1, Option.bind_some, if_neg (show ¬ (1 : Int) = 0 by decide), if_pos rfl]
    refine ⟨_, gC_thr (v1 := 0) (h2 := hs (hs h 30 0 0) 30 0 1) ?_ ⟨by unfold zr; omega, by decide⟩ (by simp [hs_at]), (zeqv.rf.h30 _).h30 _⟩
    show fX6_byteAt p h = _
    rw [pX6_byteAt hp (by omega), if_neg (by omega)]
theorem fX6_isSq {p : Int} {h : HS} (hp : zr p) : fX6_isSquare p h = some (if 0 ≤ p ∧ p < 64 then 1 else 0) := by
  unfold fX6_isSquare
  rw [pX6_isIn hp (by unfold zr; omega) (by unfold zr; omega), Option.bind_some]
  by_cases h1 : 0 ≤ p ∧ p < 64
  · rw [if_pos h1, if_pos (show 0 ≤ p ∧ p ≤ 63 by omega), if_pos (Or.inr rfl)]
  · rw [if_neg h1, if_neg (show ¬ (0 ≤ p ∧ p ≤ 63) by omega), if_pos (Or.inl rfl)]
theorem fX5_isSq {p : Int} {h : HS} (hp : zr p) : fX5_isSquare p h = some (if 0 ≤ p ∧ p < 64 then 1 else 0) := by
  unfold fX5_isSquare
  rw [wr_of hp.1 hp.2]
  by_cases h1 : p < 0
  · rw [if_pos h1, if_neg (by omega)]
  · rw [if_neg h1]
    by_cases h2 : 64 ≤ p
    · rw [if_pos h2, if_neg (by omega)]
    · rw [if_neg h2, if_pos (by omega)]
/-- the board: -1 nothing, 2 * kind + side a piece -/
abbrev PsB (h : HS) : Prop := (0 ≤ h 1 5 ∧ h 1 5 ≤ 6) ∧ (h 30 1 = h 1 5) ∧ (∀ s : Int, 0 ≤ s → s < 64 → h 35 s = h 8 s ∧ -1 ≤ h 8 s ∧ h 8 s < 2 * h 1 5)
theorem PsB.nk {h : HS} (w : PsB h) : 0 ≤ h 1 5 ∧ h 1 5 ≤ 6 := w.1
theorem PsB.nk2 {h : HS} (w : PsB h) : h 30 1 = h 1 5 := w.2.1
theorem PsB.sq {h : HS} (w : PsB h) : ∀ s : Int, 0 ≤ s → s < 64 → h 35 s = h 8 s ∧ -1 ≤ h 8 s ∧ h 8 s < 2 * h 1 5 := w.2.2
theorem pc_3 {p : Int} {h : HS} (hp : zr p) (hB : PsB h) : ∃ o, fL_c3 p h = some o ∧ zeqv o h := by
  have eg : fL_c3 p h = gC (fL_at p h) (fX6_at p) := rfl
  obtain ⟨n, n2, hb⟩ := id hB
  rw [eg]
  unfold fL_at fX5_at fX0_pieceOn
  rw [fX5_isSq hp, Option.bind_some]
  by_cases h1 : 0 ≤ p ∧ p < 64
  · obtain ⟨b1, b2, b3⟩ := hb p h1.1 h1.2
    rw [if_pos h1, if_neg (show ¬ wr 1 = 0 by decide), Option.bind_some, if_neg (show ¬ wr 1 = 0 by decide), if_pos h1, Option.bind_some, Option.bind_some, if_pos rfl]
    refine ⟨_, gC_ok (v1 := h 35 p) (h2 := hs (hs h 50 0 (wr (h 8 p))) 30 0 0) ?_ (by show zr (h 8 p); unfold zr; omega) b1.symm (by simp [hs_at]) (by simp [hs_at]), (zeqv.rf.h50 _ _).h30 _⟩
    unfold fX6_at
    rw [fX6_isSq hp, Option.bind_some, if_pos h1, if_neg (show ¬ wr 1 = 0 by decide), if_pos h1]
    simp [hs_at]
  · rw [if_neg h1, if_pos wr_0, Option.bind_some, if_neg (show ¬ (1 : Int) = 0 by decide), if_pos rfl]
    refine ⟨_, gC_thr (v1 := 0) (h2 := hs (hs h 30 0 0) 30 0 1) ?_ ⟨by unfold zr; omega, by decide⟩ (by simp [hs_at]), (zeqv.rf.h30 _).h30 _⟩
    show fX6_at p h = _
    unfold fX6_at fX6_fail
    rw [fX6_isSq hp, Option.bind_some, if_neg h1, if_pos wr_0]
    rfl
theorem pc_10 {p : Int} {h : HS} (hp : zr p) (hE : PsE h) : ∃ o, fL_c10 p h = some o ∧ zeqv o h := by
  have eg : fL_c10 p h = gC (fL_found p h) (fX6_found p) := rfl
  obtain ⟨⟨a1, a2, a3⟩, ⟨b1, b2, b3⟩, ⟨c1, c2, c3⟩⟩ := hE
  rw [eg]
  have e6 : ∀ h : HS, fX6_found p h = if 0 ≤ p ∧ p ≤ 2 then (if p = 0 then some (h 30 14, hs h 30 0 0) else if p = 1 then some (h 30 15, hs h 30 0 0) else some (h 30 16, hs h 30 0 0)) else some (0, hs (hs h 30 0 0) 30 0 1) := by
    intro h
    unfold fX6_found fX6_fail
    rw [pX6_isIn hp (by unfold zr; omega) (by unfold zr; omega), Option.bind_some, wr_of hp.1 hp.2]
    by_cases h1 : 0 ≤ p ∧ p ≤ 2
    · rw [if_pos h1, if_pos h1, if_neg (show ¬ wr 1 = 0 by decide)]
      simp [hs_at]
    · rw [if_neg h1, if_neg h1, if_pos wr_0]
      rfl
  unfold fL_found fX5_found
  rw [wr_of hp.1 hp.2]
  by_cases h0 : p = 0
  · rw [if_pos h0, Option.bind_some, if_pos rfl]
    refine ⟨_, gC_ok (v1 := h 30 14) (h2 := hs (hs h 50 0 (wr (h 0 13))) 30 0 0) ?_ (by show zr (h 0 13); unfold zr; omega) a1.symm (by simp [hs_at]) (by simp [hs_at]), (zeqv.rf.h50 _ _).h30 _⟩
    rw [e6, if_pos (by omega), if_pos h0]
    simp [hs_at]
  · rw [if_neg h0]
    by_cases h1 : p = 1
    · rw [if_pos h1, Option.bind_some, if_pos rfl]
      refine ⟨_, gC_ok (v1 := h 30 15) (h2 := hs (hs h 50 0 (wr (h 0 14))) 30 0 0) ?_ (by show zr (h 0 14); unfold zr; omega) b1.symm (by simp [hs_at]) (by simp [hs_at]), (zeqv.rf.h50 _ _).h30 _⟩
      rw [e6, if_pos (by omega), if_neg h0, if_pos h1]
      simp [hs_at]
    · rw [if_neg h1]
      by_cases h2 : p = 2
      · rw [if_pos h2, Option.bind_some, if_pos rfl]
        refine ⟨_, gC_ok (v1 := h 30 16) (h2 := hs (hs h 50 0 (wr (h 0 15))) 30 0 0) ?_ (by show zr (h 0 15); unfold zr; omega) c1.symm (by simp [hs_at]) (by simp [hs_at]), (zeqv.rf.h50 _ _).h30 _⟩
        rw [e6, if_pos (by omega), if_neg h0, if_neg h1]
        simp [hs_at]
      · rw [if_neg h2, Option.bind_some, if_neg (show ¬ (1 : Int) = 0 by decide), if_pos rfl]
        refine ⟨_, gC_thr (v1 := 0) (h2 := hs (hs h 30 0 0) 30 0 1) ?_ ⟨by unfold zr; omega, by decide⟩ (by simp [hs_at]), (zeqv.rf.h30 _).h30 _⟩
        show fX6_found p h = _
        rw [e6, if_neg (by omega)]
end ZPURE0
end
section
section ZPURE1
theorem pc_8 {h : HS} (hT : PsT h) : ∃ o, fL_c8 h = some o ∧ zeqv o (hs (hs (hs h 19 1 0) 19 2 0) 30 13 0) := by
  obtain ⟨n, n2, hb⟩ := id hT
  unfold fL_c8 fX5_empty fX3_size fX3_wipe fX6_empty
  rw [if_pos (Or.inl rfl), Option.bind_some, Option.bind_some, Option.bind_some, Option.bind_some]
  have e : hs (hs (hs h 19 1 0) 19 2 0) 30 0 0 30 13 = h 19 1 := by simp [hs_at, n2]
  rw [e, if_pos rfl]
  refine ⟨_, rfl, fun a b h1 h2 => ?_⟩
  simp only [hs_at]
  by_cases ha : a = 30
  · subst ha
    have hb : b ≠ 0 := fun e => h2 ⟨rfl, e⟩
    simp [hb]
  · simp [ha]
/-! kinds -/
abbrev PsK (h : HS) : Prop := (0 ≤ h 1 5 ∧ h 1 5 ≤ 6) ∧ (h 30 1 = h 1 5) ∧ (∀ i : Int, 0 ≤ i → i < h 1 5 → h 31 i = h 2 i ∧ 65 ≤ h 2 i ∧ h 2 i ≤ 90)
theorem PsK.n {h : HS} (w : PsK h) : 0 ≤ h 1 5 ∧ h 1 5 ≤ 6 := w.1
theorem PsK.n2 {h : HS} (w : PsK h) : h 30 1 = h 1 5 := w.2.1
theorem PsK.le {h : HS} (w : PsK h) : ∀ i : Int, 0 ≤ i → i < h 1 5 → h 31 i = h 2 i ∧ 65 ≤ h 2 i ∧ h 2 i ≤ 90 := w.2.2
theorem pKind {x : Int} {h h6 : HS} (hn : 0 ≤ h 1 5 ∧ h 1 5 ≤ 6) (hn2 : h6 30 1 = h 1 5) (hl : ∀ i : Int, 0 ≤ i → i < h 1 5 → h6 31 i = h 2 i) : ∀ (nf : Nat) (j : Int), 0 ≤ j → j ≤ h 1 5 → h 1 5 - j < nf → ∃ r, fX1_withLetter_L2 nf x j h = some r ∧ fX6_kindOf_L2 nf x j h6 = some r ∧ -1 ≤ r ∧ r < h 1 5
  | 0, j, h0, h1, h2 => by omega
  | nf + 1, j, h0, h1, h2 => by
    unfold fX1_withLetter_L2 fX6_kindOf_L2
    rw [hn2, wr_of (z := h 1 5) (by omega) (by omega), wr_of (z := j) (by omega) (by omega)]
    by_cases hj : h 1 5 ≤ j
    · rw [if_pos hj, if_pos hj]
      exact ⟨-1, rfl, rfl, by omega, by omega⟩
    · have hc : 0 ≤ j ∧ j < 6 := ⟨h0, by omega⟩
      rw [if_neg hj, if_neg hj, if_pos hc, if_pos hc, hl j h0 (by omega)]
      by_cases hx : wr (h 2 j) = wr x
      · rw [if_pos hx, if_pos hx]
        exact ⟨j, rfl, rfl, by omega, by omega⟩
      · rw [if_neg hx, if_neg hx]
        exact pKind hn hn2 hl nf (j + 1) (by omega) (by omega) (by omega)
/-- nodes, as far as others need them -/
abbrev PsN0 (h : HS) : Prop := (1 ≤ h 9 8 ∧ h 9 8 ≤ 200) ∧ (h 30 8 = h 9 8)
theorem PsN0.n {h : HS} (w : PsN0 h) : 1 ≤ h 9 8 ∧ h 9 8 ≤ 200 := w.1
theorem PsN0.n2 {h : HS} (w : PsN0 h) : h 30 8 = h 9 8 := w.2
def nKind (p : Int) (h : HS) : HS := hs (hs (hs (hs h 2 (h 1 5) p) 1 5 (h 1 5 + 1)) 31 (h 1 5) p) 30 1 (h 1 5 + 1)
theorem pc_0 {p : Int} {h : HS} (hp : zr p) (hK : PsK h) (hN : PsN0 h) : ∃ o, fL_c0 p h = some o ∧ (zeqv o h ∨ (h 1 5 < 6 ∧ 65 ≤ p ∧ p ≤ 90 ∧ zeqv o (nKind p h))) := by
  have eg : fL_c0 p h = gC (fL_addKind p h) (fX6_addKind p) := rfl
  obtain ⟨n, n2, hl⟩ := id hK
  obtain ⟨m, m2⟩ := id hN
  rw [eg]
  -- the reference, at any state that is the same for it
  have e6 : ∀ h6 : HS, (h6 30 1 = h 30 1) → (∀ i : Int, h6 31 i = h 31 i) → h6 30 8 = h 30 8 → ∀ r : Int, fX1_withLetter_L2 zF p 0 h = some r → fX6_addKind p h6 = if 65 ≤ p ∧ p ≤ 90 then (if r = -1 then (if h 1 5 = 6 then some (0, hs (hs h6 30 0 0) 30 0 2) else if h 9 8 ≤ 1 then some (h 1 5, hs (hs (hs h6 30 0 0) 31 (h 1 5) p) 30 1 (h 1 5 + 1)) else some (0, hs (hs h6 30 0 0) 30 0 2)) else some (0, hs (hs h6 30 0 0) 30 0 1)) else some (0, hs (hs h6 30 0 0) 30 0 1) := by
    intro h6 a1 a2 a3 r hr
    have z1 : hs h6 30 0 0 30 1 = h 1 5 := by simp [hs_at, a1, n2]
    have z8 : hs h6 30 0 0 30 8 = h 9 8 := by simp [hs_at, a3, m2]
    have z2 : hs (hs h6 30 0 0) 31 (h 1 5) p 30 1 = h 1 5 := by simp [hs_at, a1, n2]
    have z3 : hs (hs (hs h6 30 0 0) 31 (h 1 5) p) 30 1 (h 1 5 + 1) 30 1 = h 1 5 + 1 := by simp [hs_at]
    unfold fX6_addKind fX6_addKind_b25 fX6_addKind_b48 fX6_fail fX6_kindOf
    rw [pX6_isIn hp (by unfold zr; omega) (by unfold zr; omega), Option.bind_some]
    by_cases h1 : 65 ≤ p ∧ p ≤ 90
    · rw [if_pos h1, if_pos h1, if_neg (show ¬ wr 1 = 0 by decide)]
      obtain ⟨r2, q1, q2, q3, q4⟩ := pKind (x := p) (h6 := hs h6 30 0 0) n z1 (fun i i0 i1 => by rw [show hs h6 30 0 0 31 i = h6 31 i by simp [hs_at], a2, (hl i i0 i1).1]) zF 0 (by omega) (by omega) (by unfold zF; omega)
      rw [hr] at q1
      obtain rfl := Option.some.inj q1
      rw [q2, Option.bind_some, wr_of (z := r) (by omega) (by omega)]
      by_cases h2 : r = -1
      · rw [if_pos h2, if_pos h2, z1, z8, wr_of (z := h 1 5) (by omega) (by omega), wr_of (z := h 9 8) (by omega) (by omega)]
        by_cases h3 : h 1 5 = 6
        · rw [if_pos h3, if_pos h3]
          rfl
        · rw [if_neg h3, if_neg h3]
          by_cases h4 : h 9 8 ≤ 1
          · rw [if_pos h4, if_pos h4, if_pos (by omega), z2, z3, Int.add_sub_cancel]
          · rw [if_neg h4, if_neg h4]
            rfl
      · rw [if_neg h2, if_neg h2]
        rfl
    · rw [if_neg h1, if_neg h1, if_pos wr_0]
      rfl
  obtain ⟨r, q1, -, q3, q4⟩ := pKind (x := p) (h6 := h) n n2 (fun i i0 i1 => (hl i i0 i1).1) zF 0 (by omega) (by omega) (by unfold zF; omega)
  have e7 := e6 h rfl (fun _ => rfl) rfl r q1
  unfold fL_addKind fX5_addKind fX5_addKind_b24 fX5_addKind_b57 fX1_withLetter fX1_size fX4_size fX1_include
  rw [wr_of hp.1 hp.2]
  by_cases h1 : 65 ≤ p ∧ p ≤ 90
  · rw [if_neg (by omega), if_neg (by omega), q1, Option.bind_some, wr_of (z := r) (by omega) (by omega)]
    rw [if_pos h1] at e7
    by_cases h2 : r = -1
    · rw [if_pos h2, Option.bind_some, wr_of (z := h 1 5) (by omega) (by omega)]
      rw [if_pos h2] at e7
      by_cases h3 : h 1 5 = 6
      · rw [if_pos (by omega), Option.bind_some, if_neg (show ¬ (3 : Int) = 0 by decide), if_neg (show ¬ (3 : Int) = 2 by decide), if_pos rfl]
        rw [if_pos h3] at e7
        exact ⟨_, gC_thr e7 ⟨by unfold zr; omega, by decide⟩ (by simp [hs_at]), Or.inl ((zeqv.rf.h30 _).h30 _)⟩
      · rw [if_neg (by omega), Option.bind_some, wr_of (z := h 9 8) (by omega) (by omega)]
        rw [if_neg h3] at e7
        by_cases h4 : h 9 8 ≤ 1
        · have z1 : hs h 2 (h 1 5) p 1 5 = h 1 5 := by simp [hs_at]
          have z2 : hs (hs h 2 (h 1 5) p) 1 5 (h 1 5 + 1) 1 5 = h 1 5 + 1 := by simp [hs_at]
          rw [if_pos h4, if_pos (by omega), if_pos (by omega), Option.bind_some, Option.bind_some, if_pos rfl]
          rw [z1, z2, Int.add_sub_cancel]
          have ek := e6 (hs (hs (hs h 2 (h 1 5) p) 1 5 (h 1 5 + 1)) 50 0 (wr (h 1 5))) (by simp [hs_at]) (fun i => by simp [hs_at]) (by simp [hs_at]) r q1
          rw [if_pos h1, if_pos h2, if_neg h3, if_pos h4] at ek
          refine ⟨_, gC_ok ek (by show zr (h 1 5); unfold zr; omega) rfl ?_ ?_, Or.inr ⟨by omega, h1.1, h1.2, ?_⟩⟩
          · simp [hs_at]
          · simp [hs_at]
          · intro a b g1 g2
            unfold nKind
            simp only [hs_at]
            by_cases ha : a = 30
            · subst ha
              have hb : b ≠ 0 := fun e => g2 ⟨rfl, e⟩
              simp [hb]
            · simp [ha, g1]
        · rw [if_neg h4, Option.bind_some, if_neg (show ¬ (3 : Int) = 0 by decide), if_neg (show ¬ (3 : Int) = 2 by decide), if_pos rfl]
          rw [if_neg h4] at e7
          exact ⟨_, gC_thr e7 ⟨by unfold zr; omega, by decide⟩ (by simp [hs_at]), Or.inl ((zeqv.rf.h30 _).h30 _)⟩
    · rw [if_neg h2, Option.bind_some, if_neg (show ¬ (2 : Int) = 0 by decide), if_pos rfl]
      rw [if_neg h2] at e7
      exact ⟨_, gC_thr e7 ⟨by unfold zr; omega, by decide⟩ (by simp [hs_at]), Or.inl ((zeqv.rf.h30 _).h30 _)⟩
  · rw [if_neg h1] at e7
    have hc : (if p < 65 then some ((2, 0, h) : Int × Int × HS) else if 90 < p then some (2, 0, h) else (fX1_withLetter_L2 zF p 0 h).bind fun r1 => if wr r1 = -1 then (some (h 1 5)).bind fun r2 => if 6 ≤ wr r2 then some (3, 0, h) else (some (h 9 8)).bind fun r3 => if wr r3 ≤ 1 then (if wr (h 1 5) < 6 then if 0 ≤ h 1 5 ∧ h 1 5 < 6 then some (hs (hs h 2 (h 1 5) p) 1 5 (hs h 2 (h 1 5) p 1 5 + 1) 1 5 - 1, hs (hs h 2 (h 1 5) p) 1 5 (hs h 2 (h 1 5) p 1 5 + 1)) else none else some (-1, h)).bind fun r4 => some (0, r4.1, r4.2) else some (3, 0, h) else some (2, 0, h)) = some (2, 0, h) := by
      by_cases g : p < 65
      · rw [if_pos g]
      · rw [if_neg g, if_pos (by omega)]
    rw [hc, Option.bind_some, if_neg (show ¬ (2 : Int) = 0 by decide), if_pos rfl]
    exact ⟨_, gC_thr e7 ⟨by unfold zr; omega, by decide⟩ (by simp [hs_at]), Or.inl ((zeqv.rf.h30 _).h30 _)⟩
end ZPURE1
end
section
section ZPURE2
/-! steps of kinds -/
abbrev PsS (h : HS) : Prop := (∀ i : Int, 0 ≤ i → i < 6 → h 32 i = h 3 i ∧ 0 ≤ h 3 i ∧ h 3 i ≤ 8) ∧ (∀ i j : Int, 0 ≤ i → i < 6 → 0 ≤ j → j < h 3 i → h 33 (3 * (8 * i + j)) = h 4 (i * 8 + j) ∧ h 33 (3 * (8 * i + j) + 1) = h 5 (i * 8 + j) ∧ h 33 (3 * (8 * i + j) + 2) = h 6 (i * 8 + j) ∧ (-3 ≤ h 4 (i * 8 + j) ∧ h 4 (i * 8 + j) ≤ 3) ∧ (-3 ≤ h 5 (i * 8 + j) ∧ h 5 (i * 8 + j) ≤ 3) ∧ ¬ (h 4 (i * 8 + j) = 0 ∧ h 5 (i * 8 + j) = 0) ∧ 1 ≤ h 6 (i * 8 + j) ∧ h 6 (i * 8 + j) ≤ 7)
theorem PsS.c {h : HS} (w : PsS h) : ∀ i : Int, 0 ≤ i → i < 6 → h 32 i = h 3 i ∧ 0 ≤ h 3 i ∧ h 3 i ≤ 8 := w.1
theorem PsS.s {h : HS} (w : PsS h) : ∀ i j : Int, 0 ≤ i → i < 6 → 0 ≤ j → j < h 3 i → h 33 (3 * (8 * i + j)) = h 4 (i * 8 + j) ∧ h 33 (3 * (8 * i + j) + 1) = h 5 (i * 8 + j) ∧ h 33 (3 * (8 * i + j) + 2) = h 6 (i * 8 + j) ∧ (-3 ≤ h 4 (i * 8 + j) ∧ h 4 (i * 8 + j) ≤ 3) ∧ (-3 ≤ h 5 (i * 8 + j) ∧ h 5 (i * 8 + j) ≤ 3) ∧ ¬ (h 4 (i * 8 + j) = 0 ∧ h 5 (i * 8 + j) = 0) ∧ 1 ≤ h 6 (i * 8 + j) ∧ h 6 (i * 8 + j) ≤ 7 := w.2
abbrev sStep (x y : Int) : Prop := (-3 ≤ x ∧ x ≤ 3) ∧ (-3 ≤ y ∧ y ≤ 3) ∧ ¬ (x = 0 ∧ y = 0)
theorem pX1_has {p : Int} {h : HS} (hp : zr p) (hn : 0 ≤ h 1 5 ∧ h 1 5 ≤ 6) : fX1_has p h = some (if 0 ≤ p ∧ p < h 1 5 then 1 else 0) := by
  unfold fX1_has
  rw [wr_of hp.1 hp.2, wr_of (z := h 1 5) (by omega) (by omega)]
  by_cases h1 : p < 0
  · rw [if_pos h1, if_neg (by omega)]
  · rw [if_neg h1]
    by_cases h2 : h 1 5 ≤ p
    · rw [if_pos h2, if_neg (by omega)]
    · rw [if_neg h2, if_pos (by omega)]
theorem pX5_isStep {x y : Int} {h : HS} (hx : zr x) (hy : zr y) : fX5_isStep x y h = some (if sStep x y then 1 else 0) := by
  unfold fX5_isStep
  rw [wr_of hx.1 hx.2, wr_of hy.1 hy.2]
  by_cases h1 : x < -3
  · rw [if_pos h1, if_neg (by omega)]
  rw [if_neg h1]
  by_cases h2 : 3 < x
  · rw [if_pos h2, if_neg (by omega)]
  rw [if_neg h2]
  by_cases h3 : y < -3
  · rw [if_pos h3, if_neg (by omega)]
  rw [if_neg h3]
  by_cases h4 : 3 < y
  · rw [if_pos h4, if_neg (by omega)]
  rw [if_neg h4]
  by_cases h5 : x = 0
  · rw [if_pos h5]
    by_cases h6 : y = 0
    · rw [if_pos h6, if_neg (by omega)]
    · rw [if_neg h6, if_pos (by omega)]
  · rw [if_neg h5, if_pos (by omega)]
def nStep (p x y r : Int) (h : HS) : HS := hs (hs (hs (hs h 4 (p * 8 + h 3 p) x) 5 (p * 8 + h 3 p) y) 6 (p * 8 + h 3 p) r) 3 p (h 3 p + 1)
def nStep6 (p x y r : Int) (h : HS) : HS := hs (hs (hs (hs h 33 (3 * (8 * p + h 32 p)) x) 33 (3 * (8 * p + h 32 p) + 1) y) 33 (3 * (8 * p + h 32 p) + 2) r) 32 p (h 32 p + 1)
theorem pX5_addStep {p x y r : Int} {h : HS} (hp : zr p) (hx : zr x) (hy : zr y) (hr : zr r) (hn : 0 ≤ h 1 5 ∧ h 1 5 ≤ 6) (hS : PsS h) (hN : PsN0 h) : fX5_addStep p x y r h = if 0 ≤ p ∧ p < h 1 5 then (if sStep x y ∧ 1 ≤ r ∧ r ≤ 7 then (if h 3 p < 8 ∧ h 9 8 ≤ 1 then some (0, h 3 p + 1, nStep p x y r h) else some (3, 0, h)) else some (2, 0, h)) else some (1, 0, h) := by
  obtain ⟨m, m2⟩ := id hN
  unfold fX5_addStep fX5_addStep_b42 fX5_addStep_b76 fX1_stepCount fX4_size fX1_includeStep
  rw [pX1_has hp hn, pX5_isStep hx hy, wr_of hr.1 hr.2, Option.bind_some, Option.bind_some]
  by_cases h1 : 0 ≤ p ∧ p < h 1 5
  · obtain ⟨c1, c2, c3⟩ := hS.c p h1.1 (by omega)
    have hp6 : 0 ≤ p ∧ p < 6 := ⟨h1.1, by omega⟩
    rw [if_pos h1, if_pos h1, if_neg (show ¬ wr 1 = 0 by decide), if_pos hp6]
    by_cases h2 : sStep x y
    · rw [if_pos h2, if_neg (show ¬ wr 1 = 0 by decide)]
      by_cases h3 : r < 1
      · rw [if_pos h3, if_neg (by omega)]
      · rw [if_neg h3]
        by_cases h4 : r ≤ 7
        · rw [if_pos h4, if_pos (show sStep x y ∧ 1 ≤ r ∧ r ≤ 7 from ⟨h2, by omega, h4⟩), Option.bind_some, if_neg (show ¬ wr 1 = 0 by decide), Option.bind_some, wr_of (z := h 3 p) (by omega) (by omega)]
          by_cases h5 : 8 ≤ h 3 p
          · rw [if_pos h5, if_neg (by omega)]
          · rw [if_neg h5, Option.bind_some, wr_of (z := h 9 8) (by omega) (by omega)]
            by_cases h6 : h 9 8 ≤ 1
            · have hk : 0 ≤ p * 8 + h 3 p ∧ p * 8 + h 3 p < 48 := by omega
              have h8 : h 3 p < 8 := by omega
              rw [if_pos h6, if_pos (show h 3 p < 8 ∧ h 9 8 ≤ 1 from ⟨h8, h6⟩)]
              simp only [Option.bind_some, if_neg (show ¬ wr 1 = 0 by decide), if_pos hp6, if_pos h8, if_pos hk]
              unfold nStep
              simp [hs_at]
            · rw [if_neg h6, if_neg (by omega)]
        · rw [if_neg h4, if_neg (by omega)]
    · rw [if_neg h2, if_pos wr_0, if_neg (fun e => h2 e.1)]
  · rw [if_neg h1, if_neg h1, if_pos wr_0]
theorem pX6_addStep {p x y r : Int} {h : HS} (hp : zr p) (hx : zr x) (hy : zr y) (hr : zr r) (hn : 0 ≤ h 30 1 ∧ h 30 1 ≤ 6) (hS : ∀ i : Int, 0 ≤ i → i < 6 → 0 ≤ h 32 i ∧ h 32 i ≤ 8) (hN : 1 ≤ h 30 8 ∧ h 30 8 ≤ 200) : fX6_addStep p x y r h = if 0 ≤ p ∧ p < h 30 1 then (if sStep x y ∧ 1 ≤ r ∧ r ≤ 7 then (if h 32 p < 8 ∧ h 30 8 ≤ 1 then some (h 32 p + 1, nStep6 p x y r (hs h 30 0 0)) else some (0, hs (hs h 30 0 0) 30 0 3)) else some (0, hs (hs h 30 0 0) 30 0 2)) else some (0, hs (hs h 30 0 0) 30 0 1) := by
  have z1 : hs h 30 0 0 30 1 = h 30 1 := by simp [hs_at]
  have z8 : hs h 30 0 0 30 8 = h 30 8 := by simp [hs_at]
  have z32 : ∀ i, hs h 30 0 0 32 i = h 32 i := fun i => by simp [hs_at]
  unfold fX6_addStep fX6_addStep_b64 fX6_addStep_b53 fX6_addStep_b89 fX6_addStep_b64 fX6_fail
  rw [z1, z8, pX6_isIn hp (by unfold zr; omega) (by unfold zr; omega), pX6_isIn hx (by unfold zr; omega) (by unfold zr; omega), pX6_isIn hy (by unfold zr; omega) (by unfold zr; omega), pX6_isIn hr (by unfold zr; omega) (by unfold zr; omega), z32, wr_of hx.1 hx.2, wr_of hy.1 hy.2, wr_of (z := h 30 8) (by omega) (by omega)]
  simp only [Option.bind_some]
  by_cases h1 : 0 ≤ p ∧ p < h 30 1
  · obtain ⟨c2, c3⟩ := hS p h1.1 (by omega)
    have hp6 : 0 ≤ p ∧ p < 6 := ⟨h1.1, by omega⟩
    rw [if_pos h1, if_pos (show 0 ≤ p ∧ p ≤ h 30 1 - 1 by omega), if_neg (show ¬ wr 1 = 0 by decide), wr_of (z := h 32 p) (by omega) (by omega)]
    have hb : (if wr (if 1 ≤ r ∧ r ≤ 7 then 1 else 0) = 0 then some ((0, hs (hs h 30 0 0) 30 0 2) : Int × HS) else if 0 ≤ p ∧ p < 6 then if h 32 p = 8 then some (0, hs (hs h 30 0 0) 30 0 3) else if h 30 8 ≤ 1 then some (h 32 p + 1, nStep6 p x y r (hs h 30 0 0)) else some (0, hs (hs h 30 0 0) 30 0 3) else none) = if 1 ≤ r ∧ r ≤ 7 then (if h 32 p < 8 ∧ h 30 8 ≤ 1 then some (h 32 p + 1, nStep6 p x y r (hs h 30 0 0)) else some (0, hs (hs h 30 0 0) 30 0 3)) else some (0, hs (hs h 30 0 0) 30 0 2) := by
      by_cases h3 : 1 ≤ r ∧ r ≤ 7
      · rw [if_pos h3, if_neg (show ¬ wr 1 = 0 by decide), if_pos hp6, if_pos h3]
        by_cases h4 : h 32 p = 8
        · rw [if_pos h4, if_neg (by omega)]
        · rw [if_neg h4]
          by_cases h5 : h 30 8 ≤ 1
          · rw [if_pos h5, if_pos ⟨by omega, h5⟩]
          · rw [if_neg h5, if_neg (by omega)]
      · rw [if_neg h3, if_neg h3, if_pos wr_0]
    have hs2 : hs (hs (hs (hs (hs h 30 0 0) 33 (3 * (8 * p + h 32 p)) x) 33 (3 * (8 * p + h 32 p) + 1) y) 33 (3 * (8 * p + h 32 p) + 2) r) 32 p (hs (hs (hs (hs h 30 0 0) 33 (3 * (8 * p + h 32 p)) x) 33 (3 * (8 * p + h 32 p) + 1) y) 33 (3 * (8 * p + h 32 p) + 2) r 32 p + 1) = nStep6 p x y r (hs h 30 0 0) := by
      unfold nStep6
      simp [hs_at]
    have hs3 : nStep6 p x y r (hs h 30 0 0) 32 p = h 32 p + 1 := by
      unfold nStep6
      simp [hs_at]
    have hk : 0 ≤ 3 * (8 * p + h 32 p) ∧ 3 * (8 * p + h 32 p) + 2 < 144 ∨ h 32 p = 8 := by omega
    have hb2 : (if wr (if 1 ≤ r ∧ r ≤ 7 then 1 else 0) = 0 then some ((0, hs (hs h 30 0 0) 30 0 2) : Int × HS) else if 0 ≤ p ∧ p < 6 then if h 32 p = 8 then some (0, hs (hs h 30 0 0) 30 0 3) else if h 30 8 ≤ 1 then if 0 ≤ p ∧ p < 6 then if 0 ≤ 3 * (8 * p + h 32 p) ∧ 3 * (8 * p + h 32 p) < 144 then if 0 ≤ 3 * (8 * p + h 32 p) + 1 ∧ 3 * (8 * p + h 32 p) + 1 < 144 then if 0 ≤ 3 * (8 * p + h 32 p) + 2 ∧ 3 * (8 * p + h 32 p) + 2 < 144 then if 0 ≤ p ∧ p < 6 then if 0 ≤ p ∧ p < 6 then if 0 ≤ p ∧ p < 6 then some (h 32 p + 1, nStep6 p x y r (hs h 30 0 0)) else none else none else none else none else none else none else none else some (0, hs (hs h 30 0 0) 30 0 3) else none) = if 1 ≤ r ∧ r ≤ 7 then (if h 32 p < 8 ∧ h 30 8 ≤ 1 then some (h 32 p + 1, nStep6 p x y r (hs h 30 0 0)) else some (0, hs (hs h 30 0 0) 30 0 3)) else some (0, hs (hs h 30 0 0) 30 0 2) := by
      rw [← hb]
      by_cases h4 : h 32 p = 8
      · simp only [if_pos h4]
      · have hk1 : 0 ≤ 3 * (8 * p + h 32 p) ∧ 3 * (8 * p + h 32 p) < 144 := by omega
        have hk2 : 0 ≤ 3 * (8 * p + h 32 p) + 1 ∧ 3 * (8 * p + h 32 p) + 1 < 144 := by omega
        have hk3 : 0 ≤ 3 * (8 * p + h 32 p) + 2 ∧ 3 * (8 * p + h 32 p) + 2 < 144 := by omega
        simp only [if_neg h4, if_pos hk1, if_pos hk2, if_pos hk3, if_pos hp6]
    rw [hs2, hs3]
    by_cases hx1 : -3 ≤ x ∧ x ≤ 3
    · rw [if_pos hx1, if_neg (show ¬ wr 1 = 0 by decide)]
      by_cases hy1 : -3 ≤ y ∧ y ≤ 3
      · rw [if_pos hy1, if_neg (show ¬ wr 1 = 0 by decide)]
        by_cases h0 : x = 0 ∧ y = 0
        · rw [if_pos h0.1, if_pos h0.2, if_neg (fun e => e.1.2.2 h0)]
        · have e1 : (if sStep x y ∧ 1 ≤ r ∧ r ≤ 7 then (if h 32 p < 8 ∧ h 30 8 ≤ 1 then some (h 32 p + 1, nStep6 p x y r (hs h 30 0 0)) else some (0, hs (hs h 30 0 0) 30 0 3)) else some (0, hs (hs h 30 0 0) 30 0 2)) = if 1 ≤ r ∧ r ≤ 7 then (if h 32 p < 8 ∧ h 30 8 ≤ 1 then some (h 32 p + 1, nStep6 p x y r (hs h 30 0 0)) else some (0, hs (hs h 30 0 0) 30 0 3)) else some (0, hs (hs h 30 0 0) 30 0 2) := by
            by_cases h3 : 1 ≤ r ∧ r ≤ 7
            · rw [if_pos h3, if_pos ⟨⟨hx1, hy1, h0⟩, h3⟩]
            · rw [if_neg h3, if_neg (fun e => h3 e.2)]
          rw [e1, ← hb2]
          by_cases h5 : x = 0
          · rw [if_pos h5, if_neg (fun e => h0 ⟨h5, e⟩)]
          · rw [if_neg h5]
      · rw [if_neg hy1, if_pos wr_0, if_neg (fun e => hy1 e.1.2.1)]
    · rw [if_neg hx1, if_pos wr_0, if_neg (fun e => hx1 e.1.1)]
  · rw [if_neg h1, if_neg (show ¬ (0 ≤ p ∧ p ≤ h 30 1 - 1) by omega), if_pos wr_0]
theorem pc_1 {p x y r : Int} {h : HS} (hp : zr p) (hx : zr x) (hy : zr y) (hr : zr r) (hn : 0 ≤ h 1 5 ∧ h 1 5 ≤ 6) (hn2 : h 30 1 = h 1 5) (hS : PsS h) (hN : PsN0 h) : ∃ o, fL_c1 p x y r h = some o ∧ (zeqv o h ∨ ((0 ≤ p ∧ p < h 1 5) ∧ (sStep x y ∧ 1 ≤ r ∧ r ≤ 7) ∧ h 3 p < 8 ∧ zeqv o (nStep6 p x y r (nStep p x y r h)))) := by
  have eg : fL_c1 p x y r h = gC (fL_addStep p x y r h) (fX6_addStep p x y r) := rfl
  obtain ⟨m, m2⟩ := id hN
  have e7 := pX6_addStep (h := h) hp hx hy hr (by omega) (fun i i0 i1 => by obtain ⟨c1, c2, c3⟩ := hS.c i i0 i1; omega) (by omega)
  rw [hn2] at e7
  rw [eg]
  unfold fL_addStep
  rw [pX5_addStep hp hx hy hr hn hS hN]
  by_cases h1 : 0 ≤ p ∧ p < h 1 5
  · obtain ⟨c1, c2, c3⟩ := hS.c p h1.1 (by omega)
    rw [if_pos h1] at e7 ⊢
    by_cases h2 : sStep x y ∧ 1 ≤ r ∧ r ≤ 7
    · rw [if_pos h2] at e7 ⊢
      by_cases h3 : h 3 p < 8 ∧ h 9 8 ≤ 1
      · rw [if_pos h3, Option.bind_some, if_pos rfl]
        have ek := pX6_addStep (h := hs (nStep p x y r h) 50 0 (wr (h 3 p + 1))) hp hx hy hr (by unfold nStep; simp [hs_at]; omega) (fun i i0 i1 => by obtain ⟨c1, c2, c3⟩ := hS.c i i0 i1; unfold nStep; simp [hs_at]; omega) (by unfold nStep; simp [hs_at]; omega)
        rw [if_pos (by unfold nStep; simp [hs_at]; omega), if_pos h2, if_pos (by unfold nStep; simp [hs_at]; omega)] at ek
        refine ⟨_, gC_ok ek (by show zr (h 3 p + 1); unfold zr; omega) ?_ ?_ ?_, Or.inr ⟨h1, h2, h3.1, ?_⟩⟩
        · unfold nStep; simp [hs_at]; omega
        · unfold nStep6; simp [hs_at]
        · unfold nStep6; simp [hs_at]
        · intro a b g1 g2
          unfold nStep6 nStep
          simp only [hs_at]
          by_cases ha : a = 30
          · subst ha
            have hb : b ≠ 0 := fun e => g2 ⟨rfl, e⟩
            simp [hb]
          · simp [ha, g1]
      · rw [if_neg h3, Option.bind_some, if_neg (show ¬ (3 : Int) = 0 by decide), if_neg (show ¬ (3 : Int) = 1 by decide), if_neg (show ¬ (3 : Int) = 2 by decide), if_pos rfl]
        rw [if_neg (by omega)] at e7
        exact ⟨_, gC_thr e7 ⟨by unfold zr; omega, by decide⟩ (by simp [hs_at]), Or.inl ((zeqv.rf.h30 _).h30 _)⟩
    · rw [if_neg h2] at e7 ⊢
      rw [Option.bind_some, if_neg (show ¬ (2 : Int) = 0 by decide), if_neg (show ¬ (2 : Int) = 1 by decide), if_pos rfl]
      exact ⟨_, gC_thr e7 ⟨by unfold zr; omega, by decide⟩ (by simp [hs_at]), Or.inl ((zeqv.rf.h30 _).h30 _)⟩
  · rw [if_neg h1] at e7 ⊢
    rw [Option.bind_some, if_neg (show ¬ (1 : Int) = 0 by decide), if_pos rfl]
    exact ⟨_, gC_thr e7 ⟨by unfold zr; omega, by decide⟩ (by simp [hs_at]), Or.inl ((zeqv.rf.h30 _).h30 _)⟩
end ZPURE2
end
section
section ZPURE3
/-! put -/
def pVal (x y : Int) : Int := if x = -1 then -1 else 2 * x + y
def nPut (p v : Int) (h : HS) : HS := hs (hs (hs h 8 p v) 34 p v) 35 p v
theorem pX5_put {p x y : Int} {h : HS} (hp : zr p) (hx : zr x) (hy : zr y) (hn : 0 ≤ h 1 5 ∧ h 1 5 ≤ 6) (hN : PsN0 h) : fX5_put p x y h = if (0 ≤ p ∧ p < 64) ∧ (x = -1 ∨ (0 ≤ x ∧ x < h 1 5)) then (if y = 0 ∨ y = 1 then (if h 9 8 ≤ 1 then some (0, h 8 p, hs h 8 p (pVal x y)) else some (3, 0, h)) else some (2, 0, h)) else some (1, 0, h) := by
  obtain ⟨m, m2⟩ := id hN
  have hb : fX5_put_b33 p x y h = if y = 0 ∨ y = 1 then fX5_put_b52 p x y h else some (2, 0, h) := by
    unfold fX5_put_b33
    rw [wr_of hy.1 hy.2]
    by_cases h1 : y = 0
    · rw [if_pos h1, if_pos (Or.inl h1)]
    · rw [if_neg h1]
      by_cases h2 : y = 1
      · rw [if_pos h2, if_pos (Or.inr h2)]
      · rw [if_neg h2, if_neg (by omega)]
  have hc : 0 ≤ p ∧ p < 64 → fX5_put_b52 p x y h = if h 9 8 ≤ 1 then some (0, h 8 p, hs h 8 p (pVal x y)) else some (3, 0, h) := by
    intro h1
    unfold fX5_put_b52 fX5_put_b92 fX0_replace fX4_size pVal
    rw [fX5_isSq hp, Option.bind_some, wr_of (z := h 9 8) (by omega) (by omega), wr_of hx.1 hx.2, if_pos h1]
    by_cases h2 : h 9 8 ≤ 1
    · rw [if_pos h2, if_pos h2]
      by_cases h3 : x = -1
      · simp only [if_pos h3, if_pos h1, Option.bind_some, if_neg (show ¬ wr 1 = 0 by decide)]
      · simp only [if_neg h3, if_pos h1, Option.bind_some, if_neg (show ¬ wr 1 = 0 by decide)]
    · rw [if_neg h2, if_neg h2]
  unfold fX5_put fX5_put_b23
  rw [fX5_isSq hp, pX1_has hx hn, Option.bind_some, Option.bind_some, wr_of hx.1 hx.2, hb]
  by_cases h1 : 0 ≤ p ∧ p < 64
  · rw [if_pos h1, if_neg (show ¬ wr 1 = 0 by decide), hc h1]
    by_cases h2 : x = -1
    · rw [if_pos h2, if_pos (show (0 ≤ p ∧ p < 64) ∧ (x = -1 ∨ (0 ≤ x ∧ x < h 1 5)) from ⟨h1, Or.inl h2⟩)]
    · rw [if_neg h2]
      by_cases h3 : 0 ≤ x ∧ x < h 1 5
      · rw [if_pos h3, if_neg (show ¬ wr 1 = 0 by decide), if_pos (show (0 ≤ p ∧ p < 64) ∧ (x = -1 ∨ (0 ≤ x ∧ x < h 1 5)) from ⟨h1, Or.inr h3⟩)]
      · rw [if_neg h3, if_pos wr_0, if_neg (show ¬ ((0 ≤ p ∧ p < 64) ∧ (x = -1 ∨ (0 ≤ x ∧ x < h 1 5))) by omega)]
  · rw [if_neg h1, if_pos wr_0, if_neg (show ¬ ((0 ≤ p ∧ p < 64) ∧ (x = -1 ∨ (0 ≤ x ∧ x < h 1 5))) from fun e => h1 e.1)]
theorem pX6_put {p x y : Int} {h : HS} (hp : zr p) (hx : zr x) (hy : zr y) (hn : 0 ≤ h 30 1 ∧ h 30 1 ≤ 6) (hN : 1 ≤ h 30 8 ∧ h 30 8 ≤ 200) : fX6_put p x y h = if (0 ≤ p ∧ p < 64) ∧ (x = -1 ∨ (0 ≤ x ∧ x < h 30 1)) then (if y = 0 ∨ y = 1 then (if h 30 8 ≤ 1 then some (h 34 p, hs (hs (hs h 30 0 0) 34 p (pVal x y)) 35 p (pVal x y)) else some (0, hs (hs h 30 0 0) 30 0 3)) else some (0, hs (hs h 30 0 0) 30 0 2)) else some (0, hs (hs h 30 0 0) 30 0 1) := by
  have z1 : hs h 30 0 0 30 1 = h 30 1 := by simp [hs_at]
  have z8 : hs h 30 0 0 30 8 = h 30 8 := by simp [hs_at]
  have z34 : ∀ i, hs h 30 0 0 34 i = h 34 i := fun i => by simp [hs_at]
  have hb : 0 ≤ p ∧ p < 64 → fX6_put_b37 p x y (hs h 30 0 0) = if y = 0 ∨ y = 1 then (if h 30 8 ≤ 1 then some (h 34 p, hs (hs (hs h 30 0 0) 34 p (pVal x y)) 35 p (pVal x y)) else some (0, hs (hs h 30 0 0) 30 0 3)) else some (0, hs (hs h 30 0 0) 30 0 2) := by
    intro h1
    unfold fX6_put_b37 fX6_put_b93 fX6_fail pVal
    rw [pX6_isIn hy (by unfold zr; omega) (by unfold zr; omega), Option.bind_some, z8, z34, wr_of (z := h 30 8) (by omega) (by omega), wr_of hx.1 hx.2]
    have hv : ∀ v : Int, hs (hs h 30 0 0) 34 p v 34 p = v := fun v => by simp [hs_at]
    by_cases h2 : y = 0 ∨ y = 1
    · rw [if_pos h2, if_pos (show 0 ≤ y ∧ y ≤ 1 by omega), if_neg (show ¬ wr 1 = 0 by decide)]
      by_cases h3 : h 30 8 ≤ 1
      · rw [if_pos h3, if_pos h3, if_pos h1]
        by_cases h4 : x = -1
        · simp only [if_pos h4, if_pos h1, hv]
        · simp only [if_neg h4, if_pos h1, hv]
      · rw [if_neg h3, if_neg h3]
        rfl
    · rw [if_neg h2, if_neg (show ¬ (0 ≤ y ∧ y ≤ 1) by omega), if_pos wr_0]
      rfl
  unfold fX6_put fX6_put_b31 fX6_fail
  rw [fX6_isSq hp, z1, pX6_isIn hx (by unfold zr; omega) (by unfold zr; omega), Option.bind_some, Option.bind_some, wr_of hx.1 hx.2]
  by_cases h1 : 0 ≤ p ∧ p < 64
  · rw [if_pos h1, if_neg (show ¬ wr 1 = 0 by decide), hb h1]
    by_cases h2 : x = -1
    · rw [if_pos h2, if_pos (show (0 ≤ p ∧ p < 64) ∧ (x = -1 ∨ (0 ≤ x ∧ x < h 30 1)) from ⟨h1, Or.inl h2⟩)]
    · rw [if_neg h2]
      by_cases h3 : 0 ≤ x ∧ x < h 30 1
      · rw [if_pos (show 0 ≤ x ∧ x ≤ h 30 1 - 1 by omega), Option.bind_some, if_neg (show ¬ wr 1 = 0 by decide), if_pos (show (0 ≤ p ∧ p < 64) ∧ (x = -1 ∨ (0 ≤ x ∧ x < h 30 1)) from ⟨h1, Or.inr h3⟩)]
      · rw [if_neg (show ¬ (0 ≤ x ∧ x ≤ h 30 1 - 1) by omega), Option.bind_some, if_pos wr_0, if_neg (show ¬ ((0 ≤ p ∧ p < 64) ∧ (x = -1 ∨ (0 ≤ x ∧ x < h 30 1))) by omega)]
  · rw [if_neg h1, if_pos wr_0, if_neg (show ¬ ((0 ≤ p ∧ p < 64) ∧ (x = -1 ∨ (0 ≤ x ∧ x < h 30 1))) from fun e => h1 e.1)]
theorem pc_2 {p x y : Int} {h : HS} (hp : zr p) (hx : zr x) (hy : zr y) (hB : PsB h) (hN : PsN0 h) (hF : h 9 8 ≤ 1 → ∀ s : Int, 0 ≤ s → s < 64 → h 34 s = h 8 s) : ∃ o, fL_c2 p x y h = some o ∧ (zeqv o h ∨ ((0 ≤ p ∧ p < 64) ∧ (x = -1 ∨ (0 ≤ x ∧ x < h 1 5)) ∧ (y = 0 ∨ y = 1) ∧ h 9 8 ≤ 1 ∧ zeqv o (nPut p (pVal x y) h))) := by
  have eg : fL_c2 p x y h = gC (fL_put p x y h) (fX6_put p x y) := rfl
  obtain ⟨m, m2⟩ := id hN
  obtain ⟨n, n2, hb⟩ := id hB
  have e7 := pX6_put (h := h) hp hx hy (by omega) (by omega)
  rw [n2, m2] at e7
  rw [eg]
  unfold fL_put
  rw [pX5_put hp hx hy n hN]
  by_cases h1 : (0 ≤ p ∧ p < 64) ∧ (x = -1 ∨ (0 ≤ x ∧ x < h 1 5))
  · obtain ⟨b1, b2, b3⟩ := hb p h1.1.1 h1.1.2
    rw [if_pos h1] at e7 ⊢
    by_cases h2 : y = 0 ∨ y = 1
    · rw [if_pos h2] at e7 ⊢
      by_cases h3 : h 9 8 ≤ 1
      · rw [if_pos h3, Option.bind_some, if_pos rfl]
        have ek := pX6_put (h := hs (hs h 8 p (pVal x y)) 50 0 (wr (h 8 p))) hp hx hy (by simp [hs_at]; omega) (by simp [hs_at]; omega)
        rw [if_pos (by simp only [hs_at]; simp [n2]; exact ⟨h1.1, h1.2⟩), if_pos h2, if_pos (by simp [hs_at]; omega)] at ek
        refine ⟨_, gC_ok ek (by show zr (h 8 p); unfold zr; omega) ?_ ?_ ?_, Or.inr ⟨h1.1, h1.2, h2, h3, ?_⟩⟩
        · simp [hs_at]; exact (hF h3 p h1.1.1 h1.1.2).symm
        · simp [hs_at]
        · simp [hs_at]
        · intro a b g1 g2
          unfold nPut
          simp only [hs_at]
          by_cases ha : a = 30
          · subst ha
            have hb : b ≠ 0 := fun e => g2 ⟨rfl, e⟩
            simp [hb]
          · simp [ha, g1]
      · rw [if_neg h3, Option.bind_some, if_neg (show ¬ (3 : Int) = 0 by decide), if_neg (show ¬ (3 : Int) = 1 by decide), if_neg (show ¬ (3 : Int) = 2 by decide), if_pos rfl]
        rw [if_neg h3] at e7
        exact ⟨_, gC_thr e7 ⟨by unfold zr; omega, by decide⟩ (by simp [hs_at]), Or.inl ((zeqv.rf.h30 _).h30 _)⟩
    · rw [if_neg h2] at e7 ⊢
      rw [Option.bind_some, if_neg (show ¬ (2 : Int) = 0 by decide), if_neg (show ¬ (2 : Int) = 1 by decide), if_pos rfl]
      exact ⟨_, gC_thr e7 ⟨by unfold zr; omega, by decide⟩ (by simp [hs_at]), Or.inl ((zeqv.rf.h30 _).h30 _)⟩
  · rw [if_neg h1] at e7 ⊢
    rw [Option.bind_some, if_neg (show ¬ (1 : Int) = 0 by decide), if_pos rfl]
    exact ⟨_, gC_thr e7 ⟨by unfold zr; omega, by decide⟩ (by simp [hs_at]), Or.inl ((zeqv.rf.h30 _).h30 _)⟩
end ZPURE3
end
section
section ZPURE4
/-! feed -/
def apT (p : Int) (h : HS) : HS := hs (hs h 20 (h 19 1) p) 19 1 (h 19 1 + 1)
def apU (p : Int) (h : HS) : HS := if p = -1 then h else apT p h
def mdU (p x : Int) (h : HS) : HS := if p = -1 then h else hs h 39 x p
def xU (p x : Int) : Int := if p = -1 then x else x + 1
abbrev byN (p : Int) : Prop := -1 ≤ p ∧ p ≤ 255
theorem pX3_append {p : Int} {h : HS} (hn : 0 ≤ h 19 1 ∧ h 19 1 < 2000) : fX3_append p h = some (apT p h) := by
  unfold fX3_append apT
  have e : hs h 20 (h 19 1) p 19 1 = h 19 1 := by simp [hs_at]
  rw [wr_of (z := h 19 1) (by omega) (by omega), if_neg (by omega), if_pos (by omega), e]
theorem pX5_apU {p : Int} {h : HS} (hp : byN p) (hn : 0 ≤ h 19 1 ∧ (p = -1 ∨ h 19 1 < 2000)) : fX5_appendUnlessNothing p h = some (apU p h) := by
  unfold fX5_appendUnlessNothing apU
  rw [wr_of (z := p) (by omega) (by omega)]
  by_cases h1 : p = -1
  · rw [if_pos h1, if_pos h1]
  · rw [if_neg h1, if_neg h1, pX3_append (by omega)]
    rfl
theorem apU_size (p : Int) (h : HS) : apU p h 19 1 = xU p (h 19 1) := by
  unfold apU xU
  by_cases h1 : p = -1
  · rw [if_pos h1, if_pos h1]
  · rw [if_neg h1, if_neg h1]
    unfold apT
    simp [hs_at]
theorem mdU_at {p x : Int} {h : HS} {a : Nat} {b : Int} (ha : a ≠ 39) : mdU p x h a b = h a b := by
  unfold mdU
  by_cases h1 : p = -1
  · rw [if_pos h1]
  · rw [if_neg h1, hs_at, if_neg ha]
theorem apU_at {p : Int} {h : HS} {a : Nat} {b : Int} (ha : a ≠ 19) (hb : a ≠ 20) : apU p h a b = h a b := by
  unfold apU apT
  by_cases h1 : p = -1
  · rw [if_pos h1]
  · rw [if_neg h1, hs_at, if_neg ha, hs_at, if_neg hb]
/-- both tapes alike up to x -/
def eqT (hc hm : HS) (x : Int) : Prop := (hc 19 1 = x ∧ 0 ≤ x ∧ x ≤ 2000) ∧ ∀ i : Int, 0 ≤ i → i < x → hm 39 i = hc 20 i ∧ 0 ≤ hc 20 i ∧ hc 20 i ≤ 255
theorem eqT.step {hc hm : HS} {x p : Int} (hp : byN p) (h : eqT hc hm x) (hx : p = -1 ∨ x < 2000) : eqT (apU p hc) (mdU p x hm) (xU p x) := by
  obtain ⟨⟨h1, h2, h3⟩, h4⟩ := h
  unfold apU mdU xU
  by_cases hp1 : p = -1
  · rw [if_pos hp1, if_pos hp1, if_pos hp1]
    exact ⟨⟨h1, h2, h3⟩, h4⟩
  · rw [if_neg hp1, if_neg hp1, if_neg hp1]
    refine ⟨⟨by unfold apT; simp [hs_at, h1], by omega, by omega⟩, fun i i0 i1 => ?_⟩
    unfold apT
    have e1 : hs (hs hc 20 (hc 19 1) p) 19 1 (hc 19 1 + 1) 20 i = if i = x then p else hc 20 i := by simp [hs_at, h1]
    have e2 : hs hm 39 x p 39 i = if i = x then p else hm 39 i := by simp [hs_at]
    rw [e1, e2]
    by_cases hi : i = x
    · rw [if_pos hi, if_pos hi]
      omega
    · rw [if_neg hi, if_neg hi]
      exact h4 i i0 (by omega)
theorem eqT.model {hc hm hm2 : HS} {x : Int} (h : eqT hc hm x) (e : ∀ i, hm2 39 i = hm 39 i) : eqT hc hm2 x := ⟨h.1, fun i i0 i1 => by rw [e]; exact h.2 i i0 i1⟩
theorem pX6_feedL {x j : Int} {H : HS} {nf : Nat} (hj : 0 ≤ j ∧ j < 3) (hv : byN (H 91 j)) (hx : 0 ≤ x ∧ x ≤ 2000 ∧ (H 91 j = -1 ∨ x < 2000)) : fX6_feed_L157 (nf + 1) x 3 j H = fX6_feed_L157 nf (xU (H 91 j) x) 3 (j + 1) (mdU (H 91 j) x H) := by
  rw [fX6_feed_L157]
  unfold fX6_feed_b191 xU mdU
  rw [wr_of (z := 3) (by omega) (by omega), wr_of (z := j) (by omega) (by omega), if_neg (by omega), if_pos hj, wr_of (z := H 91 j) (by omega) (by omega)]
  by_cases h1 : H 91 j = -1
  · rw [if_neg (by omega), if_pos h1, if_pos h1]
  · rw [if_pos (by omega), if_pos (by omega), if_neg h1, if_neg h1]
theorem pX6_feedE {x : Int} {H : HS} {nf : Nat} : fX6_feed_L157 (nf + 1) x 3 3 H = some (x, hz (hs H 30 13 x) 91) := by
  rw [fX6_feed_L157]
  rw [if_pos (Int.le_refl _)]
  have e : hs H 30 13 x 30 13 = x := by simp [hs_at]
  rw [e]
end ZPURE4
end
section
section ZPURE5
abbrev fdOk (p q r t : Int) : Prop := (0 ≤ p ∧ p ≤ 255) ∧ byN q ∧ byN r ∧ byN t
def fdN (q r t x : Int) : Int := xU t (xU r (xU q (x + 1)))
theorem xU_le (p x : Int) : x ≤ xU p x ∧ xU p x ≤ x + 1 ∧ (xU p x = x ↔ p = -1) := by
  unfold xU
  by_cases h : p = -1
  · rw [if_pos h]; omega
  · rw [if_neg h]; omega
theorem pX5_isBN {p : Int} {h : HS} (hp : zr p) : fX5_isByteOrNothing p h = some (if byN p then 1 else 0) := by
  unfold fX5_isByteOrNothing
  rw [wr_of hp.1 hp.2]
  by_cases h1 : p < -1
  · rw [if_pos h1, if_neg (by omega)]
  · rw [if_neg h1]
    by_cases h2 : 255 < p
    · rw [if_pos h2, if_neg (by omega)]
    · rw [if_neg h2, if_pos (by omega)]
theorem pX5_countB {p : Int} {h : HS} (hp : zr p) : fX5_countByte p h = some (xU p 0) := by
  unfold fX5_countByte xU
  rw [wr_of hp.1 hp.2]
  by_cases h1 : p = -1
  · rw [if_pos h1, if_pos h1]
  · rw [if_neg h1, if_neg h1]
    rfl
theorem xU_add (p x : Int) : xU p x = x + xU p 0 := by
  unfold xU
  by_cases h : p = -1
  · rw [if_pos h, if_pos h]; omega
  · rw [if_neg h, if_neg h]; omega
theorem pX5_feed {p q r t : Int} {h : HS} (hp : zr p) (hq : zr q) (hr : zr r) (ht : zr t) (hn : 0 ≤ h 19 1 ∧ h 19 1 ≤ 2000) : fX5_feed p q r t h = if fdOk p q r t then (if fdN q r t (h 19 1) ≤ 2000 then some (0, fdN q r t (h 19 1), apU t (apU r (apU q (apT p h)))) else some (3, 0, h)) else some (2, 0, h) := by
  unfold fX5_feed fX5_feed_b33
  rw [wr_of hp.1 hp.2, pX5_isBN hq, pX5_isBN hr, pX5_isBN ht, pX5_countB hq, pX5_countB hr, pX5_countB ht]
  by_cases h1 : p < 0
  · rw [if_pos h1, if_neg (by omega)]
  rw [if_neg h1]
  by_cases h2 : 255 < p
  · rw [if_pos h2, if_neg (by omega)]
  rw [if_neg h2, Option.bind_some]
  by_cases h3 : byN q
  · rw [if_pos h3, if_neg (show ¬ wr 1 = 0 by decide), Option.bind_some]
    by_cases h4 : byN r
    · rw [if_pos h4, if_neg (show ¬ wr 1 = 0 by decide), Option.bind_some]
      by_cases h5 : byN t
      · rw [if_pos h5, if_neg (show ¬ wr 1 = 0 by decide), if_pos (show fdOk p q r t from ⟨⟨by omega, by omega⟩, h3, h4, h5⟩)]
        simp only [Option.bind_some, fX3_size]
        have a1 := xU_add q (h 19 1 + 1)
        have a2 := xU_add r (xU q (h 19 1 + 1))
        have a3 := xU_add t (xU r (xU q (h 19 1 + 1)))
        have b1 := xU_le q 0
        have b2 := xU_le r 0
        have b3 := xU_le t 0
        have e : h 19 1 + (1 + xU q 0 + xU r 0 + xU t 0) = fdN q r t (h 19 1) := by unfold fdN; omega
        rw [e, wr_of (z := fdN q r t (h 19 1)) (by unfold fdN; omega) (by unfold fdN; omega)]
        by_cases h6 : fdN q r t (h 19 1) ≤ 2000
        · rw [if_pos h6, if_pos h6]
          have h6' := h6
          unfold fdN at h6'
          have s1 : apT p h 19 1 = h 19 1 + 1 := by unfold apT; simp [hs_at]
          have s2 := apU_size q (apT p h)
          have s3 := apU_size r (apU q (apT p h))
          have s4 := apU_size t (apU r (apU q (apT p h)))
          rw [s1] at s2
          rw [s2] at s3
          rw [s3] at s4
          rw [pX3_append (by omega), Option.bind_some, pX5_apU h3 (by rw [s1]; omega), Option.bind_some, pX5_apU h4 (by rw [s2]; omega), Option.bind_some, pX5_apU h5 (by rw [s3]; omega), Option.bind_some, s4]
          rfl
        · rw [if_neg h6, if_neg h6]
      · rw [if_neg h5, if_pos wr_0, if_neg (fun e => h5 e.2.2.2)]
    · rw [if_neg h4, if_pos wr_0, if_neg (fun e => h4 e.2.2.1)]
  · rw [if_neg h3, if_pos wr_0, if_neg (fun e => h3 e.2.1)]
def fdT (p q r t : Int) (h : HS) : HS := hs (hs (hs (hz (hs h 39 (h 30 13) p) 91) 91 0 q) 91 1 r) 91 2 t
def fdM (p q r t : Int) (h : HS) : HS := mdU t (xU r (xU q (h 30 13 + 1))) (mdU r (xU q (h 30 13 + 1)) (mdU q (h 30 13 + 1) (fdT p q r t h)))
def fdE (p q r t : Int) (h : HS) : HS := hz (hs (fdM p q r t h) 30 13 (fdN q r t (h 30 13))) 91
theorem pX6_b87 {p q r t s0 s1 : Int} {h : HS} (hq : byN q) (hr : byN r) (ht : byN t) (hn : 0 ≤ h 30 13 ∧ h 30 13 ≤ 2000) (hs01 : h 30 13 + (s0 + s1) = fdN q r t (h 30 13)) : fX6_feed_b87 p q r t s0 s1 h = if fdN q r t (h 30 13) ≤ 2000 then some (fdN q r t (h 30 13), fdE p q r t h) else some (0, hs h 30 0 2) := by
  have a1 := xU_le q (h 30 13 + 1)
  have a2 := xU_le r (xU q (h 30 13 + 1))
  have a3 := xU_le t (xU r (xU q (h 30 13 + 1)))
  unfold fX6_feed_b87 fX6_fail
  rw [hs01, wr_of (z := fdN q r t (h 30 13)) (by unfold fdN; omega) (by unfold fdN; omega)]
  by_cases h1 : fdN q r t (h 30 13) ≤ 2000
  · rw [if_pos h1, if_pos h1]
    have h1' := h1
    unfold fdN at h1'
    have e0 : hs h 39 (h 30 13) p 30 13 = h 30 13 := by simp [hs_at]
    rw [if_pos (show 0 ≤ h 30 13 ∧ h 30 13 < 2000 by omega), if_pos (by omega), if_pos (by omega), if_pos (by omega), e0]
    show fX6_feed_L157 (4996 + 1 + 1 + 1 + 1) (h 30 13 + 1) 3 0 (fdT p q r t h) = _
    have v0 : fdT p q r t h 91 0 = q := by unfold fdT; simp [hs_at]
    have v1 : mdU q (h 30 13 + 1) (fdT p q r t h) 91 1 = r := by rw [mdU_at (by decide)]; unfold fdT; simp [hs_at]
    have v2 : mdU r (xU q (h 30 13 + 1)) (mdU q (h 30 13 + 1) (fdT p q r t h)) 91 2 = t := by rw [mdU_at (by decide), mdU_at (by decide)]; unfold fdT; simp [hs_at]
    rw [pX6_feedL (by omega) (by rw [v0]; exact hq) (by rw [v0]; omega), v0, Int.zero_add]
    rw [pX6_feedL (by omega) (by rw [v1]; exact hr) (by rw [v1]; omega), v1]
    rw [show (1 : Int) + 1 = 2 from rfl, pX6_feedL (by omega) (by rw [v2]; exact ht) (by rw [v2]; omega), v2]
    rw [show (2 : Int) + 1 = 3 from rfl, pX6_feedE]
    rfl
  · rw [if_neg h1, if_neg h1]
    rfl
theorem pX6_feed {p q r t : Int} {h : HS} (hp : zr p) (hq : zr q) (hr : zr r) (ht : zr t) (hn : 0 ≤ h 30 13 ∧ h 30 13 ≤ 2000) : fX6_feed p q r t h = if fdOk p q r t then (if fdN q r t (h 30 13) ≤ 2000 then some (fdN q r t (h 30 13), fdE p q r t (hs h 30 0 0)) else some (0, hs (hs h 30 0 0) 30 0 2)) else some (0, hs (hs h 30 0 0) 30 0 1) := by
  have z : hs h 30 0 0 30 13 = h 30 13 := by simp [hs_at]
  unfold fX6_feed fX6_feed_b50 fX6_fail
  rw [pX6_isIn hp (by unfold zr; omega) (by unfold zr; omega), pX6_isIn hq (by unfold zr; omega) (by unfold zr; omega), pX6_isIn hr (by unfold zr; omega) (by unfold zr; omega), pX6_isIn ht (by unfold zr; omega) (by unfold zr; omega), wr_of hq.1 hq.2, Option.bind_some]
  by_cases h1 : 0 ≤ p ∧ p ≤ 255
  · rw [if_pos h1, if_neg (show ¬ wr 1 = 0 by decide), Option.bind_some]
    by_cases h3 : byN q
    · rw [if_pos h3, if_neg (show ¬ wr 1 = 0 by decide), Option.bind_some]
      by_cases h4 : byN r
      · rw [if_pos h4, if_neg (show ¬ wr 1 = 0 by decide), Option.bind_some]
        by_cases h5 : byN t
        · rw [if_pos h5, if_neg (show ¬ wr 1 = 0 by decide), if_pos (show fdOk p q r t from ⟨h1, h3, h4, h5⟩)]
          have key : ∀ s0 s1 : Int, h 30 13 + (s0 + s1) = fdN q r t (h 30 13) → fX6_feed_b87 p q r t s0 s1 (hs h 30 0 0) = if fdN q r t (h 30 13) ≤ 2000 then some (fdN q r t (h 30 13), fdE p q r t (hs h 30 0 0)) else some (0, hs (hs h 30 0 0) 30 0 2) := by
            intro s0 s1 e
            have k := pX6_b87 (p := p) (s0 := s0) (s1 := s1) (h := hs h 30 0 0) h3 h4 h5 (by rw [z]; exact hn) (by rw [z]; exact e)
            rw [z] at k
            exact k
          unfold fX6_feed_b66 fX6_feed_b76
          rw [wr_of hr.1 hr.2, wr_of ht.1 ht.2]
          unfold fdN xU at key ⊢
          by_cases g1 : q = -1
          · rw [if_neg (by omega)]
            by_cases g2 : r = -1
            · rw [if_neg (by omega)]
              by_cases g3 : t = -1
              · rw [if_neg (by omega)]; exact key _ _ (by rw [if_pos g1, if_pos g2, if_pos g3]; omega)
              · rw [if_pos (by omega)]; exact key _ _ (by rw [if_pos g1, if_pos g2, if_neg g3]; omega)
            · rw [if_pos (by omega)]
              by_cases g3 : t = -1
              · rw [if_neg (by omega)]; exact key _ _ (by rw [if_pos g1, if_neg g2, if_pos g3]; omega)
              · rw [if_pos (by omega)]; exact key _ _ (by rw [if_pos g1, if_neg g2, if_neg g3]; omega)
          · rw [if_pos (by omega)]
            by_cases g2 : r = -1
            · rw [if_neg (by omega)]
              by_cases g3 : t = -1
              · rw [if_neg (by omega)]; exact key _ _ (by rw [if_neg g1, if_pos g2, if_pos g3]; omega)
              · rw [if_pos (by omega)]; exact key _ _ (by rw [if_neg g1, if_pos g2, if_neg g3]; omega)
            · rw [if_pos (by omega)]
              by_cases g3 : t = -1
              · rw [if_neg (by omega)]; exact key _ _ (by rw [if_neg g1, if_neg g2, if_pos g3]; omega)
              · rw [if_pos (by omega)]; exact key _ _ (by rw [if_neg g1, if_neg g2, if_neg g3]; omega)
        · rw [if_neg h5, if_pos wr_0, if_neg (fun e => h5 e.2.2.2)]
          rfl
      · rw [if_neg h4, if_pos wr_0, if_neg (fun e => h4 e.2.2.1)]
        rfl
    · rw [if_neg h3, if_pos wr_0, if_neg (fun e => h3 e.2.1)]
      rfl
  · rw [if_neg h1, if_pos wr_0, if_neg (fun e => h1 e.1)]
    rfl
end ZPURE5
end
section
section ZPURE6
theorem hz_at (h : HS) (i a : Nat) (b : Int) : hz h i a b = if a = i then 0 else h a b := by
  unfold hz
  by_cases e : a = i
  · rw [if_pos e, if_pos e]
  · rw [if_neg e, if_neg e]
theorem fdE_at {p q r t : Int} {h : HS} {a : Nat} {b : Int} (h1 : a ≠ 39) (h2 : a ≠ 91) (h3 : ¬ (a = 30 ∧ b = 13)) : fdE p q r t h a b = h a b := by
  have e1 : fdM p q r t h a b = h a b := by
    unfold fdM
    rw [mdU_at h1, mdU_at h1, mdU_at h1]
    unfold fdT
    rw [hs_at, if_neg h2, hs_at, if_neg h2, hs_at, if_neg h2, hz_at, if_neg h2, hs_at, if_neg h1]
  unfold fdE
  rw [hz_at, if_neg h2, hs_at]
  by_cases ha : a = 30
  · subst ha
    rw [if_pos rfl, if_neg (fun e => h3 ⟨rfl, e⟩), e1]
  · rw [if_neg ha, e1]
theorem fdE_39 {p q r t : Int} {h : HS} {i : Int} : fdE p q r t h 39 i = fdM p q r t h 39 i := by
  unfold fdE
  rw [hz_at, if_neg (by decide), hs_at, if_neg (by decide)]
/-- all but the tape is what it was -/
def frT (o h : HS) : Prop := ∀ (a : Nat) (b : Int), a ≠ 19 → a ≠ 20 → a ≠ 39 → a ≠ 50 → a ≠ 91 → ¬ (a = 30 ∧ (b = 0 ∨ b = 13)) → o a b = h a b
theorem pc_7 {p q r t : Int} {h : HS} (hp : zr p) (hq : zr q) (hr : zr r) (ht : zr t) (hT : PsT h) : ∃ o, fL_c7 p q r t h = some o ∧ (zeqv o h ∨ (PsT o ∧ frT o h)) := by
  have eg : fL_c7 p q r t h = gC (fL_feed p q r t h) (fX6_feed p q r t) := rfl
  obtain ⟨n, n2, hb⟩ := id hT
  have e7 := pX6_feed (h := h) hp hq hr ht (by omega)
  rw [n2] at e7
  rw [eg]
  unfold fL_feed
  rw [pX5_feed hp hq hr ht n]
  by_cases h1 : fdOk p q r t
  · rw [if_pos h1] at e7 ⊢
    obtain ⟨g1, g2, g3, g4⟩ := h1
    have a1 := xU_le q (h 19 1 + 1)
    have a2 := xU_le r (xU q (h 19 1 + 1))
    have a3 := xU_le t (xU r (xU q (h 19 1 + 1)))
    by_cases h2 : fdN q r t (h 19 1) ≤ 2000
    · rw [if_pos h2, Option.bind_some, if_pos rfl]
      have h2' := h2
      unfold fdN at h2'
      have hc30 : ∀ b, apU t (apU r (apU q (apT p h))) 30 b = h 30 b := fun b => by
        rw [apU_at (by decide) (by decide), apU_at (by decide) (by decide), apU_at (by decide) (by decide)]
        unfold apT
        simp [hs_at]
      have hc39 : ∀ b, apU t (apU r (apU q (apT p h))) 39 b = h 39 b := fun b => by
        rw [apU_at (by decide) (by decide), apU_at (by decide) (by decide), apU_at (by decide) (by decide)]
        unfold apT
        simp [hs_at]
      obtain ⟨hc, ehc⟩ : ∃ hc, hc = apU t (apU r (apU q (apT p h))) := ⟨_, rfl⟩
      obtain ⟨v, ev⟩ : ∃ v, v = fdN q r t (h 19 1) := ⟨_, rfl⟩
      obtain ⟨H0, eH⟩ : ∃ H0, H0 = hs (hs hc 50 0 (wr v)) 30 0 0 := ⟨_, rfl⟩
      have H13 : H0 30 13 = h 19 1 := by rw [eH]; simp only [hs_at]; simp; rw [ehc, hc30, n2]
      have ek := pX6_feed (h := hs hc 50 0 (wr v)) hp hq hr ht (by simp only [hs_at]; simp; rw [ehc, hc30]; omega)
      have k13 : hs hc 50 0 (wr v) 30 13 = h 19 1 := by simp only [hs_at]; simp; rw [ehc, hc30, n2]
      rw [if_pos ⟨g1, g2, g3, g4⟩, k13, if_pos h2, ← eH, ← ev] at ek
      -- the tapes
      have t0 : eqT h h (h 19 1) := ⟨⟨rfl, n.1, n.2⟩, hb⟩
      have hpm : ¬ p = -1 := by omega
      have t1 := (t0.step (p := p) ⟨by omega, g1.2⟩ (Or.inr (by omega))).model (hm2 := fdT p q r t H0) (fun i => by
        unfold fdT mdU
        rw [if_neg hpm, H13]
        simp only [hs_at, hz_at]
        simp
        rw [eH]
        simp only [hs_at]
        simp
        rw [ehc, hc39])
      have ex : xU p (h 19 1) = h 19 1 + 1 := by unfold xU; rw [if_neg hpm]
      have ea : apU p h = apT p h := by unfold apU; rw [if_neg hpm]
      rw [ex, ea] at t1
      have t2 := t1.step g2 (by omega)
      have t3 := t2.step g3 (by omega)
      have t4 := t3.step g4 (by omega)
      rw [← ehc] at t4
      have eM : mdU t (xU r (xU q (h 19 1 + 1))) (mdU r (xU q (h 19 1 + 1)) (mdU q (h 19 1 + 1) (fdT p q r t H0))) = fdM p q r t H0 := by unfold fdM; rw [H13]
      rw [eM] at t4
      have o19 : ∀ b, fdE p q r t H0 19 b = hc 19 b := fun b => by rw [fdE_at (by decide) (by decide) (by simp), eH]; simp [hs_at]
      have o20 : ∀ b, fdE p q r t H0 20 b = hc 20 b := fun b => by rw [fdE_at (by decide) (by decide) (by simp), eH]; simp [hs_at]
      have o13 : fdE p q r t H0 30 13 = fdN q r t (h 19 1) := by unfold fdE; rw [hz_at, if_neg (by decide), hs_at, if_pos rfl, if_pos rfl, H13]
      rw [← ehc, ← ev]
      refine ⟨_, gC_ok ek (by show zr v; rw [ev]; unfold zr fdN; omega) rfl ?_ ?_, Or.inr ⟨⟨?_, ?_, ?_⟩, ?_⟩⟩
      · rw [fdE_at (by decide) (by decide) (by simp), eH]; simp [hs_at]
      · rw [fdE_at (by decide) (by decide) (by simp), eH]; simp [hs_at]
      · rw [o19]; exact ⟨by rw [t4.1.1]; exact t4.1.2.1, by rw [t4.1.1]; exact t4.1.2.2⟩
      · rw [o13, o19, t4.1.1]; rfl
      · intro i i0 i1
        rw [o19, t4.1.1] at i1
        rw [fdE_39, o20]
        exact t4.2 i i0 i1
      · intro a b b1 b2 b3 b4 b5 b6
        have b7 : ¬ (a = 30 ∧ b = 0) := fun e => b6 ⟨e.1, Or.inl e.2⟩
        have b8 : ¬ (a = 30 ∧ b = 13) := fun e => b6 ⟨e.1, Or.inr e.2⟩
        rw [fdE_at b3 b5 b8, eH, hs_at]
        have e9 : hs hc 50 0 (wr v) a b = h a b := by
          rw [hs_at, if_neg b4, ehc, apU_at b1 b2, apU_at b1 b2, apU_at b1 b2]
          unfold apT
          rw [hs_at, if_neg b1, hs_at, if_neg b2]
        by_cases ha : a = 30
        · subst ha
          rw [if_pos rfl, if_neg (fun e => b7 ⟨rfl, e⟩), e9]
        · rw [if_neg ha, e9]
    · rw [if_neg h2] at e7 ⊢
      rw [Option.bind_some, if_neg (show ¬ (3 : Int) = 0 by decide), if_neg (show ¬ (3 : Int) = 2 by decide), if_pos rfl]
      exact ⟨_, gC_thr e7 ⟨by unfold zr; omega, by decide⟩ (by simp [hs_at]), Or.inl ((zeqv.rf.h30 _).h30 _)⟩
  · rw [if_neg h1] at e7 ⊢
    rw [Option.bind_some, if_neg (show ¬ (2 : Int) = 0 by decide), if_pos rfl]
    exact ⟨_, gC_thr e7 ⟨by unfold zr; omega, by decide⟩ (by simp [hs_at]), Or.inl ((zeqv.rf.h30 _).h30 _)⟩
end ZPURE6
end
section
section ZPURE7
/-! the tree: what a node is -/
abbrev PsR (h : HS) : Prop := (1 ≤ h 9 8 ∧ h 9 8 ≤ 200) ∧ (h 30 8 = h 9 8) ∧ (∀ i : Int, 0 ≤ i → i < h 9 8 → h 37 (5 * i) = h 10 i ∧ h 37 (5 * i + 1) = h 11 i ∧ h 37 (5 * i + 2) = h 12 i ∧ h 37 (5 * i + 3) = h 14 i ∧ h 37 (5 * i + 4) = h 15 i) ∧ (∀ i : Int, 0 ≤ i → i < h 9 8 → (-1 ≤ h 10 i ∧ h 10 i < 200) ∧ (-1 ≤ h 11 i ∧ h 11 i < 64) ∧ (-1 ≤ h 12 i ∧ h 12 i < 64) ∧ (0 ≤ h 14 i ∧ h 14 i < 200) ∧ (0 ≤ h 15 i ∧ h 15 i < 200))
theorem PsR.n {h : HS} (w : PsR h) : 1 ≤ h 9 8 ∧ h 9 8 ≤ 200 := w.1
theorem PsR.n2 {h : HS} (w : PsR h) : h 30 8 = h 9 8 := w.2.1
theorem PsR.f {h : HS} (w : PsR h) : ∀ i : Int, 0 ≤ i → i < h 9 8 → h 37 (5 * i) = h 10 i ∧ h 37 (5 * i + 1) = h 11 i ∧ h 37 (5 * i + 2) = h 12 i ∧ h 37 (5 * i + 3) = h 14 i ∧ h 37 (5 * i + 4) = h 15 i := w.2.2.1
theorem PsR.g {h : HS} (w : PsR h) : ∀ i : Int, 0 ≤ i → i < h 9 8 → (-1 ≤ h 10 i ∧ h 10 i < 200) ∧ (-1 ≤ h 11 i ∧ h 11 i < 64) ∧ (-1 ≤ h 12 i ∧ h 12 i < 64) ∧ (0 ≤ h 14 i ∧ h 14 i < 200) ∧ (0 ≤ h 15 i ∧ h 15 i < 200) := w.2.2.2
theorem pX4_has {p : Int} {h : HS} (hp : zr p) (hn : 1 ≤ h 9 8 ∧ h 9 8 ≤ 200) : fX4_has p h = some (if 0 ≤ p ∧ p < h 9 8 then 1 else 0) := by
  unfold fX4_has
  rw [wr_of hp.1 hp.2, wr_of (z := h 9 8) (by omega) (by omega)]
  by_cases h1 : p < 0
  · rw [if_pos h1, if_neg (by omega)]
  · rw [if_neg h1]
    by_cases h2 : h 9 8 ≤ p
    · rw [if_pos h2, if_neg (by omega)]
    · rw [if_neg h2, if_pos (by omega)]
theorem pX4_row {p d : Int} {h : HS} {a : Nat} (hp : zr p) (hn : 1 ≤ h 9 8 ∧ h 9 8 ≤ 200) (h1 : 0 ≤ p ∧ p < h 9 8) : ((fX4_has p h).bind fun r1 => if wr r1 = 0 then some d else if (0 : Int) ≤ p ∧ p < 200 then some (h a p) else none) = some (h a p) := by
  rw [pX4_has hp hn, if_pos h1, Option.bind_some, if_neg (show ¬ wr 1 = 0 by decide), if_pos (by omega)]
def ndV (p x : Int) (h : HS) : Int := if x = 0 then h 10 p else if x = 1 then h 11 p else if x = 2 then h 12 p else if x = 3 then h 14 p else h 15 p
theorem pX5_node {p x : Int} {h : HS} (hp : zr p) (hx : zr x) (hR : PsR h) : fX5_node p x h = if (0 ≤ p ∧ p < h 9 8) ∧ 0 ≤ x ∧ x ≤ 4 then some (0, ndV p x h, h) else some (1, 0, h) := by
  obtain ⟨n, n2, f, g⟩ := hR
  unfold fX5_node fX5_node_b20
  rw [pX4_has hp n, wr_of hx.1 hx.2, Option.bind_some]
  by_cases h1 : 0 ≤ p ∧ p < h 9 8
  · rw [if_pos h1, if_neg (show ¬ wr 1 = 0 by decide)]
    by_cases h2 : x < 0
    · rw [if_pos h2, if_neg (by omega)]
    · rw [if_neg h2]
      by_cases h3 : x < 5
      · rw [if_pos h3, if_pos (show (0 ≤ p ∧ p < h 9 8) ∧ 0 ≤ x ∧ x ≤ 4 by omega)]
        unfold fX4_fact fX4_above fX4_from fX4_to fX4_depth fX4_childCount ndV
        rw [pX4_row hp n h1, pX4_row hp n h1, pX4_row hp n h1, pX4_row hp n h1, pX4_row hp n h1, wr_of hx.1 hx.2]
        by_cases k0 : x = 0
        · rw [if_pos k0, if_pos k0]; rfl
        · rw [if_neg k0, if_neg k0]
          by_cases k1 : x = 1
          · rw [if_pos k1, if_pos k1]; rfl
          · rw [if_neg k1, if_neg k1]
            by_cases k2 : x = 2
            · rw [if_pos k2, if_pos k2]; rfl
            · rw [if_neg k2, if_neg k2]
              by_cases k3 : x = 3
              · rw [if_pos k3, if_pos k3]; rfl
              · rw [if_neg k3, if_neg k3]; rfl
      · rw [if_neg h3, if_neg (by omega)]
  · rw [if_neg h1, if_pos wr_0, if_neg (fun e => h1 e.1)]
theorem pX6_isNode {p : Int} {h : HS} (hp : zr p) (hn : 1 ≤ h 30 8 ∧ h 30 8 ≤ 200) : fX6_isNode p h = some (if 0 ≤ p ∧ p < h 30 8 then 1 else 0) := by
  unfold fX6_isNode
  rw [pX6_isIn hp (by unfold zr; omega) (by unfold zr; omega), Option.bind_some]
  by_cases h1 : 0 ≤ p ∧ p < h 30 8
  · rw [if_pos h1, if_pos (show 0 ≤ p ∧ p ≤ h 30 8 - 1 by omega), if_pos (Or.inr rfl)]
  · rw [if_neg h1, if_neg (show ¬ (0 ≤ p ∧ p ≤ h 30 8 - 1) by omega), if_pos (Or.inl rfl)]
theorem pX6_node {p x : Int} {h : HS} (hp : zr p) (hx : zr x) (hn : 1 ≤ h 30 8 ∧ h 30 8 ≤ 200) : fX6_node p x h = if (0 ≤ p ∧ p < h 30 8) ∧ 0 ≤ x ∧ x ≤ 4 then some (h 37 (5 * p + x), hs h 30 0 0) else some (0, hs (hs h 30 0 0) 30 0 1) := by
  have z8 : hs h 30 0 0 30 8 = h 30 8 := by simp [hs_at]
  have z37 : ∀ i, hs h 30 0 0 37 i = h 37 i := fun i => by simp [hs_at]
  unfold fX6_node fX6_node_b31 fX6_fail fX6_get
  rw [pX6_isNode hp (by rw [z8]; exact hn), z8, z37, pX6_isIn hx (by unfold zr; omega) (by unfold zr; omega), Option.bind_some]
  by_cases h1 : 0 ≤ p ∧ p < h 30 8
  · rw [if_pos h1, if_neg (show ¬ wr 1 = 0 by decide), Option.bind_some]
    by_cases h2 : 0 ≤ x ∧ x ≤ 4
    · rw [if_pos h2, if_neg (show ¬ wr 1 = 0 by decide), if_pos (show (0 ≤ p ∧ p < h 30 8) ∧ 0 ≤ x ∧ x ≤ 4 from ⟨h1, h2⟩), if_pos (by omega)]
      rfl
    · rw [if_neg h2, if_pos wr_0, if_neg (fun e => h2 e.2)]
      rfl
  · rw [if_neg h1, if_pos wr_0, if_neg (fun e => h1 e.1)]
    rfl
theorem ndV_eq {p x : Int} {h : HS} (hR : PsR h) (h1 : 0 ≤ p ∧ p < h 9 8) (h2 : 0 ≤ x ∧ x ≤ 4) : h 37 (5 * p + x) = ndV p x h ∧ -1 ≤ ndV p x h ∧ ndV p x h < 200 := by
  obtain ⟨f0, f1, f2, f3, f4⟩ := hR.f p h1.1 h1.2
  obtain ⟨g0, g1, g2, g3, g4⟩ := hR.g p h1.1 h1.2
  unfold ndV
  rcases (show x = 0 ∨ x = 1 ∨ x = 2 ∨ x = 3 ∨ x = 4 by omega) with e | e | e | e | e
  · subst e; rw [if_pos rfl, Int.add_zero]; omega
  · subst e; rw [if_neg (by decide), if_pos rfl]; omega
  · subst e; rw [if_neg (by decide), if_neg (by decide), if_pos rfl]; omega
  · subst e; rw [if_neg (by decide), if_neg (by decide), if_neg (by decide), if_pos rfl]; omega
  · subst e; rw [if_neg (by decide), if_neg (by decide), if_neg (by decide), if_neg (by decide)]; omega
theorem pc_13 {p x : Int} {h : HS} (hp : zr p) (hx : zr x) (hR : PsR h) : ∃ o, fL_c13 p x h = some o ∧ zeqv o h := by
  have eg : fL_c13 p x h = gC (fL_node p x h) (fX6_node p x) := rfl
  obtain ⟨n, n2, -, -⟩ := id hR
  rw [eg]
  unfold fL_node
  rw [pX5_node hp hx hR]
  by_cases h1 : (0 ≤ p ∧ p < h 9 8) ∧ 0 ≤ x ∧ x ≤ 4
  · obtain ⟨k1, k2, k3⟩ := ndV_eq hR h1.1 h1.2
    rw [if_pos h1, Option.bind_some, if_pos rfl]
    have ek := pX6_node (h := hs h 50 0 (wr (ndV p x h))) hp hx (by simp [hs_at]; omega)
    rw [if_pos (by simp [hs_at]; omega)] at ek
    refine ⟨_, gC_ok ek (by show zr (ndV p x h); unfold zr; omega) ?_ ?_ ?_, (zeqv.rf.h50 _ _).h30 _⟩
    · simp [hs_at]; exact k1.symm
    · simp [hs_at]
    · simp [hs_at]
  · have e7 := pX6_node (h := h) hp hx (by omega)
    rw [n2, if_neg h1] at e7
    rw [if_neg h1, Option.bind_some, if_neg (show ¬ (1 : Int) = 0 by decide), if_pos rfl]
    exact ⟨_, gC_thr e7 ⟨by unfold zr; omega, by decide⟩ (by simp [hs_at]), (zeqv.rf.h30 _).h30 _⟩
end ZPURE7
end
section
section ZPURE8
/-! the tree: whose child is whose -/
def kid (h : HS) (i : Int) : Nat → Int
  | 0 => h 16 i
  | j + 1 => h 17 (kid h i j)
abbrev PsC (h : HS) : Prop := (∀ i : Int, 0 ≤ i → i < h 9 8 → ∀ j : Nat, (j : Int) < h 15 i → (0 < kid h i j ∧ kid h i j < h 9 8) ∧ h 38 (200 * i + j) = kid h i j ∧ h 10 (kid h i j) = i) ∧ (∀ i : Int, 0 ≤ i → i < h 9 8 → ∀ j j2 : Nat, (j : Int) < h 15 i → (j2 : Int) < h 15 i → kid h i j = kid h i j2 → j = j2)
theorem PsC.c {h : HS} (w : PsC h) : ∀ i : Int, 0 ≤ i → i < h 9 8 → ∀ j : Nat, (j : Int) < h 15 i → (0 < kid h i j ∧ kid h i j < h 9 8) ∧ h 38 (200 * i + j) = kid h i j ∧ h 10 (kid h i j) = i := w.1
theorem PsC.d {h : HS} (w : PsC h) : ∀ i : Int, 0 ≤ i → i < h 9 8 → ∀ j j2 : Nat, (j : Int) < h 15 i → (j2 : Int) < h 15 i → kid h i j = kid h i j2 → j = j2 := w.2
theorem pX4_childL {h : HS} {i : Int} (hn : 1 ≤ h 9 8 ∧ h 9 8 ≤ 200) {K : Nat} (hK : K < 200) (hk : ∀ j : Nat, j ≤ K → 0 ≤ kid h i j ∧ kid h i j < h 9 8) : ∀ (nf j : Nat), j ≤ K → K - j < nf → fX4_child_L34 nf (K : Int) (kid h i j) (j : Int) h = some (kid h i K)
  | 0, j, h1, h2 => by omega
  | nf + 1, j, h1, h2 => by
    obtain ⟨k1, k2⟩ := hk j h1
    rw [fX4_child_L34]
    rw [wr_of (z := (K : Int)) (by omega) (by omega), wr_of (z := (j : Int)) (by omega) (by omega)]
    by_cases hj : (K : Int) ≤ (j : Int)
    · rw [if_pos hj, show j = K by omega]
    · rw [if_neg hj, pX4_has (by unfold zr; omega) hn, if_pos (show 0 ≤ kid h i j ∧ kid h i j < h 9 8 from ⟨k1, k2⟩), Option.bind_some, if_neg (show ¬ wr 1 = 0 by decide), if_pos (by omega)]
      have e := pX4_childL hn hK hk nf (j + 1) (by omega) (by omega)
      rw [Int.natCast_add] at e
      exact e
theorem pX4_child {p x : Int} {h : HS} (hR : PsR h) (hC : PsC h) (h1 : 0 ≤ p ∧ p < h 9 8) (h2 : 0 ≤ x ∧ x < h 15 p) : fX4_child p x h = some (kid h p x.toNat) := by
  obtain ⟨g0, g1, g2, g3, g4⟩ := hR.g p h1.1 h1.2
  have n := hR.n
  unfold fX4_child
  rw [pX4_has (by unfold zr; omega) hR.n, if_pos h1, Option.bind_some, if_neg (show ¬ wr 1 = 0 by decide), wr_of (z := x) (by omega) (by omega), if_neg (by omega), if_pos (by omega), wr_of (z := h 15 p) (by omega) (by omega), if_pos h2.2, if_pos (by omega)]
  have e := pX4_childL (h := h) (i := p) (K := x.toNat) hR.n (by omega) (fun j hj => by
    obtain ⟨⟨a, b⟩, -, -⟩ := hC.c p h1.1 h1.2 j (by omega)
    exact ⟨by omega, b⟩) zF 0 (Nat.zero_le _) (by unfold zF; omega)
  rw [Int.toNat_of_nonneg h2.1] at e
  exact e
theorem pX5_cont {p x : Int} {h : HS} (hp : zr p) (hx : zr x) (hR : PsR h) (hC : PsC h) : fX5_continuation p x h = if (0 ≤ p ∧ p < h 9 8) ∧ 0 ≤ x ∧ x < h 15 p then some (0, kid h p x.toNat, h) else some (1, 0, h) := by
  unfold fX5_continuation fX5_continuation_b27 fX4_childCount
  rw [pX4_has hp hR.n, Option.bind_some, wr_of hx.1 hx.2]
  by_cases h1 : 0 ≤ p ∧ p < h 9 8
  · obtain ⟨g0, g1, g2, g3, g4⟩ := hR.g p h1.1 h1.2
    have n := hR.n
    rw [if_pos h1, if_neg (show ¬ wr 1 = 0 by decide)]
    by_cases h2 : x < 0
    · rw [if_pos h2, if_neg (by omega)]
    · rw [if_neg h2, Option.bind_some, if_neg (show ¬ wr 1 = 0 by decide), if_pos (by omega), Option.bind_some, wr_of (z := h 15 p) (by omega) (by omega)]
      by_cases h3 : x < h 15 p
      · rw [if_pos h3, if_pos (show (0 ≤ p ∧ p < h 9 8) ∧ 0 ≤ x ∧ x < h 15 p from ⟨h1, by omega, h3⟩), pX4_child hR hC h1 ⟨by omega, h3⟩]
        rfl
      · rw [if_neg h3, if_neg (fun e => h3 e.2.2)]
  · rw [if_neg h1, if_pos wr_0, if_neg (fun e => h1 e.1)]
theorem pX6_cont {p x : Int} {h : HS} (hp : zr p) (hx : zr x) (hn : 1 ≤ h 30 8 ∧ h 30 8 ≤ 200) (hc : 0 ≤ p → p < h 30 8 → 0 ≤ h 37 (5 * p + 4) ∧ h 37 (5 * p + 4) < 200) : fX6_continuation p x h = if (0 ≤ p ∧ p < h 30 8) ∧ 0 ≤ x ∧ x < h 37 (5 * p + 4) then some (h 38 (200 * p + x), hs h 30 0 0) else some (0, hs (hs h 30 0 0) 30 0 1) := by
  have z8 : hs h 30 0 0 30 8 = h 30 8 := by simp [hs_at]
  have z37 : ∀ i, hs h 30 0 0 37 i = h 37 i := fun i => by simp [hs_at]
  have z38 : ∀ i, hs h 30 0 0 38 i = h 38 i := fun i => by simp [hs_at]
  unfold fX6_continuation fX6_continuation_b38 fX6_fail fX6_get fX6_continuation0
  rw [pX6_isNode hp (by rw [z8]; exact hn), z8, z37, z38, Option.bind_some]
  by_cases h1 : 0 ≤ p ∧ p < h 30 8
  · obtain ⟨c1, c2⟩ := hc h1.1 h1.2
    rw [if_pos h1, if_neg (show ¬ wr 1 = 0 by decide), if_pos (by omega), Option.bind_some, pX6_isIn hx (by unfold zr; omega) (by unfold zr; omega), Option.bind_some]
    by_cases h2 : 0 ≤ x ∧ x < h 37 (5 * p + 4)
    · rw [if_pos (show 0 ≤ x ∧ x ≤ h 37 (5 * p + 4) - 1 by omega), if_neg (show ¬ wr 1 = 0 by decide), if_pos (by omega), if_pos (show (0 ≤ p ∧ p < h 30 8) ∧ 0 ≤ x ∧ x < h 37 (5 * p + 4) from ⟨h1, h2⟩)]
      rfl
    · rw [if_neg (show ¬ (0 ≤ x ∧ x ≤ h 37 (5 * p + 4) - 1) by omega), if_pos wr_0, if_neg (fun e => h2 e.2)]
      rfl
  · rw [if_neg h1, if_pos wr_0, if_neg (fun e => h1 e.1)]
    rfl
theorem pc_14 {p x : Int} {h : HS} (hp : zr p) (hx : zr x) (hR : PsR h) (hC : PsC h) : ∃ o, fL_c14 p x h = some o ∧ zeqv o h := by
  have eg : fL_c14 p x h = gC (fL_continuation p x h) (fX6_continuation p x) := rfl
  obtain ⟨n, n2, f, g⟩ := id hR
  have hc : 0 ≤ p → p < h 9 8 → h 37 (5 * p + 4) = h 15 p ∧ 0 ≤ h 15 p ∧ h 15 p < 200 := fun a b => by
    obtain ⟨f0, f1, f2, f3, f4⟩ := f p a b
    obtain ⟨g0, g1, g2, g3, g4⟩ := g p a b
    exact ⟨f4, g4.1, g4.2⟩
  rw [eg]
  unfold fL_continuation
  rw [pX5_cont hp hx hR hC]
  by_cases h1 : (0 ≤ p ∧ p < h 9 8) ∧ 0 ≤ x ∧ x < h 15 p
  · obtain ⟨c1, c2, c3⟩ := hc h1.1.1 h1.1.2
    obtain ⟨⟨k1, k2⟩, k3, -⟩ := hC.c p h1.1.1 h1.1.2 x.toNat (by omega)
    rw [if_pos h1, Option.bind_some, if_pos rfl]
    have ek := pX6_cont (h := hs h 50 0 (wr (kid h p x.toNat))) hp hx (by simp [hs_at]; omega) (fun a b => by simp [hs_at]; omega)
    rw [if_pos (by simp [hs_at]; omega)] at ek
    refine ⟨_, gC_ok ek (by show zr (kid h p x.toNat); unfold zr; omega) ?_ ?_ ?_, (zeqv.rf.h50 _ _).h30 _⟩
    · rw [Int.toNat_of_nonneg h1.2.1] at k3
      simp [hs_at]; exact k3.symm
    · simp [hs_at]
    · simp [hs_at]
  · have e7 := pX6_cont (h := h) hp hx (by omega) (fun a b => by obtain ⟨c1, c2, c3⟩ := hc a (by omega); omega)
    rw [n2] at e7
    rw [if_neg (fun e => h1 (by obtain ⟨c1, c2, c3⟩ := hc e.1.1 e.1.2; exact ⟨e.1, e.2.1, by omega⟩))] at e7
    rw [if_neg h1, Option.bind_some, if_neg (show ¬ (1 : Int) = 0 by decide), if_pos rfl]
    exact ⟨_, gC_thr e7 ⟨by unfold zr; omega, by decide⟩ (by simp [hs_at]), (zeqv.rf.h30 _).h30 _⟩
end ZPURE8
end
section
section ZPURE9
def occ (a b c d : Int) (h : HS) : HS := hs (hs (hs (hs (hs (hs (hs (hs (hs h 10 (h 9 8) a) 11 (h 9 8) b) 12 (h 9 8) c) 13 (h 9 8) (-1)) 14 (h 9 8) d) 15 (h 9 8) 0) 16 (h 9 8) (-1)) 17 (h 9 8) (-1)) 9 8 (h 9 8 + 1)
theorem hs_ne' {h : HS} {i : Nat} {k v : Int} {a : Nat} {b : Int} (e : a ≠ i) : hs h i k v a b = h a b := by rw [hs_at, if_neg e]
theorem hs_self {h : HS} {i : Nat} {k v : Int} : hs h i k v i k = v := by rw [hs_at, if_pos rfl, if_pos rfl]
theorem pX4_occupy {a b c d : Int} {h : HS} (hn : 0 ≤ h 9 8 ∧ h 9 8 < 200) : fX4_occupy a b c d h = some (h 9 8, occ a b c d h) := by
  unfold fX4_occupy occ
  simp only [hs_ne' (show (9 : Nat) ≠ 10 by decide), hs_ne' (show (9 : Nat) ≠ 11 by decide), hs_ne' (show (9 : Nat) ≠ 12 by decide), hs_ne' (show (9 : Nat) ≠ 13 by decide), hs_ne' (show (9 : Nat) ≠ 14 by decide), hs_ne' (show (9 : Nat) ≠ 15 by decide), hs_ne' (show (9 : Nat) ≠ 16 by decide), hs_ne' (show (9 : Nat) ≠ 17 by decide), hs_self, if_pos hn, Int.add_sub_cancel]
  rw [if_pos (by rw [wr_of (by omega) (by omega)]; omega)]
/-- loops that fill -/
theorem pJ7_fill {v : Int} : ∀ (nf : Nat) (j : Int) (h : HS), 0 ≤ j → j ≤ 64 → 64 - j < nf → ∃ o, fJ7_fill_53178_L5 nf v j 64 h = some o ∧ (∀ s : Int, j ≤ s → s < 64 → o 8 s = v) ∧ (∀ s : Int, s < j → o 8 s = h 8 s) ∧ (∀ a b, a ≠ 8 → o a b = h a b)
  | 0, j, h, h0, h1, h2 => by omega
  | nf + 1, j, h, h0, h1, h2 => by
    rw [fJ7_fill_53178_L5]
    rw [wr_of (z := 64) (by omega) (by omega), wr_of (z := j) (by omega) (by omega)]
    by_cases hj : 64 ≤ j
    · rw [if_pos hj]
      exact ⟨h, rfl, fun s a b => by omega, fun _ _ => rfl, fun _ _ _ => rfl⟩
    · rw [if_neg hj, if_pos (by omega)]
      obtain ⟨o, e1, e2, e3, e4⟩ := pJ7_fill (v := v) nf (j + 1) (hs h 8 j v) (by omega) (by omega) (by omega)
      refine ⟨o, e1, fun s a b => ?_, fun s a => ?_, fun a b ha => ?_⟩
      · by_cases hs1 : s = j
        · subst hs1
          rw [e3 s (by omega), hs_self]
        · exact e2 s (by omega) b
      · rw [e3 s (by omega), hs_at, if_pos rfl, if_neg (by omega)]
      · rw [e4 a b ha, hs_ne' ha]
theorem pX6_L164 : ∀ (nf : Nat) (j : Int) (h : HS), 0 ≤ j → j ≤ 3 → 3 - j < nf → ∃ o, fX6_init_L164 nf j h = some o ∧ (∀ s : Int, j ≤ s → s < 3 → o 37 s = -1) ∧ (∀ s : Int, (s < j ∨ 3 ≤ s) → o 37 s = h 37 s) ∧ (∀ a b, a ≠ 37 → o a b = h a b)
  | 0, j, h, h0, h1, h2 => by omega
  | nf + 1, j, h, h0, h1, h2 => by
    rw [fX6_init_L164]
    rw [wr_of (z := j) (by omega) (by omega)]
    by_cases hj : 3 ≤ j
    · rw [if_pos hj]
      exact ⟨h, rfl, fun s a b => by omega, fun _ _ => rfl, fun _ _ _ => rfl⟩
    · rw [if_neg hj, if_pos (by omega)]
      obtain ⟨o, e1, e2, e3, e4⟩ := pX6_L164 nf (j + 1) (hs h 37 j (-1)) (by omega) (by omega) (by omega)
      refine ⟨o, e1, fun s a b => ?_, fun s a => ?_, fun a b ha => ?_⟩
      · by_cases hs1 : s = j
        · subst hs1
          rw [e3 s (by omega), hs_self]
        · exact e2 s (by omega) b
      · rw [e3 s (by omega), hs_at, if_pos rfl, if_neg (by omega)]
      · rw [e4 a b ha, hs_ne' ha]
theorem pX6_L128 : ∀ (nf : Nat) (j : Int) (h : HS), 0 ≤ j → j ≤ 64 → 64 - j < nf → (∀ s : Int, 0 ≤ s → s < j → h 34 s = -1) → ∃ o, fX6_init_L128 nf j h = some o ∧ (∀ s : Int, 0 ≤ s → s < 64 → o 34 s = -1 ∧ o 35 s = -1) ∧ (∀ s : Int, 0 ≤ s → s < 3 → o 37 s = -1) ∧ (∀ s : Int, 3 ≤ s → o 37 s = h 37 s) ∧ (∀ a b, a ≠ 34 → a ≠ 35 → a ≠ 37 → o a b = h a b)
  | 0, j, h, h0, h1, h2, _ => by omega
  | nf + 1, j, h, h0, h1, h2, h3 => by
    rw [fX6_init_L128]
    rw [wr_of (z := j) (by omega) (by omega)]
    by_cases hj : 64 ≤ j
    · rw [if_pos hj, if_pos (by omega)]
      obtain ⟨o, e1, e2, e3, e4⟩ := pX6_L164 zF 0 (hcp h 34 0 35 0 64) (by omega) (by omega) (by unfold zF; omega)
      refine ⟨o, e1, fun s a b => ⟨?_, ?_⟩, fun s a b => e2 s a b, fun s a => ?_, fun a b h34 h35 h37 => ?_⟩
      · rw [e4 34 s (by decide), hcp_ne _ _ _ _ _ (by decide)]
        exact h3 s a (by omega)
      · rw [e4 35 s (by decide), hcp_eq]
        simp only
        rw [if_pos (by omega)]
        exact h3 _ (by omega) (by omega)
      · rw [e3 s (Or.inr a), hcp_ne _ _ _ _ _ (by decide)]
      · rw [e4 a b h37, hcp_ne _ _ _ _ _ h35]
    · rw [if_neg hj, if_pos (by omega)]
      obtain ⟨o, e1, e2, e3, e4, e5⟩ := pX6_L128 nf (j + 1) (hs h 34 j (-1)) (by omega) (by omega) (by omega) (fun s a b => by
        by_cases hs1 : s = j
        · subst hs1; rw [hs_self]
        · rw [hs_at, if_pos rfl, if_neg hs1]; exact h3 s a (by omega))
      refine ⟨o, e1, e2, e3, fun s a => ?_, fun a b h34 h35 h37 => ?_⟩
      · rw [e4 s a, hs_ne' (by decide)]
      · rw [e5 a b h34 h35 h37, hs_ne' h34]
end ZPURE9
end
section
section ZPURE10
/-- what holds of both objects when they are new -/
abbrev PsNew (h : HS) : Prop := (h 1 5 = 0 ∧ h 30 1 = 0) ∧ (∀ i : Int, h 3 i = 0 ∧ h 32 i = 0) ∧ (h 9 8 = 1 ∧ h 30 8 = 1 ∧ h 0 8 = 0 ∧ h 30 9 = 0) ∧ (∀ s : Int, 0 ≤ s → s < 64 → h 8 s = -1 ∧ h 34 s = -1 ∧ h 35 s = -1) ∧ (h 19 1 = 0 ∧ h 19 2 = 0 ∧ h 30 13 = 0) ∧ (h 21 1 = 0 ∧ h 21 2 = 0) ∧ (h 0 13 = -1 ∧ h 0 14 = -1 ∧ h 0 15 = -1 ∧ h 30 14 = -1 ∧ h 30 15 = -1 ∧ h 30 16 = -1) ∧ (h 10 0 = -1 ∧ h 11 0 = -1 ∧ h 12 0 = -1 ∧ h 13 0 = -1 ∧ h 14 0 = 0 ∧ h 15 0 = 0 ∧ h 16 0 = -1 ∧ h 17 0 = -1) ∧ (h 37 0 = -1 ∧ h 37 1 = -1 ∧ h 37 2 = -1 ∧ h 37 3 = 0 ∧ h 37 4 = 0) ∧ (h 30 0 = 0 ∧ h 0 9 = 0 ∧ h 0 10 = 0)
theorem PsNew.k {h : HS} (w : PsNew h) : h 1 5 = 0 ∧ h 30 1 = 0 := w.1
theorem PsNew.c {h : HS} (w : PsNew h) : ∀ i : Int, h 3 i = 0 ∧ h 32 i = 0 := w.2.1
theorem PsNew.n {h : HS} (w : PsNew h) : h 9 8 = 1 ∧ h 30 8 = 1 ∧ h 0 8 = 0 ∧ h 30 9 = 0 := w.2.2.1
theorem PsNew.b {h : HS} (w : PsNew h) : ∀ s : Int, 0 ≤ s → s < 64 → h 8 s = -1 ∧ h 34 s = -1 ∧ h 35 s = -1 := w.2.2.2.1
theorem PsNew.t {h : HS} (w : PsNew h) : h 19 1 = 0 ∧ h 19 2 = 0 ∧ h 30 13 = 0 := w.2.2.2.2.1
theorem PsNew.d {h : HS} (w : PsNew h) : h 21 1 = 0 ∧ h 21 2 = 0 := w.2.2.2.2.2.1
theorem PsNew.e {h : HS} (w : PsNew h) : h 0 13 = -1 ∧ h 0 14 = -1 ∧ h 0 15 = -1 ∧ h 30 14 = -1 ∧ h 30 15 = -1 ∧ h 30 16 = -1 := w.2.2.2.2.2.2.1
theorem PsNew.r {h : HS} (w : PsNew h) : h 10 0 = -1 ∧ h 11 0 = -1 ∧ h 12 0 = -1 ∧ h 13 0 = -1 ∧ h 14 0 = 0 ∧ h 15 0 = 0 ∧ h 16 0 = -1 ∧ h 17 0 = -1 := w.2.2.2.2.2.2.2.1
theorem PsNew.m {h : HS} (w : PsNew h) : h 37 0 = -1 ∧ h 37 1 = -1 ∧ h 37 2 = -1 ∧ h 37 3 = 0 ∧ h 37 4 = 0 := w.2.2.2.2.2.2.2.2.1
theorem PsNew.z {h : HS} (w : PsNew h) : h 30 0 = 0 ∧ h 0 9 = 0 ∧ h 0 10 = 0 := w.2.2.2.2.2.2.2.2.2
set_option maxRecDepth 20000 in
set_option maxHeartbeats 4000000 in
theorem pStart : ∃ h1 h2, fX5_init (hz z0 0) = some h1 ∧ fX6_init (hz h1 30) = some h2 ∧ PsNew (hz h2 50) := by
  obtain ⟨ob, b1, b2, b3, b4⟩ := pJ7_fill (v := -1) zF 0 (hz (hz (hs (hz (hz (hz (hz (hz (hz (hz z0 0) 1) 2) 3) 4) 5) 6) 1 5 0) 7) 8) (by omega) (by omega) (by unfold zF; omega)
  have e1 : fX5_init (hz z0 0) = (fX4_init (hz ob 9)).bind fun r6 => (fX2_init (hz r6 18)).bind fun r8 => (fX3_init (hz (hz (hz r8 23) 24) 19)).bind fun r12 => (fX3_init_d (hz r12 21)).bind fun r14 => some (hs (hs (hs (hs (hs (hs (hs (hs r14 0 8 0) 0 9 0) 0 10 0) 0 11 (-1)) 0 12 (-1)) 0 13 (-1)) 0 14 (-1)) 0 15 (-1)) := by
    unfold fX5_init fX1_init fX0_init fJ7_fill_53178
    rw [Option.bind_some, b1, Option.bind_some, Option.bind_some]
  have c9 : hs (hz (hz (hz (hz (hz (hz (hz (hz (hz ob 9) 10) 11) 12) 13) 14) 15) 16) 17) 9 8 0 9 8 = 0 := hs_self
  unfold fX4_init at e1
  rw [pX4_occupy (by rw [c9]; omega), Option.bind_some] at e1
  unfold fX2_init fX3_init fX3_init_d at e1
  simp only [Option.bind_some] at e1
  obtain ⟨h1, eh1⟩ : ∃ h1, fX5_init (hz z0 0) = some h1 := ⟨_, e1⟩
  have eh := eh1
  rw [e1] at eh
  have eh := Option.some.inj eh
  obtain ⟨o, d1, d2, d3, d4, d5⟩ := pX6_L128 zF 0 (hz (hz (hz (hs (hs (hs (hz (hz (hz (hs (hz (hz (hz (hz (hz (hz (hz h1 30) 31) 32) 33) 34) 35) 36) 30 8 1) 37) 38) 39) 30 14 (-1)) 30 15 (-1)) 30 16 (-1)) 40) 41) 42) (by omega) (by omega) (by unfold zF; omega) (fun s a b => by omega)
  have z00 : ∀ a b, z0 a b = 0 := fun _ _ => rfl
  have nb : ∀ a b, a ≠ 8 → a < 9 → ob a b = 0 := fun a b ha h9 => by
    rw [b4 a b ha]
    simp [hs_at, hz_at, z00]
  refine ⟨h1, o, eh1, d1, ⟨?_, ?_, ?_, ?_, ?_, ?_, ?_, ?_, ?_, ?_⟩⟩
  · rw [← eh] at d5
    constructor
    · simp only [hz_at]; rw [if_neg (by decide), d5 _ _ (by decide) (by decide) (by decide)]
      simp [hs_at, hz_at, occ, nb]
    · simp only [hz_at]; rw [if_neg (by decide), d5 _ _ (by decide) (by decide) (by decide)]
      simp [hs_at, hz_at]
  · intro i
    rw [← eh] at d5
    constructor
    · simp only [hz_at]; rw [if_neg (by decide), d5 _ _ (by decide) (by decide) (by decide)]
      simp [hs_at, hz_at, occ, nb]
    · simp only [hz_at]; rw [if_neg (by decide), d5 _ _ (by decide) (by decide) (by decide)]
      simp [hs_at, hz_at]
  · rw [← eh] at d5
    refine ⟨?_, ?_, ?_, ?_⟩ <;> (simp only [hz_at]; rw [if_neg (by decide), d5 _ _ (by decide) (by decide) (by decide)]; simp [hs_at, hz_at, occ, nb])
  · intro s s0 s1
    obtain ⟨f1, f2⟩ := d2 s s0 s1
    rw [← eh] at d5
    refine ⟨?_, ?_, ?_⟩
    · simp only [hz_at]; rw [if_neg (by decide), d5 _ _ (by decide) (by decide) (by decide)]
      simp [hs_at, hz_at, occ, b2 s s0 s1]
    · simp only [hz_at]; rw [if_neg (by decide), f1]
    · simp only [hz_at]; rw [if_neg (by decide), f2]
  · rw [← eh] at d5
    refine ⟨?_, ?_, ?_⟩ <;> (simp only [hz_at]; rw [if_neg (by decide), d5 _ _ (by decide) (by decide) (by decide)]; simp [hs_at, hz_at])
  · rw [← eh] at d5
    refine ⟨?_, ?_⟩ <;> (simp only [hz_at]; rw [if_neg (by decide), d5 _ _ (by decide) (by decide) (by decide)]; simp [hs_at, hz_at])
  · rw [← eh] at d5
    refine ⟨?_, ?_, ?_, ?_, ?_, ?_⟩ <;> (simp only [hz_at]; rw [if_neg (by decide), d5 _ _ (by decide) (by decide) (by decide)]; simp [hs_at, hz_at])
  · rw [← eh] at d5
    refine ⟨?_, ?_, ?_, ?_, ?_, ?_, ?_, ?_⟩ <;> (simp only [hz_at]; rw [if_neg (by decide), d5 _ _ (by decide) (by decide) (by decide)]; simp [hs_at, hz_at, occ])
  · refine ⟨?_, ?_, ?_, ?_, ?_⟩
    · simp only [hz_at]; rw [if_neg (by decide), d3 _ (by omega) (by omega)]
    · simp only [hz_at]; rw [if_neg (by decide), d3 _ (by omega) (by omega)]
    · simp only [hz_at]; rw [if_neg (by decide), d3 _ (by omega) (by omega)]
    · simp only [hz_at]; rw [if_neg (by decide), d4 _ (by omega)]; simp [hs_at, hz_at]
    · simp only [hz_at]; rw [if_neg (by decide), d4 _ (by omega)]; simp [hs_at, hz_at]
  · rw [← eh] at d5
    refine ⟨?_, ?_, ?_⟩ <;> (simp only [hz_at]; rw [if_neg (by decide), d5 _ _ (by decide) (by decide) (by decide)]; simp [hs_at, hz_at])
end ZPURE10
end
section
section ZPURE11
theorem PsNew.T {h : HS} (w : PsNew h) : PsT h := ⟨by have := w.t.1; omega, by rw [w.t.1, w.t.2.2], fun i i0 i1 => by have := w.t.1; omega⟩
theorem PsNew.E {h : HS} (w : PsNew h) : PsE h := by
  obtain ⟨e1, e2, e3, e4, e5, e6⟩ := w.e
  exact ⟨by omega, by omega, by omega⟩
theorem PsNew.B {h : HS} (w : PsNew h) : PsB h := ⟨by have := w.k.1; omega, by rw [w.k.1, w.k.2], fun s s0 s1 => by
  obtain ⟨b1, b2, b3⟩ := w.b s s0 s1
  have := w.k.1
  omega⟩
theorem PsNew.K {h : HS} (w : PsNew h) : PsK h := ⟨by have := w.k.1; omega, by rw [w.k.1, w.k.2], fun i i0 i1 => by have := w.k.1; omega⟩
theorem PsNew.S {h : HS} (w : PsNew h) : PsS h := ⟨fun i i0 i1 => by obtain ⟨c1, c2⟩ := w.c i; omega, fun i j i0 i1 j0 j1 => by obtain ⟨c1, c2⟩ := w.c i; omega⟩
theorem PsNew.N {h : HS} (w : PsNew h) : PsN0 h := ⟨by have := w.n.1; omega, by rw [w.n.1, w.n.2.1]⟩
theorem PsNew.R {h : HS} (w : PsNew h) : PsR h := by
  obtain ⟨n1, n2, n3, n4⟩ := w.n
  obtain ⟨r1, r2, r3, r4, r5, r6, r7, r8⟩ := w.r
  obtain ⟨m1, m2, m3, m4, m5⟩ := w.m
  refine ⟨by omega, by rw [n1, n2], fun i i0 i1 => ?_, fun i i0 i1 => ?_⟩
  · obtain rfl : i = 0 := by omega
    rw [Int.mul_zero, Int.zero_add, Int.zero_add, Int.zero_add, Int.zero_add]
    omega
  · obtain rfl : i = 0 := by omega
    omega
theorem PsNew.C {h : HS} (w : PsNew h) : PsC h := by
  obtain ⟨n1, n2, n3, n4⟩ := w.n
  obtain ⟨r1, r2, r3, r4, r5, r6, r7, r8⟩ := w.r
  refine ⟨fun i i0 i1 j hj => ?_, fun i i0 i1 j j2 hj hj2 _ => ?_⟩
  · obtain rfl : i = 0 := by omega
    omega
  · obtain rfl : i = 0 := by omega
    omega
/-! each piece looks at some places alone -/
theorem PsT.cg {o h : HS} (w : PsT h) (e1 : o 19 1 = h 19 1) (e2 : o 30 13 = h 30 13) (e3 : ∀ i, o 39 i = h 39 i) (e4 : ∀ i, o 20 i = h 20 i) : PsT o :=
  ⟨by rw [e1]; exact w.n, by rw [e1, e2]; exact w.n2, fun i i0 i1 => by rw [e1] at i1; rw [e3, e4]; exact w.by_ i i0 i1⟩
theorem PsE.cg {o h : HS} (w : PsE h) (e1 : ∀ b, 13 ≤ b → b ≤ 15 → o 0 b = h 0 b) (e2 : ∀ b, 14 ≤ b → b ≤ 16 → o 30 b = h 30 b) : PsE o :=
  ⟨by rw [e1 _ (by omega) (by omega), e2 _ (by omega) (by omega)]; exact w.e1, by rw [e1 _ (by omega) (by omega), e2 _ (by omega) (by omega)]; exact w.e2, by rw [e1 _ (by omega) (by omega), e2 _ (by omega) (by omega)]; exact w.e3⟩
theorem PsB.cg {o h : HS} (w : PsB h) (e1 : o 1 5 = h 1 5) (e2 : o 30 1 = h 30 1) (e3 : ∀ i, o 35 i = h 35 i) (e4 : ∀ i, o 8 i = h 8 i) : PsB o :=
  ⟨by rw [e1]; exact w.nk, by rw [e1, e2]; exact w.nk2, fun s s0 s1 => by rw [e1, e3, e4]; exact w.sq s s0 s1⟩
theorem PsK.cg {o h : HS} (w : PsK h) (e1 : o 1 5 = h 1 5) (e2 : o 30 1 = h 30 1) (e3 : ∀ i, o 31 i = h 31 i) (e4 : ∀ i, o 2 i = h 2 i) : PsK o :=
  ⟨by rw [e1]; exact w.n, by rw [e1, e2]; exact w.n2, fun i i0 i1 => by rw [e1] at i1; rw [e3, e4]; exact w.le i i0 i1⟩
theorem PsS.cg {o h : HS} (w : PsS h) (e1 : ∀ i, o 32 i = h 32 i) (e2 : ∀ i, o 3 i = h 3 i) (e3 : ∀ i, o 33 i = h 33 i) (e4 : ∀ i, o 4 i = h 4 i) (e5 : ∀ i, o 5 i = h 5 i) (e6 : ∀ i, o 6 i = h 6 i) : PsS o :=
  ⟨fun i i0 i1 => by rw [e1, e2]; exact w.c i i0 i1, fun i j i0 i1 j0 j1 => by rw [e2] at j1; rw [e3, e3, e3, e4, e5, e6]; exact w.s i j i0 i1 j0 j1⟩
theorem PsR.cg {o h : HS} (w : PsR h) (e1 : o 9 8 = h 9 8) (e2 : o 30 8 = h 30 8) (e3 : ∀ i, o 37 i = h 37 i) (e4 : ∀ i, o 10 i = h 10 i ∧ o 11 i = h 11 i ∧ o 12 i = h 12 i ∧ o 14 i = h 14 i ∧ o 15 i = h 15 i) : PsR o :=
  ⟨by rw [e1]; exact w.n, by rw [e1, e2]; exact w.n2, fun i i0 i1 => by
    rw [e1] at i1
    obtain ⟨a, b, c, d, e⟩ := e4 i
    rw [e3, e3, e3, e3, e3, a, b, c, d, e]
    exact w.f i i0 i1, fun i i0 i1 => by
    rw [e1] at i1
    obtain ⟨a, b, c, d, e⟩ := e4 i
    rw [a, b, c, d, e]
    exact w.g i i0 i1⟩
theorem kid_cg {o h : HS} (e1 : ∀ i, o 16 i = h 16 i) (e2 : ∀ i, o 17 i = h 17 i) (i : Int) : ∀ j : Nat, kid o i j = kid h i j
  | 0 => e1 i
  | j + 1 => by
    show o 17 (kid o i j) = h 17 (kid h i j)
    rw [kid_cg e1 e2 i j, e2]
theorem PsC.cg {o h : HS} (w : PsC h) (e0 : o 9 8 = h 9 8) (e1 : ∀ i, o 16 i = h 16 i) (e2 : ∀ i, o 17 i = h 17 i) (e3 : ∀ i, o 38 i = h 38 i) (e4 : ∀ i, o 10 i = h 10 i) (e5 : ∀ i, o 15 i = h 15 i) : PsC o :=
  ⟨fun i i0 i1 j hj => by
    rw [e0] at i1
    rw [e5] at hj
    rw [kid_cg e1 e2, e0, e3, e4]
    exact w.c i i0 i1 j hj, fun i i0 i1 j j2 hj hj2 hk => by
    rw [e0] at i1
    rw [e5] at hj hj2
    rw [kid_cg e1 e2, kid_cg e1 e2] at hk
    exact w.d i i0 i1 j j2 hj hj2 hk⟩
end ZPURE11
end
section
section ZPURE12
/-- each node but 0 is among the children of the node above it -/
abbrev PsA (h : HS) : Prop := ∀ p : Int, 1 ≤ p → p < h 9 8 → (0 ≤ h 10 p ∧ h 10 p < p) ∧ ∃ j : Nat, (j : Int) < h 15 (h 10 p) ∧ kid h (h 10 p) j = p
theorem PsNew.A {h : HS} (w : PsNew h) : PsA h := fun p p0 p1 => by have := w.n.1; omega
theorem pX4_above {p : Int} {h : HS} (hR : PsR h) (h1 : 0 ≤ p ∧ p < h 9 8) : fX4_above p h = some (h 10 p) := by
  have n := hR.n
  unfold fX4_above
  exact pX4_row (by unfold zr; omega) n h1
theorem pX4_count {p : Int} {h : HS} (hR : PsR h) (h1 : 0 ≤ p ∧ p < h 9 8) : fX4_childCount p h = some (h 15 p) := by
  have n := hR.n
  unfold fX4_childCount
  exact pX4_row (by unfold zr; omega) n h1
theorem pX4_placeL {p : Int} {h : HS} (hR : PsR h) (hC : PsC h) (hp : 1 ≤ p ∧ p < h 9 8) {a : Int} (ha : h 10 p = a) (ha0 : 0 ≤ a ∧ a < h 9 8) {j : Nat} (hj : (j : Int) < h 15 a) (hk : kid h a j = p) : ∀ (nf k : Nat), k ≤ j → j - k < nf → fX4_placeOf_L13 nf p (kid h a k) (k : Int) h = some (j : Int)
  | 0, k, h1, h2 => by omega
  | nf + 1, k, h1, h2 => by
    have n := hR.n
    obtain ⟨g0, g1, g2, g3, g4⟩ := hR.g a ha0.1 ha0.2
    obtain ⟨⟨k1, k2⟩, k3, k4⟩ := hC.c a ha0.1 ha0.2 k (by omega)
    rw [fX4_placeOf_L13]
    rw [pX4_above hR ⟨by omega, hp.2⟩, ha, Option.bind_some, pX4_count hR ha0, Option.bind_some, wr_of (z := h 15 a) (by omega) (by omega), wr_of (z := (k : Int)) (by omega) (by omega), if_neg (by omega), pX4_has (by unfold zr; omega) n, if_pos (show 0 ≤ kid h a k ∧ kid h a k < h 9 8 by omega), Option.bind_some, if_neg (show ¬ wr 1 = 0 by decide), wr_of (z := kid h a k) (by omega) (by omega), wr_of (z := p) (by omega) (by omega)]
    by_cases he : kid h a k = p
    · rw [if_pos he]
      have e := hC.d a ha0.1 ha0.2 k j (by omega) hj (by rw [he, hk])
      rw [e]
    · rw [if_neg he, if_pos (by omega)]
      have hkj : k < j := by
        rcases Nat.lt_or_ge k j with g | g
        · exact g
        · exact absurd (by rw [show k = j by omega]; exact hk) he
      have e := pX4_placeL hR hC hp ha ha0 hj hk nf (k + 1) (by omega) (by omega)
      rw [Int.natCast_add] at e
      exact e
theorem pX4_placeOf {p : Int} {h : HS} (hR : PsR h) (hC : PsC h) (hp : 1 ≤ p ∧ p < h 9 8) {a : Int} (ha : h 10 p = a) (ha0 : 0 ≤ a ∧ a < h 9 8) {j : Nat} (hj : (j : Int) < h 15 a) (hk : kid h a j = p) : fX4_placeOf p h = some (j : Int) := by
  obtain ⟨g0, g1, g2, g3, g4⟩ := hR.g a ha0.1 ha0.2
  unfold fX4_placeOf
  rw [pX4_above hR ⟨by omega, hp.2⟩, ha, Option.bind_some, pX4_child hR hC ha0 ⟨by omega, by omega⟩, Option.bind_some]
  exact pX4_placeL hR hC hp ha ha0 hj hk zF 0 (Nat.zero_le _) (by unfold zF; omega)
end ZPURE12
end
section
section ZPURE13
theorem pX6_prL {p a : Int} {h : HS} (hp : 0 ≤ p ∧ p < 200) (ha : 0 ≤ a ∧ a < 200) {j : Nat} (hj : j < 200) (hk : ∀ k : Nat, k ≤ j → (0 ≤ h 38 (200 * a + k) ∧ h 38 (200 * a + k) < 200) ∧ (h 38 (200 * a + k) = p ↔ k = j)) : ∀ (nf k : Nat), k ≤ j → j - k < nf → fX6_promote_L38 nf p (200 * a) (k : Int) h = some ((j : Int), hs (hcp h 38 (200 * a) 38 (200 * a + 1) (j : Int)) 38 (200 * a) p)
  | 0, k, h1, h2 => by omega
  | nf + 1, k, h1, h2 => by
    obtain ⟨⟨b1, b2⟩, b3⟩ := hk k h1
    rw [fX6_promote_L38]
    rw [if_pos (show 0 ≤ 200 * a + (k : Int) ∧ 200 * a + (k : Int) < 40000 by omega), wr_of (z := h 38 (200 * a + k)) (by omega) (by omega), wr_of (z := p) (by omega) (by omega)]
    by_cases he : h 38 (200 * a + k) = p
    · have e := b3.mp he
      subst e
      rw [if_pos he, if_pos (by omega), if_pos (by omega)]
    · have e : k ≠ j := fun e => he (b3.mpr e)
      rw [if_neg he]
      have e := pX6_prL hp ha hj hk nf (k + 1) (by omega) (by omega)
      rw [Int.natCast_add] at e
      exact e
/-- the list with one child put in front -/
def nProm (p a : Int) (j : Nat) (h : HS) : HS := if j = 0 then h else hs (hs (hs h 17 (kid h a (j - 1)) (h 17 p)) 17 p (h 16 a)) 16 a p
theorem pX4_makeMain {p : Int} {h : HS} (hR : PsR h) (hC : PsC h) (hp : 1 ≤ p ∧ p < h 9 8) {a : Int} (ha : h 10 p = a) (ha0 : 0 ≤ a ∧ a < h 9 8) {j : Nat} (hj : (j : Int) < h 15 a) (hk : kid h a j = p) : fX4_makeMain p h = some ((j : Int), nProm p a j h) := by
  have n := hR.n
  obtain ⟨g0, g1, g2, g3, g4⟩ := hR.g a ha0.1 ha0.2
  unfold fX4_makeMain nProm
  rw [pX4_placeOf hR hC hp ha ha0 hj hk, Option.bind_some, pX4_above hR ⟨by omega, hp.2⟩, ha, Option.bind_some]
  by_cases h0 : j = 0
  · subst h0
    have ec : fX4_child a ((0 : Nat) - 1 : Int) h = some (-1) := by
      unfold fX4_child
      rw [pX4_has (by unfold zr; omega) n, if_pos ha0, Option.bind_some, if_neg (show ¬ wr 1 = 0 by decide), wr_of (by omega) (by omega), if_pos (by omega)]
    rw [ec, Option.bind_some, pX4_has (by unfold zr; omega) n, if_pos (show 0 ≤ p ∧ p < h 9 8 by omega), Option.bind_some, if_neg (show ¬ wr 1 = 0 by decide), pX4_has (by unfold zr; omega) n, if_pos ha0, Option.bind_some, if_neg (show ¬ wr 1 = 0 by decide), pX4_has (by unfold zr; omega) n, if_neg (show ¬ ((0 : Int) ≤ -1 ∧ (-1 : Int) < h 9 8) by omega), Option.bind_some, if_pos wr_0, if_pos rfl]
  · obtain ⟨⟨k1, k2⟩, k3, k4⟩ := hC.c a ha0.1 ha0.2 (j - 1) (by omega)
    have ec : fX4_child a ((j : Int) - 1) h = some (kid h a (j - 1)) := by
      rw [pX4_child hR hC ha0 ⟨by omega, by omega⟩, show ((j : Int) - 1).toNat = j - 1 by omega]
    have e16 : hs h 17 (kid h a (j - 1)) (h 17 p) 16 a = h 16 a := hs_ne' (by decide)
    rw [ec, Option.bind_some, pX4_has (by unfold zr; omega) n, if_pos (show 0 ≤ p ∧ p < h 9 8 by omega), Option.bind_some, if_neg (show ¬ wr 1 = 0 by decide), pX4_has (by unfold zr; omega) n, if_pos ha0, Option.bind_some, if_neg (show ¬ wr 1 = 0 by decide), pX4_has (by unfold zr; omega) n, if_pos (show 0 ≤ kid h a (j - 1) ∧ kid h a (j - 1) < h 9 8 by omega), Option.bind_some, if_neg (show ¬ wr 1 = 0 by decide), if_pos (show 0 ≤ p ∧ p < 200 by omega), if_pos (show 0 ≤ kid h a (j - 1) ∧ kid h a (j - 1) < 200 by omega), if_pos (show 0 ≤ a ∧ a < 200 by omega), if_pos (show 0 ≤ p ∧ p < 200 by omega), if_pos (show 0 ≤ a ∧ a < 200 by omega), e16, if_neg h0]
end ZPURE13
end
section
section ZPURE14
theorem kid_other {p a : Int} {h : HS} (hC : PsC h) {j : Nat} (ha0 : 0 ≤ a ∧ a < h 9 8) (hj : (j : Int) < h 15 a) (hk : kid h a j = p) {i : Int} (hi : i ≠ a) (hi0 : 0 ≤ i ∧ i < h 9 8) : ∀ k : Nat, (k : Int) < h 15 i → kid (nProm p a j h) i k = kid h i k
  | 0, h1 => by
    unfold nProm
    by_cases h0 : j = 0
    · rw [if_pos h0]
    · rw [if_neg h0]
      show hs _ 16 a p 16 i = h 16 i
      rw [hs_at, if_pos rfl, if_neg hi, hs_ne' (by decide), hs_ne' (by decide)]
  | k + 1, h1 => by
    have e := kid_other hC ha0 hj hk hi hi0 k (by omega)
    obtain ⟨-, -, m1⟩ := hC.c i hi0.1 hi0.2 k (by omega)
    obtain ⟨-, -, m2⟩ := hC.c a ha0.1 ha0.2 j hj
    show nProm p a j h 17 (kid (nProm p a j h) i k) = h 17 (kid h i k)
    rw [e]
    unfold nProm
    by_cases h0 : j = 0
    · rw [if_pos h0]
    · obtain ⟨-, -, m3⟩ := hC.c a ha0.1 ha0.2 (j - 1) (by omega)
      have n1 : kid h i k ≠ p := fun e => hi (by rw [← m1, e, ← hk, m2])
      have n2 : kid h i k ≠ kid h a (j - 1) := fun e => hi (by rw [← m1, e, m3])
      rw [if_neg h0, hs_ne' (by decide), hs_at, if_pos rfl, if_neg n1, hs_at, if_pos rfl, if_neg n2]
end ZPURE14
end
section
section ZBITS
/-! bits of a long -/
def bi (x : Int64) (t : Nat) : Bool := x.toBitVec.getLsbD t
theorem zcmp_0 {x y : Int64} : wr (zcmp x y) = 0 ↔ x = y := by
  unfold zcmp
  by_cases h1 : y < x
  · rw [if_pos h1]
    exact ⟨fun e => absurd e (by decide), fun e => by subst e; exact absurd h1 Int64.lt_irrefl⟩
  · rw [if_neg h1]
    by_cases h2 : x = y
    · rw [if_pos h2]
      exact ⟨fun _ => h2, fun _ => wr_0⟩
    · rw [if_neg h2]
      exact ⟨fun e => absurd e (by decide), fun e => absurd e h2⟩
theorem bi_zero (t : Nat) : bi (Int64.ofNat 0) t = false := by
  have e : (Int64.ofNat 0).toBitVec = 0#64 := rfl
  unfold bi
  rw [e, BitVec.getLsbD_zero]
theorem bi_or (x y : Int64) (t : Nat) : bi (x ||| y) t = (bi x t || bi y t) := by
  have e : (x ||| y).toBitVec = x.toBitVec ||| y.toBitVec := rfl
  unfold bi
  rw [e, BitVec.getLsbD_or]
theorem bi_and (x y : Int64) (t : Nat) : bi (x &&& y) t = (bi x t && bi y t) := by
  have e : (x &&& y).toBitVec = x.toBitVec &&& y.toBitVec := rfl
  unfold bi
  rw [e, BitVec.getLsbD_and]
theorem bi_ext {x : Int64} : x = Int64.ofNat 0 ↔ ∀ t, t < 64 → bi x t = false := by
  constructor
  · intro e t _
    subst e
    exact bi_zero t
  · intro h
    refine Int64.toBitVec.inj (BitVec.eq_of_getLsbD_eq (fun i hi => ?_))
    have e := h i hi
    have z := bi_zero i
    unfold bi at e z
    rw [e, z]
theorem bi_shl0 : ∀ s t : Fin 64, bi (zshl (Int64.ofNat 1) ((s.val : Nat) : Int)) t.val = decide (t.val = s.val) := by decide +kernel
theorem bi_shl {s : Int} {t : Nat} (hs : 0 ≤ s ∧ s < 64) (ht : t < 64) : bi (zshl (Int64.ofNat 1) s) t = decide ((t : Int) = s) := by
  have e := bi_shl0 ⟨s.toNat, by omega⟩ ⟨t, ht⟩
  have e1 : ((s.toNat : Nat) : Int) = s := Int.toNat_of_nonneg hs.1
  simp only [e1] at e
  rw [e]
  by_cases h : (t : Int) = s
  · rw [decide_eq_true h, decide_eq_true (by omega)]
  · rw [decide_eq_false h, decide_eq_false (by omega)]
theorem zush0 : ∀ s : Fin 64, (((iI ((s.val : Nat) : Int)).toInt64.toUInt64 &&& Int64.toUInt64 63).toBitVec % 64#64).toNat = s.val := by decide +kernel
theorem bi_ushr {x : Int64} {s : Int} {t : Nat} (hs : 0 ≤ s ∧ s < 64) : bi (zushr x s) t = bi x (s.toNat + t) := by
  have e := zush0 ⟨s.toNat, by omega⟩
  have e1 : ((s.toNat : Nat) : Int) = s := Int.toNat_of_nonneg hs.1
  simp only [e1] at e
  have e2 : (zushr x s).toBitVec = x.toBitVec >>> (((iI s).toInt64.toUInt64 &&& Int64.toUInt64 63).toBitVec % 64#64) := rfl
  unfold bi
  rw [e2, BitVec.ushiftRight_eq', e, BitVec.getLsbD_ushiftRight]
theorem bi_one0 : ∀ t : Fin 64, bi (Int64.ofNat 1) t.val = decide (t.val = 0) := by decide +kernel
theorem bi_big {x : Int64} {t : Nat} (h : 64 ≤ t) : bi x t = false := BitVec.getLsbD_of_ge _ _ h
/-- the test of one bit -/
theorem zbit {x : Int64} {s : Int} (hs : 0 ≤ s ∧ s < 64) : wr (zcmp ((zushr x s) &&& (Int64.ofNat 1)) (Int64.ofNat 0)) = 0 ↔ bi x s.toNat = false := by
  rw [zcmp_0, bi_ext]
  constructor
  · intro h
    have e := h 0 (by omega)
    rw [bi_and, bi_ushr hs, bi_one0 ⟨0, by omega⟩] at e
    simpa using e
  · intro h t ht
    rw [bi_and, bi_ushr hs, bi_one0 ⟨t, ht⟩]
    by_cases h0 : t = 0
    · subst h0
      rw [Nat.add_zero, h]
      rfl
    · simp [h0]
theorem zbits {x y : Int64} : wr (zcmp (x &&& y) (Int64.ofNat 0)) = 0 ↔ ∀ t, t < 64 → ¬ (bi x t = true ∧ bi y t = true) := by
  rw [zcmp_0, bi_ext]
  constructor
  · intro h t ht e
    have e1 := h t ht
    rw [bi_and, e.1, e.2] at e1
    exact absurd e1 (by decide)
  · intro h t ht
    rw [bi_and]
    have e := h t ht
    cases h1 : bi x t
    · rfl
    · cases h2 : bi y t
      · rfl
      · exact absurd ⟨h1, h2⟩ e
theorem zbit0 {x : Int64} : wr (zcmp x (Int64.ofNat 0)) = 0 ↔ ∀ t, t < 64 → bi x t = false := by
  rw [zcmp_0, bi_ext]
theorem zbitr {x : Int64} {s : Int} (hs : 0 ≤ s ∧ s < 64) : wr (zcmp (zushr x s) (Int64.ofNat 0)) = 0 ↔ ∀ t : Nat, s ≤ t → t < 64 → bi x t = false := by
  rw [zcmp_0, bi_ext]
  constructor
  · intro h t h1 h2
    have e := h (t - s.toNat) (by omega)
    rw [bi_ushr hs, show s.toNat + (t - s.toNat) = t by omega] at e
    exact e
  · intro h t ht
    rw [bi_ushr hs]
    by_cases h64 : s.toNat + t < 64
    · exact h _ (by omega) h64
    · exact bi_big (by omega)
end ZBITS
end
section
section ZSPEC
/-! what the document says of moves, once for both sides -/
def exB (p : Nat → Bool) : Nat → Nat → Bool
  | 0, _ => false
  | n + 1, j => p j || exB p n (j + 1)
theorem exB_iff {p : Nat → Bool} : ∀ {n j : Nat}, exB p n j = true ↔ ∃ k, j ≤ k ∧ k < j + n ∧ p k = true
  | 0, j => ⟨fun e => absurd e (by simp [exB]), fun ⟨k, h1, h2, _⟩ => by omega⟩
  | n + 1, j => by
    show (p j || exB p n (j + 1)) = true ↔ _
    rw [Bool.or_eq_true, exB_iff]
    constructor
    · rintro (h | ⟨k, h1, h2, h3⟩)
      · exact ⟨j, by omega, by omega, h⟩
      · exact ⟨k, by omega, by omega, h3⟩
    · rintro ⟨k, h1, h2, h3⟩
      rcases Nat.lt_or_ge j k with g | g
      · exact Or.inr ⟨k, by omega, by omega, h3⟩
      · have e : k = j := by omega
        subst e
        exact Or.inl h3
theorem exB_congr {p q : Nat → Bool} : ∀ {n j : Nat}, (∀ k, j ≤ k → k < j + n → p k = q k) → exB p n j = exB q n j
  | 0, j, _ => rfl
  | n + 1, j, h => by
    show (p j || exB p n (j + 1)) = (q j || exB q n (j + 1))
    rw [h j (by omega) (by omega), exB_congr (fun k h1 h2 => h k (by omega) (by omega))]
def smN (p : Nat → Nat) : Nat → Nat → Nat
  | 0, _ => 0
  | n + 1, j => p j + smN p n (j + 1)
theorem smN_0 {p : Nat → Nat} : ∀ {n j : Nat}, (∀ k, j ≤ k → k < j + n → p k = 0) → smN p n j = 0
  | 0, j, _ => rfl
  | n + 1, j, h => by
    show p j + smN p n (j + 1) = 0
    rw [h j (by omega) (by omega), smN_0 (fun k h1 h2 => h k (by omega) (by omega))]
abbrev KT : Type := (Int → Int) × (Int → Int) × (Int → Int) × (Int → Int)
def sdOf (v : Int) : Int := if v = -1 then -1 else v % 2
def sdY (v y : Int) : Int := if v % 2 = 0 then y else -y
def mv (b : Int → Int) (f t : Int) : Int → Int := fun s => if s = f then -1 else if s = t then b f else b s
def ray (b : Int → Int) (t dx dy : Int) : Nat → Int → Int → Bool
  | 0, _, _ => false
  | n + 1, x, y => if 0 ≤ x ∧ x < 8 ∧ 0 ≤ y ∧ y < 8 then (if y * 8 + x = t then true else if b (y * 8 + x) = -1 then ray b t dx dy n (x + dx) (y + dy) else false) else false
def hitS (K : KT) (b : Int → Int) (f t : Int) (j : Nat) : Bool := ray b t (K.2.1 (b f / 2 * 8 + j)) (sdY (b f) (K.2.2.1 (b f / 2 * 8 + j))) (K.2.2.2 (b f / 2 * 8 + j)).toNat (f % 8 + K.2.1 (b f / 2 * 8 + j)) (f / 8 + sdY (b f) (K.2.2.1 (b f / 2 * 8 + j)))
def hit (K : KT) (b : Int → Int) (f t : Int) : Bool := decide (sdOf (b t) ≠ sdOf (b f)) && exB (hitS K b f t) (K.1 (b f / 2)).toNat 0
def chk (K : KT) (b : Int → Int) (sd : Int) : Bool := exB (fun f => decide (sdOf (b f) = 1 - sd) && exB (fun t => decide (b t = sd) && hit K b f t) 64 0) 64 0
def lgl (K : KT) (b : Int → Int) (f t : Int) : Bool := !chk K (mv b f t) (sdOf (b f))
def cnP (K : KT) (b : Int → Int) (f : Int) (t : Nat) : Nat := if (hit K b f t && lgl K b f t) = true then 1 else 0
def cnF (K : KT) (b : Int → Int) (sd : Int) (f : Nat) : Nat := if sdOf (b f) = sd then smN (cnP K b f) 64 0 else 0
def cnt (K : KT) (b : Int → Int) (sd : Int) : Nat := smN (cnF K b sd) 64 0
def sgn (K : KT) (b : Int → Int) (f t : Int) : Int := if chk K (mv b f t) (1 - sdOf (b f)) = true then (if 0 < cnt K (mv b f t) (1 - sdOf (b f)) then 43 else 35) else -1
/-- all is in range: n kinds, board b -/
abbrev gd (K : KT) (n : Int) (b : Int → Int) : Prop := (0 ≤ n ∧ n ≤ 6) ∧ (∀ s : Int, 0 ≤ s → s < 64 → -1 ≤ b s ∧ b s < 2 * n) ∧ (∀ i : Int, 0 ≤ i → i < 6 → 0 ≤ K.1 i ∧ K.1 i ≤ 8) ∧ (∀ i j : Int, 0 ≤ i → i < 6 → 0 ≤ j → j < K.1 i → (-3 ≤ K.2.1 (i * 8 + j) ∧ K.2.1 (i * 8 + j) ≤ 3) ∧ (-3 ≤ K.2.2.1 (i * 8 + j) ∧ K.2.2.1 (i * 8 + j) ≤ 3) ∧ 1 ≤ K.2.2.2 (i * 8 + j) ∧ K.2.2.2 (i * 8 + j) ≤ 7)
/-- the class's cells hold kinds K and board b -/
abbrev cSt (K : KT) (n : Int) (b : Int → Int) (h : HS) : Prop := h 1 5 = n ∧ (∀ s : Int, 0 ≤ s → s < 64 → h 8 s = b s) ∧ (∀ i : Int, 0 ≤ i → i < 6 → h 3 i = K.1 i) ∧ (∀ i j : Int, 0 ≤ i → i < 6 → 0 ≤ j → j < K.1 i → h 4 (i * 8 + j) = K.2.1 (i * 8 + j) ∧ h 5 (i * 8 + j) = K.2.2.1 (i * 8 + j) ∧ h 6 (i * 8 + j) = K.2.2.2 (i * 8 + j))
/-- the reference's cells hold kinds K, its cell a the board b -/
abbrev mSt (a : Nat) (K : KT) (b : Int → Int) (h : HS) : Prop := (∀ s : Int, 0 ≤ s → s < 64 → h a s = b s) ∧ (∀ i : Int, 0 ≤ i → i < 6 → h 32 i = K.1 i) ∧ (∀ i j : Int, 0 ≤ i → i < 6 → 0 ≤ j → j < K.1 i → h 33 (3 * (8 * i + j)) = K.2.1 (i * 8 + j) ∧ h 33 (3 * (8 * i + j) + 1) = K.2.2.1 (i * 8 + j) ∧ h 33 (3 * (8 * i + j) + 2) = K.2.2.2 (i * 8 + j))
theorem gd_mv {K : KT} {n : Int} {b : Int → Int} (g : gd K n b) {f t : Int} (hf : 0 ≤ f ∧ f < 64) : gd K n (mv b f t) := by
  refine ⟨g.1, fun s s0 s1 => ?_, g.2.2.1, g.2.2.2⟩
  obtain ⟨a1, a2⟩ := g.2.1 s s0 s1
  obtain ⟨c1, c2⟩ := g.2.1 f hf.1 hf.2
  have n0 := g.1
  unfold mv
  by_cases e : s = f
  · rw [if_pos e]; omega
  · rw [if_neg e]
    by_cases e2 : s = t
    · rw [if_pos e2]; omega
    · rw [if_neg e2]; omega
theorem sdOf_01 {v : Int} (h : 0 ≤ v) : sdOf v = v % 2 ∧ (sdOf v = 0 ∨ sdOf v = 1) := by
  unfold sdOf
  rw [if_neg (by omega)]
  omega
theorem sdOf_m : sdOf (-1) = -1 := rfl
end ZSPEC
end
section
section ZCLS1
/-! the class: what a piece reaches -/
theorem cX0_ray {K : KT} {n : Int} {b : Int → Int} {h : HS} (g : gd K n b) (c : cSt K n b h) (k73 : Int → Int → Int → Int64 → Int → HS → Option Int64) {f sd e st dx dy : Int} (hsd : sd = 0 ∨ sd = 1) (hdx : -3 ≤ dx ∧ dx ≤ 3) (hdy : -3 ≤ dy ∧ dy ≤ 3) : ∀ (nf m : Nat) (acc : Int64) (x y : Int), m < nf → m ≤ 7 → (-3 ≤ x ∧ x ≤ 10) → (-3 ≤ y ∧ y ≤ 10) → ∃ r, fX0_reachedFrom_L152 k73 nf f sd e acc st dx dy x y (m : Int) h = k73 f sd e r (st + 1) h ∧ ∀ t : Nat, t < 64 → (bi r t = true ↔ (bi acc t = true ∨ (sdOf (b t) ≠ sd ∧ ray b t dx dy m x y = true)))
  | 0, m, acc, x, y, h1, h2, h3, h4 => by omega
  | nf + 1, m, acc, x, y, h1, h2, h3, h4 => by
    rw [fX0_reachedFrom_L152]
    unfold fX0_reachedFrom_b256 fX0_reachedFrom_b214 fX0_reachedFrom_b223 fX0_reachedFrom_b237
    rw [wr_of (z := (m : Int)) (by omega) (by omega), wr_of (z := x) (by omega) (by omega), wr_of (z := y) (by omega) (by omega)]
    cases m with
    | zero =>
      rw [if_pos (by omega)]
      exact ⟨acc, rfl, fun t ht => by simp [ray]⟩
    | succ m =>
      rw [if_neg (by omega)]
      by_cases hon : 0 ≤ x ∧ x < 8 ∧ 0 ≤ y ∧ y < 8
      · have q0 : 0 ≤ y * 8 + x ∧ y * 8 + x < 64 := by omega
        obtain ⟨v1, v2⟩ := g.2.1 _ q0.1 q0.2
        have n0 := g.1
        have er : ∀ t : Nat, ray b (t : Int) dx dy (m + 1) x y = if y * 8 + x = (t : Int) then true else if b (y * 8 + x) = -1 then ray b t dx dy m (x + dx) (y + dy) else false := fun t => by
          show (if 0 ≤ x ∧ x < 8 ∧ 0 ≤ y ∧ y < 8 then _ else _) = _
          rw [if_pos hon]
        have em : ((m + 1 : Nat) : Int) - 1 = (m : Int) := by omega
        rw [if_neg (by omega), if_neg (by omega), if_neg (by omega), if_neg (by omega), if_pos q0, c.2.1 _ q0.1 q0.2, wr_of (z := b (y * 8 + x)) (by omega) (by omega), em]
        by_cases hv : b (y * 8 + x) = -1
        · rw [if_pos hv, if_pos hv]
          obtain ⟨r, e1, e2⟩ := cX0_ray g c k73 (f := f) (e := e) (st := st) hsd hdx hdy nf m (acc ||| zshl (Int64.ofNat 1) (y * 8 + x)) (x + dx) (y + dy) (by omega) (by omega) (by omega) (by omega)
          refine ⟨r, e1, fun t ht => ?_⟩
          rw [e2 t ht, bi_or, bi_shl q0 ht, er t, if_pos hv]
          by_cases hq : y * 8 + x = (t : Int)
          · rw [if_pos hq, decide_eq_true hq.symm, Bool.or_true]
            have hn : sdOf (b t) ≠ sd := by rw [← hq, hv, sdOf_m]; omega
            exact ⟨fun _ => Or.inr ⟨hn, rfl⟩, fun _ => Or.inl rfl⟩
          · rw [if_neg hq, decide_eq_false (fun e => hq e.symm), Bool.or_false]
        · have v0 : 0 ≤ b (y * 8 + x) := by omega
          rw [if_neg hv, if_pos (by omega), wr_of (z := b (y * 8 + x) % 2) (by omega) (by omega), wr_of (z := sd) (by omega) (by omega), if_neg hv]
          by_cases hs2 : b (y * 8 + x) % 2 = sd
          · rw [if_pos hs2]
            obtain ⟨r, e1, e2⟩ := cX0_ray g c k73 (f := f) (e := e) (st := st) hsd hdx hdy nf 0 acc (x + dx) (y + dy) (by omega) (by omega) (by omega) (by omega)
            refine ⟨r, e1, fun t ht => ?_⟩
            rw [e2 t ht, er t, if_neg hv]
            by_cases hq : y * 8 + x = (t : Int)
            · have hn : sdOf (b t) = sd := by rw [← hq, (sdOf_01 v0).1, hs2]
              simp [hq, hn, ray]
            · simp [hq, ray]
          · rw [if_neg hs2, if_neg hv]
            obtain ⟨r, e1, e2⟩ := cX0_ray g c k73 (f := f) (e := e) (st := st) hsd hdx hdy nf 0 (acc ||| zshl (Int64.ofNat 1) (y * 8 + x)) (x + dx) (y + dy) (by omega) (by omega) (by omega) (by omega)
            refine ⟨r, e1, fun t ht => ?_⟩
            rw [e2 t ht, bi_or, bi_shl q0 ht, er t, if_neg hv]
            by_cases hq : y * 8 + x = (t : Int)
            · have hn : sdOf (b t) ≠ sd := by rw [← hq, (sdOf_01 v0).1]; exact hs2
              rw [if_pos hq, decide_eq_true hq.symm, Bool.or_true]
              exact ⟨fun _ => Or.inr ⟨hn, rfl⟩, fun _ => Or.inl rfl⟩
            · have hq2 : ¬ (t : Int) = y * 8 + x := fun e => hq e.symm
              simp [hq, hq2, ray]
      · have er : ∀ t : Nat, ray b (t : Int) dx dy (m + 1) x y = false := fun t => by
          show (if 0 ≤ x ∧ x < 8 ∧ 0 ≤ y ∧ y < 8 then _ else _) = _
          rw [if_neg hon]
        refine ⟨acc, ?_, fun t ht => by rw [er t]; simp⟩
        by_cases k1 : x < 0
        · rw [if_pos k1]
        · rw [if_neg k1]
          by_cases k2 : 8 ≤ x
          · rw [if_pos k2]
          · rw [if_neg k2]
            by_cases k3 : y < 0
            · rw [if_pos k3]
            · rw [if_neg k3, if_pos (by omega)]
theorem cX0_steps {K : KT} {n : Int} {b : Int → Int} {h : HS} (g : gd K n b) (c : cSt K n b h) {f : Int} (hf : 0 ≤ f ∧ f < 64) (hb : 0 ≤ b f) : ∀ (nf j : Nat) (acc : Int64), (j : Int) ≤ K.1 (b f / 2) → (K.1 (b f / 2)).toNat - j < nf → ∃ r, fX0_reachedFrom_L73 nf f (b f % 2) (b f / 2 * 8 + K.1 (b f / 2)) acc (b f / 2 * 8 + (j : Int)) h = some r ∧ ∀ t : Nat, t < 64 → (bi r t = true ↔ (bi acc t = true ∨ (sdOf (b t) ≠ b f % 2 ∧ ∃ i, j ≤ i ∧ (i : Int) < K.1 (b f / 2) ∧ hitS K b f t i = true)))
  | 0, j, acc, h1, h2 => by omega
  | nf + 1, j, acc, h1, h2 => by
    have n0 := g.1
    obtain ⟨v1, v2⟩ := g.2.1 f hf.1 hf.2
    obtain ⟨c1, c2⟩ := g.2.2.1 (b f / 2) (by omega) (by omega)
    rw [fX0_reachedFrom_L73]
    unfold fX0_reachedFrom_b120
    rw [wr_of (z := b f / 2 * 8 + K.1 (b f / 2)) (by omega) (by omega), wr_of (z := b f / 2 * 8 + (j : Int)) (by omega) (by omega), wr_of (z := b f % 2) (by omega) (by omega)]
    by_cases hj : K.1 (b f / 2) ≤ (j : Int)
    · rw [if_pos (by omega)]
      refine ⟨acc, rfl, fun t ht => ⟨Or.inl, fun e => ?_⟩⟩
      rcases e with e | ⟨e1, i, i1, i2, i3⟩
      · exact e
      · omega
    · obtain ⟨s1, s2, s3⟩ := c.2.2.2 (b f / 2) (j : Int) (by omega) (by omega) (by omega) (by omega)
      obtain ⟨r1, r2, r3⟩ := g.2.2.2 (b f / 2) (j : Int) (by omega) (by omega) (by omega) (by omega)
      have q0 : 0 ≤ b f / 2 * 8 + (j : Int) ∧ b f / 2 * 8 + (j : Int) < 48 := by omega
      have f0 : 0 ≤ f ∧ f < 2147483648 := by omega
      have y0 : -3 ≤ sdY (b f) (K.2.2.1 (b f / 2 * 8 + (j : Int))) ∧ sdY (b f) (K.2.2.1 (b f / 2 * 8 + (j : Int))) ≤ 3 := by
        unfold sdY
        by_cases e : b f % 2 = 0
        · rw [if_pos e]; omega
        · rw [if_neg e]; omega
      have en : (((K.2.2.2 (b f / 2 * 8 + (j : Int))).toNat : Nat) : Int) = K.2.2.2 (b f / 2 * 8 + (j : Int)) := Int.toNat_of_nonneg (by omega)
      obtain ⟨r, e1, e2⟩ := cX0_ray g c (fun a0 a1 a2 a3 a4 hh => fX0_reachedFrom_L73 nf a0 a1 a2 a3 a4 hh) (f := f) (sd := b f % 2) (e := b f / 2 * 8 + K.1 (b f / 2)) (st := b f / 2 * 8 + (j : Int)) (by omega) r1 y0 zF (K.2.2.2 (b f / 2 * 8 + (j : Int))).toNat acc (f % 8 + K.2.1 (b f / 2 * 8 + (j : Int))) (f / 8 + sdY (b f) (K.2.2.1 (b f / 2 * 8 + (j : Int)))) (by unfold zF; omega) (by omega) (by omega) (by omega)
      rw [en] at e1
      obtain ⟨r4, e3, e4⟩ := cX0_steps g c hf hb nf (j + 1) r (by omega) (by omega)
      have ej : b f / 2 * 8 + (j : Int) + 1 = b f / 2 * 8 + ((j + 1 : Nat) : Int) := by omega
      refine ⟨r4, ?_, fun t ht => ?_⟩
      · rw [if_neg (by omega)]
        simp only [if_pos q0, if_pos f0, s1, s2, s3]
        have ey : (if b f % 2 = 0 then fX0_reachedFrom_L152 (fun a0 a1 a2 a3 a4 hh => fX0_reachedFrom_L73 nf a0 a1 a2 a3 a4 hh) zF f (b f % 2) (b f / 2 * 8 + K.1 (b f / 2)) acc (b f / 2 * 8 + (j : Int)) (K.2.1 (b f / 2 * 8 + (j : Int))) (K.2.2.1 (b f / 2 * 8 + (j : Int))) (f % 8 + K.2.1 (b f / 2 * 8 + (j : Int))) (f / 8 + K.2.2.1 (b f / 2 * 8 + (j : Int))) (K.2.2.2 (b f / 2 * 8 + (j : Int))) h else fX0_reachedFrom_L152 (fun a0 a1 a2 a3 a4 hh => fX0_reachedFrom_L73 nf a0 a1 a2 a3 a4 hh) zF f (b f % 2) (b f / 2 * 8 + K.1 (b f / 2)) acc (b f / 2 * 8 + (j : Int)) (K.2.1 (b f / 2 * 8 + (j : Int))) (-K.2.2.1 (b f / 2 * 8 + (j : Int))) (f % 8 + K.2.1 (b f / 2 * 8 + (j : Int))) (f / 8 + -K.2.2.1 (b f / 2 * 8 + (j : Int))) (K.2.2.2 (b f / 2 * 8 + (j : Int))) h) = some r4 := by
          unfold sdY at e1
          by_cases e : b f % 2 = 0
          · rw [if_pos e] at e1 ⊢
            rw [e1, ej]
            exact e3
          · rw [if_neg e] at e1 ⊢
            rw [e1, ej]
            exact e3
        exact ey
      · rw [e4 t ht, e2 t ht]
        constructor
        · rintro ((k1 | ⟨k1, k2⟩) | ⟨k1, i, i1, i2, i3⟩)
          · exact Or.inl k1
          · exact Or.inr ⟨k1, j, Nat.le_refl _, by omega, k2⟩
          · exact Or.inr ⟨k1, i, by omega, i2, i3⟩
        · rintro (k1 | ⟨k1, i, i1, i2, i3⟩)
          · exact Or.inl (Or.inl k1)
          · rcases Nat.lt_or_ge j i with k | k
            · exact Or.inr ⟨k1, i, by omega, i2, i3⟩
            · have e : i = j := by omega
              subst e
              exact Or.inl (Or.inr ⟨k1, i3⟩)
theorem cX0_from {K : KT} {n : Int} {b : Int → Int} {h : HS} (g : gd K n b) (c : cSt K n b h) {f : Int} (hf : 0 ≤ f ∧ f < 64) (hb : 0 ≤ b f) : ∃ r, fX0_reachedFrom f h = some r ∧ ∀ t : Nat, t < 64 → (bi r t = true ↔ hit K b f t = true) := by
  have n0 := g.1
  obtain ⟨v1, v2⟩ := g.2.1 f hf.1 hf.2
  obtain ⟨c1, c2⟩ := g.2.2.1 (b f / 2) (by omega) (by omega)
  obtain ⟨r, e1, e2⟩ := cX0_steps g c hf hb zF 0 (Int64.ofNat 0) (by omega) (by unfold zF; omega)
  refine ⟨r, ?_, fun t ht => ?_⟩
  · unfold fX0_reachedFrom
    rw [wr_of (z := f) (by omega) (by omega), if_neg (by omega), if_pos hf.2, if_pos hf, c.2.1 f hf.1 hf.2, c.1, wr_of (z := b f) (by omega) (by omega), if_neg (by omega), if_pos (by omega), wr_of (z := b f / 2) (by omega) (by omega), wr_of (z := n) (by omega) (by omega), if_pos (by omega), if_pos (by omega), if_pos (by omega), if_pos (by omega), if_pos (by omega), c.2.2.1 (b f / 2) (by omega) (by omega)]
    rw [show b f / 2 * 8 + ((0 : Nat) : Int) = b f / 2 * 8 by omega] at e1
    exact e1
  · rw [e2 t ht, bi_zero]
    unfold hit
    rw [Bool.and_eq_true, decide_eq_true_iff, exB_iff, (sdOf_01 hb).1]
    constructor
    · rintro (k | ⟨k1, i, i1, i2, i3⟩)
      · exact absurd k (by decide)
      · exact ⟨k1, i, i1, by omega, i3⟩
    · rintro ⟨k1, i, i1, i2, i3⟩
      exact Or.inr ⟨k1, i, i1, by omega, i3⟩
theorem ucX0_reaches {K : KT} {n : Int} {b : Int → Int} {h : HS} (g : gd K n b) (c : cSt K n b h) {f t : Int} (hf : 0 ≤ f ∧ f < 64) (hb : 0 ≤ b f) (ht : 0 ≤ t ∧ t < 64) : fX0_reaches f t h = some (if hit K b f t = true then 1 else 0) := by
  obtain ⟨r, e1, e2⟩ := cX0_from g c hf hb
  unfold fX0_reaches
  rw [fX5_isSq (by unfold zr; omega), Option.bind_some, if_pos ht, if_neg (show ¬ wr 1 = 0 by decide), e1, Option.bind_some]
  have e3 := e2 t.toNat (by omega)
  rw [Int.toNat_of_nonneg ht.1] at e3
  by_cases hh : hit K b f t = true
  · rw [if_pos hh, if_neg]
    rw [zbit ht, e3.mpr hh]
    decide
  · rw [if_neg hh, if_pos]
    rw [zbit ht]
    cases hb2 : bi r t.toNat
    · rfl
    · exact absurd (e3.mp hb2) hh
end ZCLS1
end
section
section ZCLS2
/-! the class: check, legal moves, their number, the sign -/
def ckP (K : KT) (b : Int → Int) (sd : Int) (f : Nat) : Bool := decide (sdOf (b f) = 1 - sd) && exB (fun t => decide (b t = sd) && hit K b f t) 64 0
theorem exB_64 {p : Nat → Bool} {j : Nat} (h : j < 64) : exB p (64 - j) j = (p j || exB p (64 - (j + 1)) (j + 1)) := by
  rw [show 64 - j = (64 - (j + 1)) + 1 by omega]
  rfl
theorem smN_64 {p : Nat → Nat} {j : Nat} (h : j < 64) : smN p (64 - j) j = p j + smN p (64 - (j + 1)) (j + 1) := by
  rw [show 64 - j = (64 - (j + 1)) + 1 by omega]
  rfl
theorem exB_end {p : Nat → Bool} {j : Nat} (h : 64 ≤ j) : exB p (64 - j) j = false := by
  rw [show 64 - j = 0 by omega]
  rfl
theorem smN_end {p : Nat → Nat} {j : Nat} (h : 64 ≤ j) : smN p (64 - j) j = 0 := by
  rw [show 64 - j = 0 by omega]
  rfl
theorem cX0_royL {K : KT} {n : Int} {b : Int → Int} {h : HS} (g : gd K n b) (c : cSt K n b h) {sd : Int} (hsd : sd = 0 ∨ sd = 1) : ∀ (nf j : Nat) (acc : Int64), j ≤ 64 → 64 - j < nf → ∃ r, fX0_royalsOf_L5 nf sd acc (j : Int) h = some r ∧ ∀ t : Nat, t < 64 → (bi r t = true ↔ (bi acc t = true ∨ (j ≤ t ∧ b t = sd)))
  | 0, j, acc, h1, h2 => by omega
  | nf + 1, j, acc, h1, h2 => by
    have n0 := g.1
    rw [fX0_royalsOf_L5]
    unfold fX0_royalsOf_b32
    rw [wr_of (z := (j : Int)) (by omega) (by omega)]
    by_cases hj : (64 : Int) ≤ (j : Int)
    · rw [if_pos hj]
      refine ⟨acc, rfl, fun t ht => ⟨Or.inl, fun e => ?_⟩⟩
      rcases e with e | e
      · exact e
      · omega
    · obtain ⟨v1, v2⟩ := g.2.1 (j : Int) (by omega) (by omega)
      have ej : (j : Int) + 1 = ((j + 1 : Nat) : Int) := by omega
      rw [if_neg hj, if_pos (by omega), c.2.1 (j : Int) (by omega) (by omega), wr_of (z := b j) (by omega) (by omega), wr_of (z := 0 + sd) (by omega) (by omega), Int.zero_add, ej]
      by_cases hv : b j = sd
      · rw [if_pos hv]
        obtain ⟨r, e1, e2⟩ := cX0_royL g c hsd nf (j + 1) (acc ||| zshl (Int64.ofNat 1) j) (by omega) (by omega)
        refine ⟨r, e1, fun t ht => ?_⟩
        rw [e2 t ht, bi_or, bi_shl (by omega) ht]
        by_cases hq : t = j
        · subst hq
          simp [hv]
        · have hn : ¬ (t : Int) = (j : Int) := by omega
          rw [decide_eq_false hn, Bool.or_false]
          constructor
          · rintro (k | k)
            · exact Or.inl k
            · exact Or.inr ⟨by omega, k.2⟩
          · rintro (k | k)
            · exact Or.inl k
            · exact Or.inr ⟨by omega, k.2⟩
      · rw [if_neg hv]
        obtain ⟨r, e1, e2⟩ := cX0_royL g c hsd nf (j + 1) acc (by omega) (by omega)
        refine ⟨r, e1, fun t ht => ?_⟩
        rw [e2 t ht]
        constructor
        · rintro (k | k)
          · exact Or.inl k
          · exact Or.inr ⟨by omega, k.2⟩
        · rintro (k | k)
          · exact Or.inl k
          · refine Or.inr ⟨?_, k.2⟩
            have hq : t ≠ j := fun e => hv (by rw [← e]; exact k.2)
            omega
theorem cX0_chk1 {sd x : Int} {r : Int64} {nf : Nat} {h : HS} : fX0_inCheck_L12 (nf + 1) sd r 1 x h = some 1 := by
  rw [fX0_inCheck_L12]
  have e : wr 1 = 1 := by decide
  simp [e]
theorem cX0_chkL {K : KT} {n : Int} {b : Int → Int} {h : HS} (g : gd K n b) (c : cSt K n b h) {sd : Int} (hsd : sd = 0 ∨ sd = 1) {r : Int64} (hr : ∀ t : Nat, t < 64 → (bi r t = true ↔ b t = sd)) : ∀ (nf j : Nat), j ≤ 64 → 64 - j + 1 < nf → fX0_inCheck_L12 nf sd r 0 (j : Int) h = some (if exB (ckP K b sd) (64 - j) j = true then 1 else 0)
  | 0, j, h1, h2 => by omega
  | nf + 1, j, h1, h2 => by
    have n0 := g.1
    rw [fX0_inCheck_L12]
    unfold fX0_inCheck_b74 fX0_inCheck_b72 fX0_inCheck_b74
    rw [wr_of (z := (j : Int)) (by omega) (by omega)]
    by_cases hj : (64 : Int) ≤ (j : Int)
    · rw [if_pos hj, if_pos (Or.inl rfl), exB_end (by omega)]
      rfl
    · rw [if_neg hj]
      by_cases hz : wr (zcmp r (Int64.ofNat 0)) = 0
      · have e0 : exB (ckP K b sd) (64 - j) j = false := by
          cases he : exB (ckP K b sd) (64 - j) j
          · rfl
          · obtain ⟨k, k1, k2, k3⟩ := exB_iff.mp he
            unfold ckP at k3
            rw [Bool.and_eq_true, exB_iff] at k3
            obtain ⟨-, t, t1, t2, t3⟩ := k3
            rw [Bool.and_eq_true, decide_eq_true_iff] at t3
            have z := zbit0.mp hz t (by omega)
            rw [(hr t (by omega)).mpr t3.1] at z
            exact absurd z (by decide)
        rw [if_pos hz, if_pos (Or.inl rfl), e0]
        rfl
      · obtain ⟨v1, v2⟩ := g.2.1 (j : Int) (by omega) (by omega)
        have ej : (j : Int) + 1 = ((j + 1 : Nat) : Int) := by omega
        have ih := cX0_chkL g c hsd hr nf (j + 1) (by omega) (by omega)
        rw [if_neg hz, if_pos wr_0, if_pos (by omega), c.2.1 (j : Int) (by omega) (by omega), wr_of (z := b j) (by omega) (by omega), ej, exB_64 (by omega)]
        by_cases hv : b j = -1
        · have hp : ckP K b sd j = false := by
            unfold ckP
            rw [hv, sdOf_m, decide_eq_false (by omega)]
            rfl
          rw [if_pos hv, hp, Bool.false_or]
          exact ih
        · have hs := sdOf_01 (v := b j) (by omega)
          rw [if_neg hv, if_pos (by omega), if_pos (by omega), wr_of (z := b j % 2) (by omega) (by omega), wr_of (z := sd) (by omega) (by omega)]
          by_cases hm : b j % 2 = sd
          · have hp : ckP K b sd j = false := by
              unfold ckP
              rw [hs.1, decide_eq_false (by omega)]
              rfl
            rw [if_pos hm, hp, Bool.false_or]
            exact ih
          · obtain ⟨r1, e1, e2⟩ := cX0_from g c (f := (j : Int)) (by omega) (by omega)
            rw [if_neg hm, e1, Option.bind_some]
            have hp : ckP K b sd j = exB (fun t => decide (b t = sd) && hit K b j t) 64 0 := by
              unfold ckP
              rw [hs.1, decide_eq_true (by omega), Bool.true_and]
            by_cases hq : wr (zcmp (r1 &&& r) (Int64.ofNat 0)) = 0
            · have hp2 : ckP K b sd j = false := by
                rw [hp]
                cases he : exB (fun t => decide (b t = sd) && hit K b j t) 64 0
                · rfl
                · obtain ⟨t, t1, t2, t3⟩ := exB_iff.mp he
                  rw [Bool.and_eq_true, decide_eq_true_iff] at t3
                  exact absurd ⟨(e2 t (by omega)).mpr t3.2, (hr t (by omega)).mpr t3.1⟩ (zbits.mp hq t (by omega))
              rw [if_pos hq, hp2, Bool.false_or]
              exact ih
            · have hp2 : ckP K b sd j = true := by
                rw [hp, exB_iff]
                refine Classical.byContradiction (fun hn => hq (zbits.mpr (fun t ht e => hn ⟨t, Nat.zero_le _, by omega, ?_⟩)))
                rw [Bool.and_eq_true, decide_eq_true_iff]
                exact ⟨(hr t ht).mp e.2, (e2 t ht).mp e.1⟩
              rw [if_neg hq, hp2, Bool.true_or, if_pos rfl]
              obtain ⟨m, rfl⟩ : ∃ m, nf = m + 1 := ⟨nf - 1, by omega⟩
              exact cX0_chk1
theorem cX0_check {K : KT} {n : Int} {b : Int → Int} {h : HS} (g : gd K n b) (c : cSt K n b h) {sd : Int} (hsd : sd = 0 ∨ sd = 1) : fX0_inCheck sd h = some (if chk K b sd = true then 1 else 0) := by
  obtain ⟨r, e1, e2⟩ := cX0_royL g c hsd zF 0 (Int64.ofNat 0) (by omega) (by unfold zF; omega)
  unfold fX0_inCheck fX0_royalsOf
  rw [show (0 : Int) = ((0 : Nat) : Int) from rfl, e1, Option.bind_some]
  exact cX0_chkL g c hsd (fun t ht => by rw [e2 t ht, bi_zero]; simp) zF 0 (by omega) (by unfold zF; omega)
/-! a move and back -/
def mvC (f t : Int) (h : HS) : HS := hs (hs h 8 t (h 8 f)) 8 f (-1)
theorem mvC_at {f t : Int} {h : HS} {a : Nat} (ha : a ≠ 8) : mvC f t h a = h a := by
  unfold mvC
  rw [hs_ne _ _ _ ha, hs_ne _ _ _ ha]
theorem mvC_8 {f t : Int} {h : HS} : mvC f t h 8 = mv (h 8) f t := by
  funext s
  unfold mvC mv
  rw [hs_at, if_pos rfl]
  by_cases e : s = f
  · rw [if_pos e, if_pos e]
  · rw [if_neg e, if_neg e, hs_at, if_pos rfl]
theorem ucX0_move {f t : Int} {h : HS} (hf : 0 ≤ f ∧ f < 64) (ht : 0 ≤ t ∧ t < 64) : fX0_move f t h = some (h 8 t, mvC f t h) := by
  unfold fX0_move mvC
  rw [fX5_isSq (by unfold zr; omega), fX5_isSq (by unfold zr; omega), Option.bind_some, Option.bind_some, if_pos hf, if_pos ht, if_neg (show ¬ wr 1 = 0 by decide), if_neg (show ¬ wr 1 = 0 by decide)]
  simp only [if_pos hf, if_pos ht]
theorem cX0_back {f t : Int} {h : HS} (hf : 0 ≤ f ∧ f < 64) (ht : 0 ≤ t ∧ t < 64) {v : Int} (hv : v = h 8 t) : fX0_takeBack f t v (mvC f t h) = some h := by
  subst hv
  have e : hs (hs (mvC f t h) 8 f (mvC f t h 8 t)) 8 t (h 8 t) = h := by
    funext a s
    rw [hs_at]
    by_cases ha : a = 8
    · subst ha
      rw [if_pos rfl]
      by_cases e1 : s = t
      · rw [if_pos e1, e1]
      · rw [if_neg e1, hs_at, if_pos rfl, mvC_8]
        unfold mv
        by_cases e2 : s = f
        · rw [if_pos e2, if_neg (fun e => e1 (by rw [e2, e])), if_pos rfl, e2]
        · rw [if_neg e2, if_neg e2, if_neg e1]
    · rw [if_neg ha, hs_at, if_neg ha, mvC_at ha]
  unfold fX0_takeBack
  rw [fX5_isSq (by unfold zr; omega), fX5_isSq (by unfold zr; omega), Option.bind_some, Option.bind_some, if_pos hf, if_pos ht, if_neg (show ¬ wr 1 = 0 by decide), if_neg (show ¬ wr 1 = 0 by decide)]
  simp only [if_pos hf, if_pos ht, e]
theorem cSt_mv {K : KT} {n : Int} {b : Int → Int} {h : HS} (c : cSt K n b h) {f t : Int} (hf : 0 ≤ f ∧ f < 64) : cSt K n (mv b f t) (mvC f t h) := by
  refine ⟨by rw [mvC_at (by decide)]; exact c.1, fun s s0 s1 => ?_, fun i i0 i1 => by rw [mvC_at (by decide)]; exact c.2.2.1 i i0 i1, fun i j i0 i1 j0 j1 => by rw [mvC_at (by decide), mvC_at (by decide), mvC_at (by decide)]; exact c.2.2.2 i j i0 i1 j0 j1⟩
  rw [mvC_8]
  unfold mv
  rw [c.2.1 s s0 s1, c.2.1 f hf.1 hf.2]
theorem cX0_piece {f : Int} {h : HS} (hf : 0 ≤ f ∧ f < 64) : fX0_pieceOn f h = some (h 8 f) := by
  unfold fX0_pieceOn
  rw [fX5_isSq (by unfold zr; omega), Option.bind_some, if_pos hf, if_neg (show ¬ wr 1 = 0 by decide), if_pos hf]
theorem cX0_safe {K : KT} {n : Int} {b : Int → Int} {h : HS} (g : gd K n b) (c : cSt K n b h) {f t : Int} (hf : 0 ≤ f ∧ f < 64) (ht : 0 ≤ t ∧ t < 64) (hb : 0 ≤ b f) : fX0_keepsRoyalsSafe f t h = some (if lgl K b f t = true then 1 else 0, h) := by
  have n0 := g.1
  obtain ⟨v1, v2⟩ := g.2.1 f hf.1 hf.2
  have hs := sdOf_01 hb
  unfold fX0_keepsRoyalsSafe fX0_keepsRoyalsSafe_b29
  rw [cX0_piece hf, c.2.1 f hf.1 hf.2, Option.bind_some, if_pos (by omega), ucX0_move hf ht, Option.bind_some, ← hs.1, cX0_check (gd_mv g hf) (cSt_mv c hf) hs.2, Option.bind_some]
  simp only [cX0_back hf ht rfl, Option.bind_some]
  unfold lgl
  cases chk K (mv b f t) (sdOf (b f))
  · rfl
  · rfl
end ZCLS2
end
section
section ZCLS3
theorem cX0_cntL {K : KT} {n : Int} {b : Int → Int} {h : HS} (g : gd K n b) (c : cSt K n b h) (k5 : Int → Int → Int → Int → HS → Option (Int × HS)) {sd : Int} {f : Nat} (hf : f < 64) (hb : 0 ≤ b f) {r : Int64} (hr : ∀ t : Nat, t < 64 → (bi r t = true ↔ hit K b f t = true)) {lim : Nat} (hlim : lim ≤ 4096) : ∀ (nf j cc : Nat), j ≤ 64 → 64 - j < nf → cc ≤ lim → fX0_countLegalMoves_L56 k5 nf sd (lim : Int) (cc : Int) (f : Int) r (j : Int) h = k5 sd (lim : Int) ((min lim (cc + smN (cnP K b f) (64 - j) j) : Nat) : Int) ((f : Int) + 1) h
  | 0, j, cc, h1, h2, h3 => by omega
  | nf + 1, j, cc, h1, h2, h3 => by
    rw [fX0_countLegalMoves_L56]
    unfold fX0_countLegalMoves_b110 fX0_countLegalMoves_b104
    rw [wr_of (z := (j : Int)) (by omega) (by omega), wr_of (z := (lim : Int)) (by omega) (by omega), wr_of (z := (cc : Int)) (by omega) (by omega)]
    by_cases hj : (64 : Int) ≤ (j : Int)
    · rw [if_pos hj, smN_end (by omega), show min lim (cc + 0) = cc by omega]
    · rw [if_neg hj]
      by_cases hz : wr (zcmp (zushr r j) (Int64.ofNat 0)) = 0
      · have e0 : smN (cnP K b f) (64 - j) j = 0 := smN_0 (fun k k1 k2 => by
          have z := (zbitr (by omega)).mp hz k (by omega) (by omega)
          have hn : ¬ hit K b f k = true := fun e => by rw [(hr k (by omega)).mpr e] at z; exact absurd z (by decide)
          unfold cnP
          rw [if_neg (by rw [Bool.and_eq_true]; exact fun e => hn e.1)])
        rw [if_pos hz, e0, show min lim (cc + 0) = cc by omega]
      · rw [if_neg hz]
        by_cases hl : (lim : Int) ≤ (cc : Int)
        · rw [if_pos hl, show min lim (cc + smN (cnP K b f) (64 - j) j) = cc by omega]
        · have ej : (j : Int) + 1 = ((j + 1 : Nat) : Int) := by omega
          have ec : (cc : Int) + 1 = ((cc + 1 : Nat) : Int) := by omega
          rw [if_neg hl, smN_64 (by omega), ej]
          by_cases hq : wr (zcmp ((zushr r j) &&& (Int64.ofNat 1)) (Int64.ofNat 0)) = 0
          · have z := (zbit (by omega)).mp hq
            have hn : ¬ hit K b f j = true := fun e => by
              rw [show ((j : Int)).toNat = j by omega, (hr j (by omega)).mpr e] at z
              exact absurd z (by decide)
            have e0 : cnP K b f j = 0 := by
              unfold cnP
              rw [if_neg (by rw [Bool.and_eq_true]; exact fun e => hn e.1)]
            rw [if_pos hq, e0, Nat.zero_add]
            exact cX0_cntL g c k5 hf hb hr hlim nf (j + 1) cc (by omega) (by omega) h3
          · have hh : hit K b f j = true := by
              refine (hr j (by omega)).mp ?_
              cases hb2 : bi r j
              · exact absurd ((zbit (x := r) (s := (j : Int)) (by omega)).mpr (by rw [show ((j : Int)).toNat = j by omega]; exact hb2)) hq
              · rfl
            rw [if_neg hq, cX0_safe g c (by omega) (by omega) hb, Option.bind_some]
            by_cases hg : lgl K b f j = true
            · have e0 : cnP K b f j = 1 := by
                unfold cnP
                rw [hh, hg]
                rfl
              simp only [if_pos hg, if_neg (show ¬ wr 1 = 0 by decide)]
              rw [ec, e0, ← Nat.add_assoc]
              exact cX0_cntL g c k5 hf hb hr hlim nf (j + 1) (cc + 1) (by omega) (by omega) (by omega)
            · have e0 : cnP K b f j = 0 := by
                unfold cnP
                rw [if_neg (by rw [Bool.and_eq_true]; exact fun e => hg e.2)]
              simp only [if_neg hg, if_pos wr_0]
              rw [e0, Nat.zero_add]
              exact cX0_cntL g c k5 hf hb hr hlim nf (j + 1) cc (by omega) (by omega) h3
theorem cX0_cnt0 (k5 : Int → Int → Int → Int → HS → Option (Int × HS)) {sd f : Int} {lim cc : Int} {nf : Nat} {h : HS} : fX0_countLegalMoves_L56 k5 (nf + 1) sd lim cc f (Int64.ofNat 0) 0 h = k5 sd lim cc (f + 1) h := by
  rw [fX0_countLegalMoves_L56]
  unfold fX0_countLegalMoves_b110
  rw [if_neg (by decide), if_pos ((zbitr (x := Int64.ofNat 0) (s := 0) (by omega)).mpr (fun t _ _ => bi_zero t))]
theorem cX0_cntO {K : KT} {n : Int} {b : Int → Int} {h : HS} (g : gd K n b) (c : cSt K n b h) {sd : Int} (hsd : sd = 0 ∨ sd = 1) {lim : Nat} (hlim : lim ≤ 4096) : ∀ (nf j cc : Nat), j ≤ 64 → 64 - j < nf → cc ≤ lim → fX0_countLegalMoves_L5 nf sd (lim : Int) (cc : Int) (j : Int) h = some (((min lim (cc + smN (cnF K b sd) (64 - j) j) : Nat) : Int), h)
  | 0, j, cc, h1, h2, h3 => by omega
  | nf + 1, j, cc, h1, h2, h3 => by
    have n0 := g.1
    rw [fX0_countLegalMoves_L5]
    unfold fX0_countLegalMoves_b50 fX0_countLegalMoves_b51
    rw [wr_of (z := (j : Int)) (by omega) (by omega), wr_of (z := (lim : Int)) (by omega) (by omega), wr_of (z := (cc : Int)) (by omega) (by omega)]
    by_cases hj : (64 : Int) ≤ (j : Int)
    · rw [if_pos hj, smN_end (by omega), show min lim (cc + 0) = cc by omega]
    · rw [if_neg hj]
      by_cases hl : (lim : Int) ≤ (cc : Int)
      · rw [if_pos hl, show min lim (cc + smN (cnF K b sd) (64 - j) j) = cc by omega]
      · obtain ⟨v1, v2⟩ := g.2.1 (j : Int) (by omega) (by omega)
        have ej : (j : Int) + 1 = ((j + 1 : Nat) : Int) := by omega
        rw [if_neg hl, if_pos (by omega), c.2.1 (j : Int) (by omega) (by omega), wr_of (z := b j) (by omega) (by omega), smN_64 (by omega)]
        have ih := fun cc2 (hc2 : cc2 ≤ lim) => cX0_cntO g c hsd hlim nf (j + 1) cc2 (by omega) (by omega) hc2
        by_cases hv : b j = -1
        · have e0 : cnF K b sd j = 0 := by
            unfold cnF
            rw [hv, sdOf_m, if_neg (by omega)]
          rw [if_pos hv, e0, Nat.zero_add]
          show fX0_countLegalMoves_L56 _ (4999 + 1) _ _ _ _ _ _ _ = _
          rw [cX0_cnt0]
          show fX0_countLegalMoves_L5 nf _ _ _ _ _ = _
          rw [ej]
          exact ih cc h3
        · have hs := sdOf_01 (v := b j) (by omega)
          rw [if_neg hv, if_pos (by omega), if_pos (by omega), wr_of (z := b j % 2) (by omega) (by omega), wr_of (z := sd) (by omega) (by omega)]
          by_cases hm : b j % 2 = sd
          · obtain ⟨r1, e1, e2⟩ := cX0_from g c (f := (j : Int)) (by omega) (by omega)
            have e0 : cnF K b sd j = smN (cnP K b j) 64 0 := by
              unfold cnF
              rw [hs.1, if_pos hm]
            rw [if_pos hm, e1, Option.bind_some, e0, show (0 : Int) = ((0 : Nat) : Int) from rfl, cX0_cntL g c _ (by omega) (by omega) e2 hlim zF 0 cc (by omega) (by unfold zF; omega) h3]
            show fX0_countLegalMoves_L5 nf _ _ _ _ _ = _
            rw [ej, ih _ (by omega)]
            show some _ = some _
            have em : ∀ x y : Nat, min lim (min lim (cc + x) + y) = min lim (cc + (x + y)) := fun x y => by omega
            rw [show 64 - 0 = 64 from rfl, em]
          · have e0 : cnF K b sd j = 0 := by
              unfold cnF
              rw [hs.1, if_neg hm]
            rw [if_neg hm, e0, Nat.zero_add]
            show fX0_countLegalMoves_L56 _ (4999 + 1) _ _ _ _ _ _ _ = _
            rw [cX0_cnt0]
            show fX0_countLegalMoves_L5 nf _ _ _ _ _ = _
            rw [ej]
            exact ih cc h3
theorem cX0_count {K : KT} {n : Int} {b : Int → Int} {h : HS} (g : gd K n b) (c : cSt K n b h) {sd : Int} (hsd : sd = 0 ∨ sd = 1) {lim : Nat} (hlim : lim ≤ 4096) : fX0_countLegalMoves sd (lim : Int) h = some (((min lim (cnt K b sd) : Nat) : Int), h) := by
  have e := cX0_cntO g c hsd hlim zF 0 0 (by omega) (by unfold zF; omega) (by omega)
  rw [Nat.zero_add] at e
  exact e
theorem cX0_sign {K : KT} {n : Int} {b : Int → Int} {h : HS} (g : gd K n b) (c : cSt K n b h) {f t : Int} (hf : 0 ≤ f ∧ f < 64) (ht : 0 ≤ t ∧ t < 64) (hb : 0 ≤ b f) : fX0_signBehind f t h = some (sgn K b f t, h) := by
  have n0 := g.1
  obtain ⟨v1, v2⟩ := g.2.1 f hf.1 hf.2
  have hs := sdOf_01 hb
  have ho : 1 - sdOf (b f) = 0 ∨ 1 - sdOf (b f) = 1 := by omega
  have ec := cX0_count (gd_mv g (t := t) hf) (cSt_mv c (t := t) hf) ho (lim := 1) (by omega)
  unfold fX0_signBehind fX0_signBehind_b47 fX0_signBehind_b45 fX0_signBehind_b47
  rw [cX0_piece hf, c.2.1 f hf.1 hf.2, Option.bind_some, if_pos (by omega), ucX0_move hf ht, Option.bind_some, ← hs.1, cX0_check (gd_mv g hf) (cSt_mv c hf) ho, Option.bind_some]
  unfold sgn
  by_cases hk : chk K (mv b f t) (1 - sdOf (b f)) = true
  · simp only [if_pos hk, if_neg (show ¬ wr 1 = 0 by decide)]
    rw [show (1 : Int) = ((1 : Nat) : Int) from rfl] at ec ⊢
    rw [ec, Option.bind_some]
    by_cases hc : 0 < cnt K (mv b f t) (1 - sdOf (b f))
    · have e1 : min 1 (cnt K (mv b f t) (1 - sdOf (b f))) = 1 := by omega
      rw [if_neg (by rw [show (((1 : Nat) : Int)) - sdOf (b f) = 1 - sdOf (b f) from rfl, e1]; exact (show ¬ wr ((1 : Nat) : Int) ≤ 0 by decide)), cX0_back hf ht rfl, Option.bind_some]
      exact congrArg some (by rw [show (((1 : Nat) : Int)) - sdOf (b f) = 1 - sdOf (b f) from rfl, if_pos hc])
    · have e1 : min 1 (cnt K (mv b f t) (1 - sdOf (b f))) = 0 := by omega
      rw [if_pos (by rw [show (((1 : Nat) : Int)) - sdOf (b f) = 1 - sdOf (b f) from rfl, e1]; exact (show wr ((0 : Nat) : Int) ≤ 0 by decide)), cX0_back hf ht rfl, Option.bind_some]
      exact congrArg some (by rw [show (((1 : Nat) : Int)) - sdOf (b f) = 1 - sdOf (b f) from rfl, if_neg hc])
  · simp only [if_neg hk, if_pos wr_0]
    rw [cX0_back hf ht rfl, Option.bind_some]
end ZCLS3
end
section
section ZREF
/-! the reference: reach, check -/
theorem mX6_side {v : Int} {h : HS} (hv : -1 ≤ v ∧ v < 100) : fX6_sideOf v h = some (sdOf v) := by
  unfold fX6_sideOf sdOf
  rw [wr_of (by omega) (by omega)]
  by_cases e : v = -1
  · rw [if_pos e, if_pos e]
  · rw [if_neg e, if_neg e, if_pos (by omega)]
theorem sdOf_rg {v : Int} (hv : -1 ≤ v) : -1 ≤ sdOf v ∧ sdOf v ≤ 1 := by
  unfold sdOf
  by_cases e : v = -1
  · rw [if_pos e]; omega
  · rw [if_neg e]; omega
theorem sdY_bd {p y : Int} (hy : -3 ≤ y ∧ y ≤ 3) : -3 ≤ sdY p y ∧ sdY p y ≤ 3 := by
  unfold sdY
  by_cases e : p % 2 = 0
  · rw [if_pos e]; omega
  · rw [if_neg e]; omega
theorem mul_bd {m s : Int} (hm : 0 ≤ m ∧ m ≤ 8) (hs : -3 ≤ s ∧ s ≤ 3) : -24 ≤ m * s ∧ m * s ≤ 24 := by
  rcases (show m = 0 ∨ m = 1 ∨ m = 2 ∨ m = 3 ∨ m = 4 ∨ m = 5 ∨ m = 6 ∨ m = 7 ∨ m = 8 by omega) with e | e | e | e | e | e | e | e | e <;> subst e <;> omega
theorem umX6_reach {a : Nat} {K : KT} {n : Int} {b : Int → Int} {h : HS} (w : mSt a K b h) {p j : Int} (hp : 0 ≤ p ∧ p / 2 < 6) (hj : 0 ≤ j ∧ j < K.1 (p / 2)) (g : gd K n b) : fX6_reach p j h = some (K.2.2.2 (p / 2 * 8 + j)) := by
  obtain ⟨c1, c2⟩ := g.2.2.1 (p / 2) (by omega) (by omega)
  obtain ⟨w1, w2, w3⟩ := w.2.2 (p / 2) j (by omega) (by omega) hj.1 hj.2
  unfold fX6_reach
  rw [if_pos (by omega), if_pos (by omega), w3]
theorem umX6_target {a : Nat} {K : KT} {n : Int} {b : Int → Int} {h : HS} (g : gd K n b) (w : mSt a K b h) {f p j m : Int} (hf : 0 ≤ f ∧ f < 64) (hp : 0 ≤ p ∧ p / 2 < 6) (hj : 0 ≤ j ∧ j < K.1 (p / 2)) (hm : 0 ≤ m ∧ m ≤ 8) : fX6_target f p j m h = some (if 0 ≤ f % 8 + m * K.2.1 (p / 2 * 8 + j) ∧ f % 8 + m * K.2.1 (p / 2 * 8 + j) < 8 ∧ 0 ≤ f / 8 + m * sdY p (K.2.2.1 (p / 2 * 8 + j)) ∧ f / 8 + m * sdY p (K.2.2.1 (p / 2 * 8 + j)) < 8 then (f / 8 + m * sdY p (K.2.2.1 (p / 2 * 8 + j))) * 8 + (f % 8 + m * K.2.1 (p / 2 * 8 + j)) else -1) := by
  obtain ⟨c1, c2⟩ := g.2.2.1 (p / 2) (by omega) (by omega)
  obtain ⟨w1, w2, w3⟩ := w.2.2 (p / 2) j (by omega) (by omega) hj.1 hj.2
  obtain ⟨r1, r2, r3, r4⟩ := g.2.2.2 (p / 2) j (by omega) (by omega) hj.1 hj.2
  have y0 := sdY_bd (p := p) r2
  have bx := mul_bd hm r1
  have by_ := mul_bd hm y0
  unfold fX6_target
  rw [if_pos (by omega), if_pos (by omega), if_pos (by omega), if_pos (by omega), if_pos (by omega), wr_of (z := p % 2) (by omega) (by omega), w1, w2]
  have q1 : 0 ≤ 3 * (8 * (p / 2) + j) + 1 ∧ 3 * (8 * (p / 2) + j) + 1 < 144 := by omega
  simp only [if_pos q1]
  have key : ∀ y : Int, (-24 ≤ m * y ∧ m * y ≤ 24) → fX6_target_b63 (f % 8 + m * K.2.1 (p / 2 * 8 + j)) (f / 8) m y h = some (if 0 ≤ f % 8 + m * K.2.1 (p / 2 * 8 + j) ∧ f % 8 + m * K.2.1 (p / 2 * 8 + j) < 8 ∧ 0 ≤ f / 8 + m * y ∧ f / 8 + m * y < 8 then (f / 8 + m * y) * 8 + (f % 8 + m * K.2.1 (p / 2 * 8 + j)) else -1) := by
    intro y hy
    unfold fX6_target_b63
    rw [pX6_isIn (by unfold zr; omega) (by unfold zr; omega) (by unfold zr; omega), pX6_isIn (by unfold zr; omega) (by unfold zr; omega) (by unfold zr; omega), Option.bind_some, Option.bind_some]
    by_cases k1 : 0 ≤ f % 8 + m * K.2.1 (p / 2 * 8 + j) ∧ f % 8 + m * K.2.1 (p / 2 * 8 + j) ≤ 7
    · rw [if_pos k1, if_neg (show ¬ wr 1 = 0 by decide)]
      by_cases k2 : 0 ≤ f / 8 + m * y ∧ f / 8 + m * y ≤ 7
      · rw [if_pos k2, if_neg (show ¬ wr 1 = 0 by decide), if_pos (by omega), Int.mul_comm 8]
      · rw [if_neg k2, if_pos wr_0, if_neg (by omega)]
    · rw [if_neg k1, if_pos wr_0, if_neg (by omega)]
  unfold sdY at y0 by_ ⊢
  by_cases e : p % 2 = 0
  · simp only [if_pos e] at y0 by_ ⊢
    exact key _ by_
  · simp only [if_neg e] at y0 by_ ⊢
    exact key _ by_
theorem chk_swap {K : KT} {b : Int → Int} {sd : Int} : exB (fun t => decide (b t = sd) && exB (fun f => decide (sdOf (b f) = 1 - sd) && hit K b f t) 64 0) 64 0 = chk K b sd := by
  unfold chk
  rw [Bool.eq_iff_iff, exB_iff, exB_iff]
  constructor
  · rintro ⟨t, t1, t2, t3⟩
    rw [Bool.and_eq_true, exB_iff] at t3
    obtain ⟨t4, f, f1, f2, f3⟩ := t3
    rw [Bool.and_eq_true] at f3
    refine ⟨f, f1, f2, ?_⟩
    rw [Bool.and_eq_true, exB_iff]
    exact ⟨f3.1, t, t1, t2, by rw [Bool.and_eq_true]; exact ⟨t4, f3.2⟩⟩
  · rintro ⟨f, f1, f2, f3⟩
    rw [Bool.and_eq_true, exB_iff] at f3
    obtain ⟨f4, t, t1, t2, t3⟩ := f3
    rw [Bool.and_eq_true] at t3
    refine ⟨t, t1, t2, ?_⟩
    rw [Bool.and_eq_true, exB_iff]
    exact ⟨t3.1, f, f1, f2, by rw [Bool.and_eq_true]; exact ⟨f4, t3.2⟩⟩
end ZREF
end
section
section ZREF1
theorem umX6_stop (k24 : Int → Int → Int → Int → HS → Option Int) {f t p j m : Int} {nf : Nat} {h : HS} {v : Int} (hv : fX6_reach p j h = some v) : fX6_reaches_L44 k24 (nf + 1) f t p j 0 m h = k24 f t p (j + 1) h := by
  rw [fX6_reaches_L44]
  unfold fX6_reaches_b110
  rw [hv, Option.bind_some, if_pos wr_0, ite_self]
theorem mX6_ray {K : KT} {n : Int} {b : Int → Int} {h : HS} (g : gd K n b) (w : mSt 35 K b h) (k24 : Int → Int → Int → Int → HS → Option Int) {f t p : Int} (hf : 0 ≤ f ∧ f < 64) (ht : 0 ≤ t ∧ t < 64) (hp : 0 ≤ p ∧ p / 2 < 6) {j : Nat} (hj : (j : Int) < K.1 (p / 2)) : ∀ (nf m : Nat), 1 ≤ m → m ≤ 8 → 9 - m < nf → fX6_reaches_L44 k24 nf f t p (j : Int) 1 (m : Int) h = if ray b t (K.2.1 (p / 2 * 8 + j)) (sdY p (K.2.2.1 (p / 2 * 8 + j))) (K.2.2.2 (p / 2 * 8 + j) + 1 - m).toNat (f % 8 + m * K.2.1 (p / 2 * 8 + j)) (f / 8 + m * sdY p (K.2.2.1 (p / 2 * 8 + j))) = true then some 1 else k24 f t p ((j : Int) + 1) h
  | 0, m, h1, h2, h3 => by omega
  | nf + 1, m, h1, h2, h3 => by
    obtain ⟨r1, r2, r3, r4⟩ := g.2.2.2 (p / 2) (j : Int) (by omega) (by omega) (by omega) hj
    have y0 := sdY_bd (p := p) r2
    have er := umX6_reach w (p := p) (j := (j : Int)) (by omega) ⟨by omega, hj⟩ g
    have et := umX6_target g w (f := f) (p := p) (j := (j : Int)) (m := (m : Int)) hf hp ⟨by omega, hj⟩ (by omega)
    have bx := mul_bd (m := (m : Int)) (s := K.2.1 (p / 2 * 8 + j)) (by omega) r1
    have by_ := mul_bd (m := (m : Int)) (s := sdY p (K.2.2.1 (p / 2 * 8 + j))) (by omega) y0
    rw [fX6_reaches_L44]
    unfold fX6_reaches_b110 fX6_reaches_b101 fX6_reaches_b102
    rw [er, et, Option.bind_some, Option.bind_some, wr_of (z := K.2.2.2 (p / 2 * 8 + j)) (by omega) (by omega), wr_of (z := (m : Int)) (by omega) (by omega)]
    by_cases hm : K.2.2.2 (p / 2 * 8 + j) < (m : Int)
    · rw [if_pos hm, show (K.2.2.2 (p / 2 * 8 + j) + 1 - (m : Int)).toNat = 0 by omega, if_neg (show ¬ ray b t _ _ 0 _ _ = true by simp [ray])]
    · rw [if_neg hm, if_neg (show ¬ wr 1 = 0 by decide)]
      have en : (K.2.2.2 (p / 2 * 8 + j) + 1 - (m : Int)).toNat = (K.2.2.2 (p / 2 * 8 + j) + 1 - ((m + 1 : Nat) : Int)).toNat + 1 := by omega
      have ih := mX6_ray g w k24 hf ht hp hj nf (m + 1) (by omega) (by omega) (by omega)
      have ex : ∀ s : Int, ((m + 1 : Nat) : Int) * s = m * s + s := fun s => by rw [Int.natCast_add, Int.add_mul, show ((1 : Nat) : Int) * s = s from Int.one_mul s]
      rw [ex, ex, ← Int.add_assoc, ← Int.add_assoc] at ih
      obtain ⟨m2, rfl⟩ : ∃ m2, nf = m2 + 1 := ⟨nf - 1, by omega⟩
      have em : (m : Int) + 1 = ((m + 1 : Nat) : Int) := by omega
      rw [en, em]
      obtain ⟨X, eX⟩ : ∃ X, X = f % 8 + m * K.2.1 (p / 2 * 8 + j) := ⟨_, rfl⟩
      obtain ⟨Y, eY⟩ : ∃ Y, Y = f / 8 + m * sdY p (K.2.2.1 (p / 2 * 8 + j)) := ⟨_, rfl⟩
      rw [← eX, ← eY] at ih ⊢
      have e0 : ray b t (K.2.1 (p / 2 * 8 + j)) (sdY p (K.2.2.1 (p / 2 * 8 + j))) ((K.2.2.2 (p / 2 * 8 + j) + 1 - ((m + 1 : Nat) : Int)).toNat + 1) X Y = if 0 ≤ X ∧ X < 8 ∧ 0 ≤ Y ∧ Y < 8 then (if Y * 8 + X = t then true else if b (Y * 8 + X) = -1 then ray b t (K.2.1 (p / 2 * 8 + j)) (sdY p (K.2.2.1 (p / 2 * 8 + j))) ((K.2.2.2 (p / 2 * 8 + j) + 1 - ((m + 1 : Nat) : Int)).toNat) (X + K.2.1 (p / 2 * 8 + j)) (Y + sdY p (K.2.2.1 (p / 2 * 8 + j))) else false) else false := rfl
      rw [e0]
      by_cases hon : 0 ≤ X ∧ X < 8 ∧ 0 ≤ Y ∧ Y < 8
      · have q0 : 0 ≤ Y * 8 + X ∧ Y * 8 + X < 64 := by omega
        obtain ⟨v1, v2⟩ := g.2.1 _ q0.1 q0.2
        have n0 := g.1
        rw [if_pos hon, if_pos hon, wr_of (z := Y * 8 + X) (by omega) (by omega), wr_of (z := t) (by omega) (by omega)]
        by_cases hq : Y * 8 + X = t
        · rw [if_pos hq, if_pos hq, if_pos rfl]
        · rw [if_neg hq, if_neg hq, if_neg (by omega), if_pos q0, w.1 _ q0.1 q0.2, wr_of (z := b (Y * 8 + X)) (by omega) (by omega)]
          by_cases hv : b (Y * 8 + X) = -1
          · rw [if_pos hv, if_pos hv]
            exact ih
          · rw [if_neg hv, if_neg hv, if_neg (show ¬ false = true by decide)]
            exact umX6_stop k24 er
      · rw [if_neg hon, if_neg hon, wr_of (z := (-1 : Int)) (by omega) (by omega), wr_of (z := t) (by omega) (by omega), if_neg (show ¬ (-1 : Int) = t by omega), if_pos rfl, if_neg (show ¬ false = true by decide)]
        exact umX6_stop k24 er
theorem mX6_steps {K : KT} {n : Int} {b : Int → Int} {h : HS} (g : gd K n b) (w : mSt 35 K b h) {f t : Int} (hf : 0 ≤ f ∧ f < 64) (ht : 0 ≤ t ∧ t < 64) (hb : 0 ≤ b f) : ∀ (nf j : Nat), j ≤ (K.1 (b f / 2)).toNat → (K.1 (b f / 2)).toNat - j < nf → fX6_reaches_L24 nf f t (b f) (j : Int) h = some (if exB (hitS K b f t) ((K.1 (b f / 2)).toNat - j) j = true then 1 else 0)
  | 0, j, h1, h2 => by omega
  | nf + 1, j, h1, h2 => by
    have n0 := g.1
    obtain ⟨v1, v2⟩ := g.2.1 f hf.1 hf.2
    obtain ⟨c1, c2⟩ := g.2.2.1 (b f / 2) (by omega) (by omega)
    rw [fX6_reaches_L24]
    rw [if_pos (by omega), if_pos (by omega), w.2.1 (b f / 2) (by omega) (by omega), wr_of (z := K.1 (b f / 2)) (by omega) (by omega), wr_of (z := (j : Int)) (by omega) (by omega)]
    by_cases hj : K.1 (b f / 2) ≤ (j : Int)
    · rw [if_pos hj, show (K.1 (b f / 2)).toNat - j = 0 by omega]
      rfl
    · have e1 := mX6_ray g w (fun a0 a1 a2 a3 hh => fX6_reaches_L24 nf a0 a1 a2 a3 hh) hf ht (p := b f) (by omega) (j := j) (by omega) zF 1 (by omega) (by omega) (by unfold zF; omega)
      rw [show ((1 : Nat) : Int) = 1 from rfl, Int.one_mul, Int.one_mul, Int.add_sub_cancel] at e1
      rw [if_neg hj, e1]
      have e2 : exB (hitS K b f t) ((K.1 (b f / 2)).toNat - j) j = (hitS K b f t j || exB (hitS K b f t) ((K.1 (b f / 2)).toNat - (j + 1)) (j + 1)) := by
        rw [show (K.1 (b f / 2)).toNat - j = ((K.1 (b f / 2)).toNat - (j + 1)) + 1 by omega]
        rfl
      rw [e2]
      have e3 : hitS K b f t j = ray b t (K.2.1 (b f / 2 * 8 + j)) (sdY (b f) (K.2.2.1 (b f / 2 * 8 + j))) (K.2.2.2 (b f / 2 * 8 + j)).toNat (f % 8 + K.2.1 (b f / 2 * 8 + j)) (f / 8 + sdY (b f) (K.2.2.1 (b f / 2 * 8 + j))) := rfl
      rw [← e3]
      cases hitS K b f t j
      · rw [if_neg (by decide), Bool.false_or]
        have ih := mX6_steps g w hf ht hb nf (j + 1) (by omega) (by omega)
        rw [Int.natCast_add] at ih
        exact ih
      · rfl
theorem umX6_reaches {K : KT} {n : Int} {b : Int → Int} {h : HS} (g : gd K n b) (w : mSt 35 K b h) {f t : Int} (hf : 0 ≤ f ∧ f < 64) (ht : 0 ≤ t ∧ t < 64) (hb : 0 ≤ b f) : fX6_reaches f t h = some (if hit K b f t = true then 1 else 0) := by
  have n0 := g.1
  obtain ⟨v1, v2⟩ := g.2.1 f hf.1 hf.2
  obtain ⟨u1, u2⟩ := g.2.1 t ht.1 ht.2
  have hs := sdOf_01 hb
  have hr := sdOf_rg u1
  obtain ⟨c1, c2⟩ := g.2.2.1 (b f / 2) (by omega) (by omega)
  have e := mX6_steps g w hf ht hb zF 0 (by omega) (by unfold zF; omega)
  unfold fX6_reaches
  rw [if_pos hf, if_pos ht, w.1 f hf.1 hf.2, w.1 t ht.1 ht.2, mX6_side (by omega), mX6_side (by omega), Option.bind_some, Option.bind_some, wr_of (z := sdOf (b t)) (by omega) (by omega), wr_of (z := sdOf (b f)) (by omega) (by omega)]
  unfold hit
  by_cases hq : sdOf (b t) = sdOf (b f)
  · rw [if_pos hq, decide_eq_false (fun e => e hq)]
    rfl
  · rw [if_neg hq, decide_eq_true hq, Bool.true_and]
    exact e
theorem mX6_chkI {K : KT} {n : Int} {b : Int → Int} {h : HS} (g : gd K n b) (w : mSt 35 K b h) (k2 : Int → Int → HS → Option Int) {sd t : Int} (hsd : sd = 0 ∨ sd = 1) (ht : 0 ≤ t ∧ t < 64) : ∀ (nf j : Nat), j ≤ 64 → 64 - j < nf → fX6_isChecked_L21 k2 nf sd t (j : Int) h = if exB (fun f => decide (sdOf (b f) = 1 - sd) && hit K b f t) (64 - j) j = true then some 1 else k2 sd (t + 1) h
  | 0, j, h1, h2 => by omega
  | nf + 1, j, h1, h2 => by
    have n0 := g.1
    rw [fX6_isChecked_L21]
    unfold fX6_isChecked_b60 fX6_isChecked_b54
    rw [wr_of (z := (j : Int)) (by omega) (by omega)]
    by_cases hj : (64 : Int) ≤ (j : Int)
    · rw [if_pos hj, exB_end (by omega), if_neg (by decide)]
    · obtain ⟨v1, v2⟩ := g.2.1 (j : Int) (by omega) (by omega)
      have hr := sdOf_rg v1
      have ih := mX6_chkI g w k2 hsd ht nf (j + 1) (by omega) (by omega)
      have ej : (j : Int) + 1 = ((j + 1 : Nat) : Int) := by omega
      rw [if_neg hj, if_pos (by omega), w.1 (j : Int) (by omega) (by omega), mX6_side (by omega), Option.bind_some, wr_of (z := sdOf (b j)) (by omega) (by omega), wr_of (z := 1 - sd) (by omega) (by omega), exB_64 (by omega), ej]
      by_cases hq : sdOf (b j) = 1 - sd
      · have hb : 0 ≤ b j := by
          rcases (show b j = -1 ∨ 0 ≤ b j by omega) with e | e
          · rw [e, sdOf_m] at hq; omega
          · exact e
        rw [if_pos hq, umX6_reaches g w (by omega) ht hb, Option.bind_some, decide_eq_true hq, Bool.true_and]
        cases hh : hit K b j t
        · rw [if_neg (show ¬ false = true by decide), if_pos wr_0, Bool.false_or]
          exact ih
        · rw [if_pos rfl, if_neg (show ¬ wr 1 = 0 by decide), Bool.true_or, if_pos rfl]
      · rw [if_neg hq, decide_eq_false hq, Bool.false_and, Bool.false_or]
        exact ih
theorem mX6_chkO {K : KT} {n : Int} {b : Int → Int} {h : HS} (g : gd K n b) (w : mSt 35 K b h) {sd : Int} (hsd : sd = 0 ∨ sd = 1) : ∀ (nf j : Nat), j ≤ 64 → 64 - j < nf → fX6_isChecked_L2 nf sd (j : Int) h = some (if exB (fun t => decide (b t = sd) && exB (fun f => decide (sdOf (b f) = 1 - sd) && hit K b f t) 64 0) (64 - j) j = true then 1 else 0)
  | 0, j, h1, h2 => by omega
  | nf + 1, j, h1, h2 => by
    have n0 := g.1
    rw [fX6_isChecked_L2]
    unfold fX6_isChecked_b60
    rw [wr_of (z := (j : Int)) (by omega) (by omega)]
    by_cases hj : (64 : Int) ≤ (j : Int)
    · rw [if_pos hj, exB_end (by omega)]
      rfl
    · obtain ⟨v1, v2⟩ := g.2.1 (j : Int) (by omega) (by omega)
      have ih := mX6_chkO g w hsd nf (j + 1) (by omega) (by omega)
      have ej : (j : Int) + 1 = ((j + 1 : Nat) : Int) := by omega
      have e1 := mX6_chkI g w (fun a0 a1 hh => fX6_isChecked_L2 nf a0 a1 hh) hsd (t := (j : Int)) (by omega) zF 0 (by omega) (by unfold zF; omega)
      rw [if_neg hj, if_pos (by omega), w.1 (j : Int) (by omega) (by omega), wr_of (z := b j) (by omega) (by omega), wr_of (z := sd) (by omega) (by omega), exB_64 (by omega), ej]
      by_cases hq : b j = sd
      · rw [if_pos hq, decide_eq_true hq, Bool.true_and, show (0 : Int) = ((0 : Nat) : Int) from rfl, e1, show 64 - 0 = 64 from rfl]
        cases exB (fun f => decide (sdOf (b f) = 1 - sd) && hit K b f j) 64 0
        · rw [if_neg (by decide), Bool.false_or, ej]
          exact ih
        · rw [if_pos rfl, Bool.true_or, if_pos rfl]
      · rw [if_neg hq, decide_eq_false hq, Bool.false_and, Bool.false_or]
        exact ih
theorem mX6_check {K : KT} {n : Int} {b : Int → Int} {h : HS} (g : gd K n b) (w : mSt 35 K b h) {sd : Int} (hsd : sd = 0 ∨ sd = 1) : fX6_isChecked sd h = some (if chk K b sd = true then 1 else 0) := by
  have e := mX6_chkO g w hsd zF 0 (by omega) (by unfold zF; omega)
  rw [show 64 - 0 = 64 from rfl, chk_swap] at e
  exact e
end ZREF1
end
section
section ZREF2
theorem mX6_stop_t (k24 : Int → Int → Int → Int → HS → Option Int) {f t p j m : Int} {nf : Nat} {h : HS} {v : Int} (hv : fX6_reach p j h = some v) : fX6_reaches_t_L44 k24 (nf + 1) f t p j 0 m h = k24 f t p (j + 1) h := by
  rw [fX6_reaches_t_L44]
  unfold fX6_reaches_t_b110
  rw [hv, Option.bind_some, if_pos wr_0, ite_self]
theorem mX6_ray_t {K : KT} {n : Int} {b : Int → Int} {h : HS} (g : gd K n b) (w : mSt 36 K b h) (k24 : Int → Int → Int → Int → HS → Option Int) {f t p : Int} (hf : 0 ≤ f ∧ f < 64) (ht : 0 ≤ t ∧ t < 64) (hp : 0 ≤ p ∧ p / 2 < 6) {j : Nat} (hj : (j : Int) < K.1 (p / 2)) : ∀ (nf m : Nat), 1 ≤ m → m ≤ 8 → 9 - m < nf → fX6_reaches_t_L44 k24 nf f t p (j : Int) 1 (m : Int) h = if ray b t (K.2.1 (p / 2 * 8 + j)) (sdY p (K.2.2.1 (p / 2 * 8 + j))) (K.2.2.2 (p / 2 * 8 + j) + 1 - m).toNat (f % 8 + m * K.2.1 (p / 2 * 8 + j)) (f / 8 + m * sdY p (K.2.2.1 (p / 2 * 8 + j))) = true then some 1 else k24 f t p ((j : Int) + 1) h
  | 0, m, h1, h2, h3 => by omega
  | nf + 1, m, h1, h2, h3 => by
    obtain ⟨r1, r2, r3, r4⟩ := g.2.2.2 (p / 2) (j : Int) (by omega) (by omega) (by omega) hj
    have y0 := sdY_bd (p := p) r2
    have er := umX6_reach w (p := p) (j := (j : Int)) (by omega) ⟨by omega, hj⟩ g
    have et := umX6_target g w (f := f) (p := p) (j := (j : Int)) (m := (m : Int)) hf hp ⟨by omega, hj⟩ (by omega)
    have bx := mul_bd (m := (m : Int)) (s := K.2.1 (p / 2 * 8 + j)) (by omega) r1
    have by_ := mul_bd (m := (m : Int)) (s := sdY p (K.2.2.1 (p / 2 * 8 + j))) (by omega) y0
    rw [fX6_reaches_t_L44]
    unfold fX6_reaches_t_b110 fX6_reaches_t_b101 fX6_reaches_t_b102
    rw [er, et, Option.bind_some, Option.bind_some, wr_of (z := K.2.2.2 (p / 2 * 8 + j)) (by omega) (by omega), wr_of (z := (m : Int)) (by omega) (by omega)]
    by_cases hm : K.2.2.2 (p / 2 * 8 + j) < (m : Int)
    · rw [if_pos hm, show (K.2.2.2 (p / 2 * 8 + j) + 1 - (m : Int)).toNat = 0 by omega, if_neg (show ¬ ray b t _ _ 0 _ _ = true by simp [ray])]
    · rw [if_neg hm, if_neg (show ¬ wr 1 = 0 by decide)]
      have en : (K.2.2.2 (p / 2 * 8 + j) + 1 - (m : Int)).toNat = (K.2.2.2 (p / 2 * 8 + j) + 1 - ((m + 1 : Nat) : Int)).toNat + 1 := by omega
      have ih := mX6_ray_t g w k24 hf ht hp hj nf (m + 1) (by omega) (by omega) (by omega)
      have ex : ∀ s : Int, ((m + 1 : Nat) : Int) * s = m * s + s := fun s => by rw [Int.natCast_add, Int.add_mul, show ((1 : Nat) : Int) * s = s from Int.one_mul s]
      rw [ex, ex, ← Int.add_assoc, ← Int.add_assoc] at ih
      obtain ⟨m2, rfl⟩ : ∃ m2, nf = m2 + 1 := ⟨nf - 1, by omega⟩
      have em : (m : Int) + 1 = ((m + 1 : Nat) : Int) := by omega
      rw [en, em]
      obtain ⟨X, eX⟩ : ∃ X, X = f % 8 + m * K.2.1 (p / 2 * 8 + j) := ⟨_, rfl⟩
      obtain ⟨Y, eY⟩ : ∃ Y, Y = f / 8 + m * sdY p (K.2.2.1 (p / 2 * 8 + j)) := ⟨_, rfl⟩
      rw [← eX, ← eY] at ih ⊢
      have e0 : ray b t (K.2.1 (p / 2 * 8 + j)) (sdY p (K.2.2.1 (p / 2 * 8 + j))) ((K.2.2.2 (p / 2 * 8 + j) + 1 - ((m + 1 : Nat) : Int)).toNat + 1) X Y = if 0 ≤ X ∧ X < 8 ∧ 0 ≤ Y ∧ Y < 8 then (if Y * 8 + X = t then true else if b (Y * 8 + X) = -1 then ray b t (K.2.1 (p / 2 * 8 + j)) (sdY p (K.2.2.1 (p / 2 * 8 + j))) ((K.2.2.2 (p / 2 * 8 + j) + 1 - ((m + 1 : Nat) : Int)).toNat) (X + K.2.1 (p / 2 * 8 + j)) (Y + sdY p (K.2.2.1 (p / 2 * 8 + j))) else false) else false := rfl
      rw [e0]
      by_cases hon : 0 ≤ X ∧ X < 8 ∧ 0 ≤ Y ∧ Y < 8
      · have q0 : 0 ≤ Y * 8 + X ∧ Y * 8 + X < 64 := by omega
        obtain ⟨v1, v2⟩ := g.2.1 _ q0.1 q0.2
        have n0 := g.1
        rw [if_pos hon, if_pos hon, wr_of (z := Y * 8 + X) (by omega) (by omega), wr_of (z := t) (by omega) (by omega)]
        by_cases hq : Y * 8 + X = t
        · rw [if_pos hq, if_pos hq, if_pos rfl]
        · rw [if_neg hq, if_neg hq, if_neg (by omega), if_pos q0, w.1 _ q0.1 q0.2, wr_of (z := b (Y * 8 + X)) (by omega) (by omega)]
          by_cases hv : b (Y * 8 + X) = -1
          · rw [if_pos hv, if_pos hv]
            exact ih
          · rw [if_neg hv, if_neg hv, if_neg (show ¬ false = true by decide)]
            exact mX6_stop_t k24 er
      · rw [if_neg hon, if_neg hon, wr_of (z := (-1 : Int)) (by omega) (by omega), wr_of (z := t) (by omega) (by omega), if_neg (show ¬ (-1 : Int) = t by omega), if_pos rfl, if_neg (show ¬ false = true by decide)]
        exact mX6_stop_t k24 er
theorem mX6_steps_t {K : KT} {n : Int} {b : Int → Int} {h : HS} (g : gd K n b) (w : mSt 36 K b h) {f t : Int} (hf : 0 ≤ f ∧ f < 64) (ht : 0 ≤ t ∧ t < 64) (hb : 0 ≤ b f) : ∀ (nf j : Nat), j ≤ (K.1 (b f / 2)).toNat → (K.1 (b f / 2)).toNat - j < nf → fX6_reaches_t_L24 nf f t (b f) (j : Int) h = some (if exB (hitS K b f t) ((K.1 (b f / 2)).toNat - j) j = true then 1 else 0)
  | 0, j, h1, h2 => by omega
  | nf + 1, j, h1, h2 => by
    have n0 := g.1
    obtain ⟨v1, v2⟩ := g.2.1 f hf.1 hf.2
    obtain ⟨c1, c2⟩ := g.2.2.1 (b f / 2) (by omega) (by omega)
    rw [fX6_reaches_t_L24]
    rw [if_pos (by omega), if_pos (by omega), w.2.1 (b f / 2) (by omega) (by omega), wr_of (z := K.1 (b f / 2)) (by omega) (by omega), wr_of (z := (j : Int)) (by omega) (by omega)]
    by_cases hj : K.1 (b f / 2) ≤ (j : Int)
    · rw [if_pos hj, show (K.1 (b f / 2)).toNat - j = 0 by omega]
      rfl
    · have e1 := mX6_ray_t g w (fun a0 a1 a2 a3 hh => fX6_reaches_t_L24 nf a0 a1 a2 a3 hh) hf ht (p := b f) (by omega) (j := j) (by omega) zF 1 (by omega) (by omega) (by unfold zF; omega)
      rw [show ((1 : Nat) : Int) = 1 from rfl, Int.one_mul, Int.one_mul, Int.add_sub_cancel] at e1
      rw [if_neg hj, e1]
      have e2 : exB (hitS K b f t) ((K.1 (b f / 2)).toNat - j) j = (hitS K b f t j || exB (hitS K b f t) ((K.1 (b f / 2)).toNat - (j + 1)) (j + 1)) := by
        rw [show (K.1 (b f / 2)).toNat - j = ((K.1 (b f / 2)).toNat - (j + 1)) + 1 by omega]
        rfl
      rw [e2]
      have e3 : hitS K b f t j = ray b t (K.2.1 (b f / 2 * 8 + j)) (sdY (b f) (K.2.2.1 (b f / 2 * 8 + j))) (K.2.2.2 (b f / 2 * 8 + j)).toNat (f % 8 + K.2.1 (b f / 2 * 8 + j)) (f / 8 + sdY (b f) (K.2.2.1 (b f / 2 * 8 + j))) := rfl
      rw [← e3]
      cases hitS K b f t j
      · rw [if_neg (by decide), Bool.false_or]
        have ih := mX6_steps_t g w hf ht hb nf (j + 1) (by omega) (by omega)
        rw [Int.natCast_add] at ih
        exact ih
      · rfl
theorem umX6_reaches_t {K : KT} {n : Int} {b : Int → Int} {h : HS} (g : gd K n b) (w : mSt 36 K b h) {f t : Int} (hf : 0 ≤ f ∧ f < 64) (ht : 0 ≤ t ∧ t < 64) (hb : 0 ≤ b f) : fX6_reaches_t f t h = some (if hit K b f t = true then 1 else 0) := by
  have n0 := g.1
  obtain ⟨v1, v2⟩ := g.2.1 f hf.1 hf.2
  obtain ⟨u1, u2⟩ := g.2.1 t ht.1 ht.2
  have hs := sdOf_01 hb
  have hr := sdOf_rg u1
  obtain ⟨c1, c2⟩ := g.2.2.1 (b f / 2) (by omega) (by omega)
  have e := mX6_steps_t g w hf ht hb zF 0 (by omega) (by unfold zF; omega)
  unfold fX6_reaches_t
  rw [if_pos hf, if_pos ht, w.1 f hf.1 hf.2, w.1 t ht.1 ht.2, mX6_side (by omega), mX6_side (by omega), Option.bind_some, Option.bind_some, wr_of (z := sdOf (b t)) (by omega) (by omega), wr_of (z := sdOf (b f)) (by omega) (by omega)]
  unfold hit
  by_cases hq : sdOf (b t) = sdOf (b f)
  · rw [if_pos hq, decide_eq_false (fun e => e hq)]
    rfl
  · rw [if_neg hq, decide_eq_true hq, Bool.true_and]
    exact e
theorem mX6_chkI_t {K : KT} {n : Int} {b : Int → Int} {h : HS} (g : gd K n b) (w : mSt 36 K b h) (k2 : Int → Int → HS → Option Int) {sd t : Int} (hsd : sd = 0 ∨ sd = 1) (ht : 0 ≤ t ∧ t < 64) : ∀ (nf j : Nat), j ≤ 64 → 64 - j < nf → fX6_isChecked_t_L21 k2 nf sd t (j : Int) h = if exB (fun f => decide (sdOf (b f) = 1 - sd) && hit K b f t) (64 - j) j = true then some 1 else k2 sd (t + 1) h
  | 0, j, h1, h2 => by omega
  | nf + 1, j, h1, h2 => by
    have n0 := g.1
    rw [fX6_isChecked_t_L21]
    unfold fX6_isChecked_t_b60 fX6_isChecked_t_b54
    rw [wr_of (z := (j : Int)) (by omega) (by omega)]
    by_cases hj : (64 : Int) ≤ (j : Int)
    · rw [if_pos hj, exB_end (by omega), if_neg (by decide)]
    · obtain ⟨v1, v2⟩ := g.2.1 (j : Int) (by omega) (by omega)
      have hr := sdOf_rg v1
      have ih := mX6_chkI_t g w k2 hsd ht nf (j + 1) (by omega) (by omega)
      have ej : (j : Int) + 1 = ((j + 1 : Nat) : Int) := by omega
      rw [if_neg hj, if_pos (by omega), w.1 (j : Int) (by omega) (by omega), mX6_side (by omega), Option.bind_some, wr_of (z := sdOf (b j)) (by omega) (by omega), wr_of (z := 1 - sd) (by omega) (by omega), exB_64 (by omega), ej]
      by_cases hq : sdOf (b j) = 1 - sd
      · have hb : 0 ≤ b j := by
          rcases (show b j = -1 ∨ 0 ≤ b j by omega) with e | e
          · rw [e, sdOf_m] at hq; omega
          · exact e
        rw [if_pos hq, umX6_reaches_t g w (by omega) ht hb, Option.bind_some, decide_eq_true hq, Bool.true_and]
        cases hh : hit K b j t
        · rw [if_neg (show ¬ false = true by decide), if_pos wr_0, Bool.false_or]
          exact ih
        · rw [if_pos rfl, if_neg (show ¬ wr 1 = 0 by decide), Bool.true_or, if_pos rfl]
      · rw [if_neg hq, decide_eq_false hq, Bool.false_and, Bool.false_or]
        exact ih
theorem mX6_chkO_t {K : KT} {n : Int} {b : Int → Int} {h : HS} (g : gd K n b) (w : mSt 36 K b h) {sd : Int} (hsd : sd = 0 ∨ sd = 1) : ∀ (nf j : Nat), j ≤ 64 → 64 - j < nf → fX6_isChecked_t_L2 nf sd (j : Int) h = some (if exB (fun t => decide (b t = sd) && exB (fun f => decide (sdOf (b f) = 1 - sd) && hit K b f t) 64 0) (64 - j) j = true then 1 else 0)
  | 0, j, h1, h2 => by omega
  | nf + 1, j, h1, h2 => by
    have n0 := g.1
    rw [fX6_isChecked_t_L2]
    unfold fX6_isChecked_t_b60
    rw [wr_of (z := (j : Int)) (by omega) (by omega)]
    by_cases hj : (64 : Int) ≤ (j : Int)
    · rw [if_pos hj, exB_end (by omega)]
      rfl
    · obtain ⟨v1, v2⟩ := g.2.1 (j : Int) (by omega) (by omega)
      have ih := mX6_chkO_t g w hsd nf (j + 1) (by omega) (by omega)
      have ej : (j : Int) + 1 = ((j + 1 : Nat) : Int) := by omega
      have e1 := mX6_chkI_t g w (fun a0 a1 hh => fX6_isChecked_t_L2 nf a0 a1 hh) hsd (t := (j : Int)) (by omega) zF 0 (by omega) (by unfold zF; omega)
      rw [if_neg hj, if_pos (by omega), w.1 (j : Int) (by omega) (by omega), wr_of (z := b j) (by omega) (by omega), wr_of (z := sd) (by omega) (by omega), exB_64 (by omega), ej]
      by_cases hq : b j = sd
      · rw [if_pos hq, decide_eq_true hq, Bool.true_and, show (0 : Int) = ((0 : Nat) : Int) from rfl, e1, show 64 - 0 = 64 from rfl]
        cases exB (fun f => decide (sdOf (b f) = 1 - sd) && hit K b f j) 64 0
        · rw [if_neg (by decide), Bool.false_or, ej]
          exact ih
        · rw [if_pos rfl, Bool.true_or, if_pos rfl]
      · rw [if_neg hq, decide_eq_false hq, Bool.false_and, Bool.false_or]
        exact ih
theorem mX6_check_t {K : KT} {n : Int} {b : Int → Int} {h : HS} (g : gd K n b) (w : mSt 36 K b h) {sd : Int} (hsd : sd = 0 ∨ sd = 1) : fX6_isChecked_t sd h = some (if chk K b sd = true then 1 else 0) := by
  have e := mX6_chkO_t g w hsd zF 0 (by omega) (by unfold zF; omega)
  rw [show 64 - 0 = 64 from rfl, chk_swap] at e
  exact e
end ZREF2
end
section
section ZREF3
/-! the reference: legal moves, their number, the sign; the trial's board is no matter -/
abbrev fr36 (h1 h : HS) : Prop := ∀ a : Nat, a ≠ 36 → h1 a = h a
theorem mSt_fr {K : KT} {b : Int → Int} {h h1 : HS} (w : mSt 35 K b h) (f : fr36 h1 h) : mSt 35 K b h1 :=
  ⟨fun s s0 s1 => by rw [f 35 (by decide)]; exact w.1 s s0 s1, fun i i0 i1 => by rw [f 32 (by decide)]; exact w.2.1 i i0 i1, fun i j i0 i1 j0 j1 => by rw [f 33 (by decide)]; exact w.2.2 i j i0 i1 j0 j1⟩
theorem fr36_tr {h2 h1 h : HS} (a : fr36 h2 h1) (b : fr36 h1 h) : fr36 h2 h := fun i hi => by rw [a i hi, b i hi]
def trT (f t : Int) (h : HS) : HS := hs (hs (hcp h 35 0 36 0 64) 36 t (hcp h 35 0 36 0 64 36 f)) 36 f (-1)
theorem trT_fr {f t : Int} {h : HS} : fr36 (trT f t h) h := fun a ha => by
  unfold trT
  rw [hs_ne _ _ _ ha, hs_ne _ _ _ ha, hcp_ne _ _ _ _ _ ha]
theorem trT_st {K : KT} {b : Int → Int} {h : HS} (w : mSt 35 K b h) {f t : Int} (hf : 0 ≤ f ∧ f < 64) : mSt 36 K (mv b f t) (trT f t h) := by
  have hc : ∀ s : Int, 0 ≤ s → s < 64 → hcp h 35 0 36 0 64 36 s = b s := fun s s0 s1 => by
    rw [hcp_eq]
    show (if _ then _ else _) = _
    rw [if_pos (by omega), show (0 : Int) + (s - 0) = s by omega]
    exact w.1 s s0 s1
  refine ⟨fun s s0 s1 => ?_, fun i i0 i1 => by rw [trT_fr 32 (by decide)]; exact w.2.1 i i0 i1, fun i j i0 i1 j0 j1 => by rw [trT_fr 33 (by decide)]; exact w.2.2 i j i0 i1 j0 j1⟩
  unfold trT mv
  rw [hs_at, if_pos rfl, hs_at, if_pos rfl, hc f hf.1 hf.2, hc s s0 s1]
theorem mX6_legal {K : KT} {n : Int} {b : Int → Int} {h : HS} (g : gd K n b) (w : mSt 35 K b h) {f t : Int} (hf : 0 ≤ f ∧ f < 64) (ht : 0 ≤ t ∧ t < 64) (hb : 0 ≤ b f) : ∃ h1, fX6_isLegal f t h = some (if lgl K b f t = true then 1 else 0, h1) ∧ fr36 h1 h := by
  have n0 := g.1
  obtain ⟨v1, v2⟩ := g.2.1 f hf.1 hf.2
  have hs := sdOf_01 hb
  refine ⟨trT f t h, ?_, trT_fr⟩
  unfold fX6_isLegal fX6_play_t
  rw [if_pos (by omega), if_pos hf, if_pos ht, if_pos hf, Option.bind_some]
  show (if 0 ≤ f ∧ f < 64 then (fX6_sideOf (trT f t h 35 f) (trT f t h)).bind fun r2 => (fX6_isChecked_t r2 (trT f t h)).bind fun r3 => if wr r3 = 0 then some (1, trT f t h) else some (0, trT f t h) else none) = _
  rw [if_pos hf, trT_fr 35 (by decide), w.1 f hf.1 hf.2, mX6_side (by omega), Option.bind_some, mX6_check_t (gd_mv g hf) (trT_st w hf) hs.2, Option.bind_some]
  unfold lgl
  cases chk K (mv b f t) (sdOf (b f))
  · rfl
  · rfl
theorem mX6_cntL {K : KT} {n : Int} {b : Int → Int} (g : gd K n b) (k5 : Int → Int → Int → Int → HS → Option (Int × HS)) {sd : Int} {f : Nat} (hf : f < 64) (hb : 0 ≤ b f) {lim : Nat} (hlim : lim ≤ 4096) : ∀ (nf j cc : Nat) (h : HS), mSt 35 K b h → j ≤ 64 → 64 - j < nf → cc ≤ lim → ∃ h1, fX6_legalMoves_L32 k5 nf sd (lim : Int) (cc : Int) (f : Int) (j : Int) h = k5 sd (lim : Int) ((min lim (cc + smN (cnP K b f) (64 - j) j) : Nat) : Int) ((f : Int) + 1) h1 ∧ fr36 h1 h
  | 0, j, cc, h, w, h1, h2, h3 => by omega
  | nf + 1, j, cc, h, w, h1, h2, h3 => by
    rw [fX6_legalMoves_L32]
    unfold fX6_legalMoves_b79 fX6_legalMoves_b73
    rw [wr_of (z := (j : Int)) (by omega) (by omega), wr_of (z := (lim : Int)) (by omega) (by omega), wr_of (z := (cc : Int)) (by omega) (by omega)]
    by_cases hj : (64 : Int) ≤ (j : Int)
    · rw [if_pos hj, smN_end (by omega), show min lim (cc + 0) = cc by omega]
      exact ⟨h, rfl, fun _ _ => rfl⟩
    · rw [if_neg hj]
      by_cases hl : (lim : Int) ≤ (cc : Int)
      · rw [if_pos hl, show min lim (cc + smN (cnP K b f) (64 - j) j) = cc by omega]
        exact ⟨h, rfl, fun _ _ => rfl⟩
      · have ej : (j : Int) + 1 = ((j + 1 : Nat) : Int) := by omega
        have ec : (cc : Int) + 1 = ((cc + 1 : Nat) : Int) := by omega
        rw [if_neg hl, smN_64 (by omega), ej, umX6_reaches g w (by omega) (by omega) hb, Option.bind_some]
        by_cases hh : hit K b f j = true
        · obtain ⟨h4, e4, f4⟩ := mX6_legal g w (f := (f : Int)) (t := (j : Int)) (by omega) (by omega) hb
          rw [if_pos hh, if_neg (show ¬ wr 1 = 0 by decide), e4, Option.bind_some]
          by_cases hg : lgl K b f j = true
          · have e0 : cnP K b f j = 1 := by
              unfold cnP
              rw [hh, hg]
              rfl
            obtain ⟨h5, e5, f5⟩ := mX6_cntL g k5 hf hb hlim nf (j + 1) (cc + 1) h4 (mSt_fr w f4) (by omega) (by omega) (by omega)
            simp only [if_pos hg, if_neg (show ¬ wr 1 = 0 by decide)]
            rw [ec, e0, ← Nat.add_assoc]
            exact ⟨h5, e5, fr36_tr f5 f4⟩
          · have e0 : cnP K b f j = 0 := by
              unfold cnP
              rw [if_neg (by rw [Bool.and_eq_true]; exact fun e => hg e.2)]
            obtain ⟨h5, e5, f5⟩ := mX6_cntL g k5 hf hb hlim nf (j + 1) cc h4 (mSt_fr w f4) (by omega) (by omega) (by omega)
            simp only [if_neg hg, if_pos wr_0]
            rw [e0, Nat.zero_add]
            exact ⟨h5, e5, fr36_tr f5 f4⟩
        · have e0 : cnP K b f j = 0 := by
            unfold cnP
            rw [if_neg (by rw [Bool.and_eq_true]; exact fun e => hh e.1)]
          rw [if_neg hh, if_pos wr_0, e0, Nat.zero_add]
          exact mX6_cntL g k5 hf hb hlim nf (j + 1) cc h w (by omega) (by omega) h3
theorem mX6_cntO {K : KT} {n : Int} {b : Int → Int} (g : gd K n b) {sd : Int} (hsd : sd = 0 ∨ sd = 1) {lim : Nat} (hlim : lim ≤ 4096) : ∀ (nf j cc : Nat) (h : HS), mSt 35 K b h → j ≤ 64 → 64 - j < nf → cc ≤ lim → ∃ h1, fX6_legalMoves_L5 nf sd (lim : Int) (cc : Int) (j : Int) h = some (((min lim (cc + smN (cnF K b sd) (64 - j) j) : Nat) : Int), h1) ∧ fr36 h1 h
  | 0, j, cc, h, w, h1, h2, h3 => by omega
  | nf + 1, j, cc, h, w, h1, h2, h3 => by
    have n0 := g.1
    rw [fX6_legalMoves_L5]
    unfold fX6_legalMoves_b79
    rw [wr_of (z := (j : Int)) (by omega) (by omega)]
    by_cases hj : (64 : Int) ≤ (j : Int)
    · rw [if_pos hj, smN_end (by omega), show min lim (cc + 0) = cc by omega]
      exact ⟨h, rfl, fun _ _ => rfl⟩
    · obtain ⟨v1, v2⟩ := g.2.1 (j : Int) (by omega) (by omega)
      have hr := sdOf_rg v1
      have ej : (j : Int) + 1 = ((j + 1 : Nat) : Int) := by omega
      rw [if_neg hj, if_pos (by omega), w.1 (j : Int) (by omega) (by omega), mX6_side (by omega), Option.bind_some, wr_of (z := sdOf (b j)) (by omega) (by omega), wr_of (z := sd) (by omega) (by omega), smN_64 (by omega)]
      by_cases hm : sdOf (b j) = sd
      · have hb : 0 ≤ b j := by
          rcases (show b j = -1 ∨ 0 ≤ b j by omega) with e | e
          · rw [e, sdOf_m] at hm; omega
          · exact e
        have e0 : cnF K b sd j = smN (cnP K b j) 64 0 := by
          unfold cnF
          rw [if_pos hm]
        obtain ⟨h4, e4, f4⟩ := mX6_cntL g (fun a0 a1 a2 a3 hh => fX6_legalMoves_L5 nf a0 a1 a2 a3 hh) (sd := sd) (f := j) (by omega) hb hlim zF 0 cc h w (by omega) (by unfold zF; omega) h3
        obtain ⟨h5, e5, f5⟩ := mX6_cntO g hsd hlim nf (j + 1) (min lim (cc + smN (cnP K b j) 64 0)) h4 (mSt_fr w f4) (by omega) (by omega) (by omega)
        refine ⟨h5, ?_, fr36_tr f5 f4⟩
        rw [if_pos hm, e0, show (0 : Int) = ((0 : Nat) : Int) from rfl, e4]
        show fX6_legalMoves_L5 nf _ _ _ _ _ = _
        rw [ej, show 64 - 0 = 64 from rfl, e5]
        have em : ∀ x y : Nat, min lim (min lim (cc + x) + y) = min lim (cc + (x + y)) := fun x y => by omega
        rw [em]
      · have e0 : cnF K b sd j = 0 := by
          unfold cnF
          rw [if_neg hm]
        rw [if_neg hm, e0, Nat.zero_add, ej]
        exact mX6_cntO g hsd hlim nf (j + 1) cc h w (by omega) (by omega) h3
theorem mX6_count {K : KT} {n : Int} {b : Int → Int} {h : HS} (g : gd K n b) (w : mSt 35 K b h) {sd : Int} (hsd : sd = 0 ∨ sd = 1) {lim : Nat} (hlim : lim ≤ 4096) : ∃ h1, fX6_legalMoves sd (lim : Int) h = some (((min lim (cnt K b sd) : Nat) : Int), h1) ∧ fr36 h1 h := by
  have e := mX6_cntO g hsd hlim zF 0 0 h w (by omega) (by unfold zF; omega) (by omega)
  rw [Nat.zero_add] at e
  exact e
def mvM (f t : Int) (h : HS) : HS := hs (hs h 35 t (h 35 f)) 35 f (-1)
theorem mvM_at {f t : Int} {h : HS} {a : Nat} (ha : a ≠ 35) : mvM f t h a = h a := by
  unfold mvM
  rw [hs_ne _ _ _ ha, hs_ne _ _ _ ha]
theorem mvM_35 {f t : Int} {h : HS} : mvM f t h 35 = mv (h 35) f t := by
  funext s
  unfold mvM mv
  rw [hs_at, if_pos rfl]
  by_cases e : s = f
  · rw [if_pos e, if_pos e]
  · rw [if_neg e, if_neg e, hs_at, if_pos rfl]
theorem umX6_play {f t : Int} {h : HS} (hf : 0 ≤ f ∧ f < 64) (ht : 0 ≤ t ∧ t < 64) : fX6_play f t h = some (mvM f t h) := by
  unfold fX6_play
  rw [if_pos hf, if_pos ht, if_pos hf]
  rfl
theorem mvM_st {K : KT} {b : Int → Int} {h : HS} (w : mSt 35 K b h) {f t : Int} (hf : 0 ≤ f ∧ f < 64) : mSt 35 K (mv b f t) (mvM f t h) := by
  refine ⟨fun s s0 s1 => ?_, fun i i0 i1 => by rw [mvM_at (by decide)]; exact w.2.1 i i0 i1, fun i j i0 i1 j0 j1 => by rw [mvM_at (by decide)]; exact w.2.2 i j i0 i1 j0 j1⟩
  rw [mvM_35]
  unfold mv
  rw [w.1 s s0 s1, w.1 f hf.1 hf.2]
theorem mX6_b61 {f t v : Int} {h h1 : HS} (hf : 0 ≤ f ∧ f < 64) (ht : 0 ≤ t ∧ t < 64) (fr : fr36 h1 (mvM f t h)) : ∃ h2, fX6_sign_b61 f t (h 35 t) v h1 = some (v, h2) ∧ fr36 h2 h := by
  unfold fX6_sign_b61
  rw [if_pos ht, if_pos hf, if_pos ht]
  refine ⟨_, rfl, fun a ha => ?_⟩
  by_cases h35 : a = 35
  · subst h35
    funext s
    rw [hs_at, if_pos rfl]
    by_cases e1 : s = t
    · rw [if_pos e1, e1]
    · rw [if_neg e1, hs_at, if_pos rfl, fr 35 (by decide), mvM_35]
      unfold mv
      by_cases e2 : s = f
      · rw [if_pos e2, if_neg (fun e => e1 (by rw [e2, e])), if_pos rfl, e2]
      · rw [if_neg e2, if_neg e2, if_neg e1]
  · rw [hs_ne _ _ _ h35, hs_ne _ _ _ h35, fr a ha, mvM_at h35]
theorem umX6_sign {K : KT} {n : Int} {b : Int → Int} {h : HS} (g : gd K n b) (w : mSt 35 K b h) {f t : Int} (hf : 0 ≤ f ∧ f < 64) (ht : 0 ≤ t ∧ t < 64) (hb : 0 ≤ b f) : ∃ h1, fX6_sign f t h = some (sgn K b f t, h1) ∧ fr36 h1 h := by
  have n0 := g.1
  obtain ⟨v1, v2⟩ := g.2.1 f hf.1 hf.2
  have hs := sdOf_01 hb
  have ho : 1 - sdOf (b f) = 0 ∨ 1 - sdOf (b f) = 1 := by omega
  obtain ⟨h4, ec, f4⟩ := mX6_count (gd_mv g (t := t) hf) (mvM_st w (t := t) hf) ho (lim := 1) (by omega)
  unfold fX6_sign
  rw [if_pos hf, w.1 f hf.1 hf.2, mX6_side (by omega), Option.bind_some, if_pos ht, umX6_play hf ht, Option.bind_some, mX6_check (gd_mv g hf) (mvM_st w hf) ho, Option.bind_some]
  unfold sgn
  by_cases hk : chk K (mv b f t) (1 - sdOf (b f)) = true
  · simp only [if_pos hk, if_neg (show ¬ wr 1 = 0 by decide)]
    have ec2 : fX6_legalMoves (1 - sdOf (b f)) 1 (mvM f t h) = some (((min 1 (cnt K (mv b f t) (1 - sdOf (b f))) : Nat) : Int), h4) := ec
    rw [ec2, Option.bind_some]
    by_cases hc : 0 < cnt K (mv b f t) (1 - sdOf (b f))
    · have e1 : min 1 (cnt K (mv b f t) (1 - sdOf (b f))) = 1 := by omega
      rw [if_pos hc, if_neg (by rw [e1]; exact (show ¬ wr ((1 : Nat) : Int) ≤ 0 by decide))]
      exact mX6_b61 hf ht f4
    · have e1 : min 1 (cnt K (mv b f t) (1 - sdOf (b f))) = 0 := by omega
      rw [if_neg hc, if_pos (by rw [e1]; exact (show wr ((0 : Nat) : Int) ≤ 0 by decide))]
      exact mX6_b61 hf ht f4
  · simp only [if_neg hk, if_pos wr_0]
    exact mX6_b61 hf ht (fun _ _ => rfl)
end ZREF3
end
section
section ZPSI
/-! positions: the board of a node -/
def bdn (ab fr to b0 : Int → Int) : Nat → Int → Int → Int
  | 0, _ => b0
  | d + 1, p => mv (bdn ab fr to b0 d (ab p)) (fr p) (to p)
def bd (h : HS) (p : Int) : Int → Int := bdn (h 10) (h 11) (h 12) (h 34) (h 14 p).toNat p
abbrev PsP (h : HS) : Prop := ((0 ≤ h 0 8 ∧ h 0 8 < h 9 8) ∧ h 30 9 = h 0 8) ∧ (h 10 0 = -1 ∧ h 11 0 = -1 ∧ h 12 0 = -1 ∧ h 14 0 = 0) ∧ (∀ p : Int, 1 ≤ p → p < h 9 8 → (0 ≤ h 10 p ∧ h 10 p < p) ∧ h 14 p = h 14 (h 10 p) + 1 ∧ (0 ≤ h 11 p ∧ h 11 p < 64) ∧ (0 ≤ h 12 p ∧ h 12 p < 64) ∧ 0 ≤ bd h (h 10 p) (h 11 p) ∧ h 13 p = bd h (h 10 p) (h 12 p)) ∧ (∀ s : Int, 0 ≤ s → s < 64 → h 8 s = bd h (h 0 8) s ∧ h 35 s = bd h (h 0 8) s) ∧ (∀ s : Int, 0 ≤ s → s < 64 → -1 ≤ h 34 s ∧ h 34 s < 2 * h 1 5)
theorem PsP.n {h : HS} (w : PsP h) : (0 ≤ h 0 8 ∧ h 0 8 < h 9 8) ∧ h 30 9 = h 0 8 := w.1
theorem PsP.z {h : HS} (w : PsP h) : h 10 0 = -1 ∧ h 11 0 = -1 ∧ h 12 0 = -1 ∧ h 14 0 = 0 := w.2.1
theorem PsP.t {h : HS} (w : PsP h) : ∀ p : Int, 1 ≤ p → p < h 9 8 → (0 ≤ h 10 p ∧ h 10 p < p) ∧ h 14 p = h 14 (h 10 p) + 1 ∧ (0 ≤ h 11 p ∧ h 11 p < 64) ∧ (0 ≤ h 12 p ∧ h 12 p < 64) ∧ 0 ≤ bd h (h 10 p) (h 11 p) ∧ h 13 p = bd h (h 10 p) (h 12 p) := w.2.2.1
theorem PsP.b {h : HS} (w : PsP h) : ∀ s : Int, 0 ≤ s → s < 64 → h 8 s = bd h (h 0 8) s ∧ h 35 s = bd h (h 0 8) s := w.2.2.2.1
theorem PsP.f {h : HS} (w : PsP h) : ∀ s : Int, 0 ≤ s → s < 64 → -1 ≤ h 34 s ∧ h 34 s < 2 * h 1 5 := w.2.2.2.2
theorem bd_0 {h : HS} (e : h 14 0 = 0) : bd h 0 = h 34 := by
  unfold bd
  rw [e]
  rfl
theorem bd_s {h : HS} {p : Int} (e : h 14 p = h 14 (h 10 p) + 1) (e0 : 0 ≤ h 14 (h 10 p)) : bd h p = mv (bd h (h 10 p)) (h 11 p) (h 12 p) := by
  unfold bd
  rw [show (h 14 p).toNat = (h 14 (h 10 p)).toNat + 1 by omega]
  rfl
theorem bdn_cg {ab fr to b0 ab2 fr2 to2 dp : Int → Int} {N : Int} (hq : ∀ q : Int, 1 ≤ q → q < N → ab2 q = ab q ∧ fr2 q = fr q ∧ to2 q = to q) (hd : ∀ q : Int, 1 ≤ q → q < N → dp q = dp (ab q) + 1 ∧ 0 ≤ ab q ∧ ab q < q) (h0 : dp 0 = 0) : ∀ (d : Nat) (p : Int), 0 ≤ p → p < N → dp p = d → bdn ab2 fr2 to2 b0 d p = bdn ab fr to b0 d p
  | 0, p, p0, p1, e => rfl
  | d + 1, p, p0, p1, e => by
    have hp : 1 ≤ p := by
      rcases (show p = 0 ∨ 1 ≤ p by omega) with k | k
      · subst k; omega
      · exact k
    obtain ⟨a1, a2, a3⟩ := hq p hp p1
    obtain ⟨d1, d2, d3⟩ := hd p hp p1
    show mv (bdn ab2 fr2 to2 b0 d (ab2 p)) (fr2 p) (to2 p) = mv (bdn ab fr to b0 d (ab p)) (fr p) (to p)
    rw [a1, a2, a3, bdn_cg hq hd h0 d (ab p) d2 (by omega) (by omega)]
theorem PsP.dp {h : HS} (w : PsP h) (g : PsR h) : ∀ p : Int, 0 ≤ p → p < h 9 8 → 0 ≤ h 14 p ∧ h 14 p < 200 := fun p p0 p1 => (g.g p p0 p1).2.2.2.1
theorem PsP.bs {h : HS} (w : PsP h) (g : PsR h) {p : Int} (p1 : 1 ≤ p) (p2 : p < h 9 8) : bd h p = mv (bd h (h 10 p)) (h 11 p) (h 12 p) := by
  obtain ⟨a1, a2, -⟩ := w.t p p1 p2
  exact bd_s a2 (w.dp g (h 10 p) a1.1 (by omega)).1
theorem PsP.rg {h : HS} (w : PsP h) (g : PsR h) : ∀ (m : Nat) (p : Int), p ≤ m → 0 ≤ p → p < h 9 8 → ∀ s : Int, 0 ≤ s → s < 64 → -1 ≤ bd h p s ∧ bd h p s < 2 * h 1 5
  | 0, p, e, p0, p1, s, s0, s1 => by
    obtain rfl : p = 0 := by omega
    rw [bd_0 w.z.2.2.2]
    exact w.f s s0 s1
  | m + 1, p, e, p0, p1, s, s0, s1 => by
    rcases (show p = 0 ∨ 1 ≤ p by omega) with k | k
    · subst k
      rw [bd_0 w.z.2.2.2]
      exact w.f s s0 s1
    · obtain ⟨a1, a2, a3, a4, -⟩ := w.t p k p1
      have ih := PsP.rg w g m (h 10 p) (by omega) a1.1 (by omega)
      have i1 := ih s s0 s1
      have i2 := ih (h 11 p) a3.1 a3.2
      rw [w.bs g k p1]
      unfold mv
      by_cases e1 : s = h 11 p
      · rw [if_pos e1]; omega
      · rw [if_neg e1]
        by_cases e2 : s = h 12 p
        · rw [if_pos e2]; exact i2
        · rw [if_neg e2]; exact i1
/-! all that holds between calls -/
abbrev Psi (h : HS) : Prop := PsT h ∧ PsE h ∧ PsB h ∧ PsK h ∧ PsS h ∧ PsR h ∧ PsC h ∧ PsA h ∧ PsP h
theorem Psi.T {h : HS} (w : Psi h) : PsT h := w.1
theorem Psi.E {h : HS} (w : Psi h) : PsE h := w.2.1
theorem Psi.B {h : HS} (w : Psi h) : PsB h := w.2.2.1
theorem Psi.K {h : HS} (w : Psi h) : PsK h := w.2.2.2.1
theorem Psi.S {h : HS} (w : Psi h) : PsS h := w.2.2.2.2.1
theorem Psi.R {h : HS} (w : Psi h) : PsR h := w.2.2.2.2.2.1
theorem Psi.C {h : HS} (w : Psi h) : PsC h := w.2.2.2.2.2.2.1
theorem Psi.A {h : HS} (w : Psi h) : PsA h := w.2.2.2.2.2.2.2.1
theorem Psi.P {h : HS} (w : Psi h) : PsP h := w.2.2.2.2.2.2.2.2
theorem Psi.N {h : HS} (w : Psi h) : PsN0 h := ⟨w.R.n, w.R.n2⟩
theorem PsNew.P {h : HS} (w : PsNew h) : PsP h := by
  obtain ⟨n1, n2, n3, n4⟩ := w.n
  obtain ⟨r1, r2, r3, r4, r5, r6, r7, r8⟩ := w.r
  have k := w.k
  refine ⟨⟨by omega, by omega⟩, ⟨r1, r2, r3, r5⟩, fun p p0 p1 => by omega, fun s s0 s1 => ?_, fun s s0 s1 => ?_⟩
  · obtain ⟨b1, b2, b3⟩ := w.b s s0 s1
    rw [n3, bd_0 r5]
    omega
  · obtain ⟨b1, b2, b3⟩ := w.b s s0 s1
    omega
theorem pPsiNew {h : HS} (w : PsNew h) : Psi h := ⟨w.T, w.E, w.B, w.K, w.S, w.R, w.C, w.A, w.P⟩
/-- cells that a call may leave as it likes -/
abbrev scr (a : Nat) (b : Int) : Prop := (a = 50 ∨ a = 18 ∨ a = 21 ∨ a = 22 ∨ a = 23 ∨ a = 24 ∨ a = 36 ∨ a = 40 ∨ a = 41 ∨ a = 42 ∨ a = 90 ∨ a = 91) ∨ (a = 0 ∧ (b = 9 ∨ b = 10 ∨ b = 11 ∨ b = 12)) ∨ (a = 30 ∧ (b = 0 ∨ 17 ≤ b))
def zsq (o h : HS) : Prop := ∀ (a : Nat) (b : Int), ¬ scr a b → o a b = h a b
theorem zsq.rf {h : HS} : zsq h h := fun _ _ _ => rfl
theorem zsq.tr {h2 h1 h : HS} (a : zsq h2 h1) (b : zsq h1 h) : zsq h2 h := fun i k hi => by rw [a i k hi, b i k hi]
theorem zeqv.sq {o h : HS} (e : zeqv o h) : zsq o h := fun a b hn => e a b (fun k => hn (Or.inl (Or.inl k))) (fun k => hn (Or.inr (Or.inr ⟨k.1, Or.inl k.2⟩)))
theorem zsq.c {o h : HS} (e : zsq o h) {a : Nat} (ha : ¬ (a = 50 ∨ a = 18 ∨ a = 21 ∨ a = 22 ∨ a = 23 ∨ a = 24 ∨ a = 36 ∨ a = 40 ∨ a = 41 ∨ a = 42 ∨ a = 90 ∨ a = 91 ∨ a = 0 ∨ a = 30)) : o a = h a := by
  funext b
  refine e a b (fun k => ha ?_)
  rcases k with k | k | k
  · omega
  · omega
  · omega
theorem zsq.c0 {o h : HS} (e : zsq o h) {b : Int} (hb : ¬ (b = 9 ∨ b = 10 ∨ b = 11 ∨ b = 12)) : o 0 b = h 0 b := e 0 b (fun k => by
  rcases k with k | k | k
  · omega
  · exact hb k.2
  · omega)
theorem zsq.c30 {o h : HS} (e : zsq o h) {b : Int} (hb : ¬ (b = 0 ∨ 17 ≤ b)) : o 30 b = h 30 b := e 30 b (fun k => by
  rcases k with k | k | k
  · omega
  · omega
  · exact hb k.2)
theorem fr36.sq {o h : HS} (e : fr36 o h) : zsq o h := fun a b hn => by rw [e a (fun k => hn (Or.inl (by omega)))]
theorem zsq.upd {o h : HS} (e : zsq o h) {a : Nat} {b v : Int} (hs1 : scr a b) : zsq (hs o a b v) h := fun i k hi => by
  rw [hs_at]
  by_cases e1 : i = a
  · subst e1
    rw [if_pos rfl, if_neg (fun e2 => hi (by rw [e2]; exact hs1))]
    exact e i k hi
  · rw [if_neg e1]
    exact e i k hi
theorem bd_sq {o h : HS} (e : zsq o h) : bd o = bd h := by
  funext p
  unfold bd
  rw [e.c (a := 10) (by decide), e.c (a := 11) (by decide), e.c (a := 12) (by decide), e.c (a := 34) (by decide), e.c (a := 14) (by decide)]
theorem kid_sq {o h : HS} (e : zsq o h) (i : Int) (j : Nat) : kid o i j = kid h i j := kid_cg (fun _ => by rw [e.c (a := 16) (by decide)]) (fun _ => by rw [e.c (a := 17) (by decide)]) i j
theorem PsP.sq {o h : HS} (w : PsP h) (e : zsq o h) : PsP o := by
  unfold PsP at *
  rw [bd_sq e, e.c (a := 10) (by decide), e.c (a := 11) (by decide), e.c (a := 12) (by decide), e.c (a := 34) (by decide), e.c (a := 14) (by decide), e.c (a := 13) (by decide), e.c (a := 9) (by decide), e.c (a := 8) (by decide), e.c (a := 35) (by decide), e.c (a := 1) (by decide), e.c0 (b := 8) (by decide), e.c30 (b := 9) (by decide)]
  exact w
theorem PsA.sq {o h : HS} (w : PsA h) (e : zsq o h) : PsA o := fun p p0 p1 => by
  rw [e.c (a := 9) (by decide)] at p1
  obtain ⟨a1, j, a2, a3⟩ := w p p0 p1
  rw [e.c (a := 10) (by decide), e.c (a := 15) (by decide)]
  exact ⟨a1, j, a2, by rw [kid_sq e]; exact a3⟩
theorem Psi.sq {o h : HS} (w : Psi h) (e : zsq o h) : Psi o :=
  ⟨w.T.cg (by rw [e.c (a := 19) (by decide)]) (e.c30 (by decide)) (fun i => by rw [e.c (a := 39) (by decide)]) (fun i => by rw [e.c (a := 20) (by decide)]),
   w.E.cg (fun b b0 b1 => e.c0 (by omega)) (fun b b0 b1 => e.c30 (by omega)),
   w.B.cg (by rw [e.c (a := 1) (by decide)]) (e.c30 (by decide)) (fun i => by rw [e.c (a := 35) (by decide)]) (fun i => by rw [e.c (a := 8) (by decide)]),
   w.K.cg (by rw [e.c (a := 1) (by decide)]) (e.c30 (by decide)) (fun i => by rw [e.c (a := 31) (by decide)]) (fun i => by rw [e.c (a := 2) (by decide)]),
   w.S.cg (fun i => by rw [e.c (a := 32) (by decide)]) (fun i => by rw [e.c (a := 3) (by decide)]) (fun i => by rw [e.c (a := 33) (by decide)]) (fun i => by rw [e.c (a := 4) (by decide)]) (fun i => by rw [e.c (a := 5) (by decide)]) (fun i => by rw [e.c (a := 6) (by decide)]),
   w.R.cg (by rw [e.c (a := 9) (by decide)]) (e.c30 (by decide)) (fun i => by rw [e.c (a := 37) (by decide)]) (fun i => by rw [e.c (a := 10) (by decide), e.c (a := 11) (by decide), e.c (a := 12) (by decide), e.c (a := 14) (by decide), e.c (a := 15) (by decide)]; exact ⟨rfl, rfl, rfl, rfl, rfl⟩),
   w.C.cg (by rw [e.c (a := 9) (by decide)]) (fun i => by rw [e.c (a := 16) (by decide)]) (fun i => by rw [e.c (a := 17) (by decide)]) (fun i => by rw [e.c (a := 38) (by decide)]) (fun i => by rw [e.c (a := 10) (by decide)]) (fun i => by rw [e.c (a := 15) (by decide)]),
   w.A.sq e, w.P.sq e⟩
end ZPSI
end
section
section ZKEEP
theorem bd_eq {o h : HS} (e10 : o 10 = h 10) (e11 : o 11 = h 11) (e12 : o 12 = h 12) (e14 : o 14 = h 14) (e34 : o 34 = h 34) : bd o = bd h := by
  funext p
  unfold bd
  rw [e10, e11, e12, e14, e34]
theorem PsP.cg {o h : HS} (w : PsP h) (e0 : o 0 8 = h 0 8) (e30 : o 30 9 = h 30 9) (e9 : o 9 = h 9) (e10 : o 10 = h 10) (e11 : o 11 = h 11) (e12 : o 12 = h 12) (e13 : o 13 = h 13) (e14 : o 14 = h 14) (e34 : o 34 = h 34) (e8 : o 8 = h 8) (e35 : o 35 = h 35) (e1 : h 1 5 ≤ o 1 5) : PsP o := by
  have eb := bd_eq e10 e11 e12 e14 e34
  refine ⟨by rw [e0, e30, e9]; exact w.n, by rw [e10, e11, e12, e14]; exact w.z, by rw [eb, e9, e10, e11, e12, e13, e14]; exact w.t, by rw [eb, e0, e8, e35]; exact w.b, fun s s0 s1 => ?_⟩
  have k := w.f s s0 s1
  rw [e34]
  omega
theorem PsA.cg {o h : HS} (w : PsA h) (e9 : o 9 = h 9) (e10 : o 10 = h 10) (e15 : o 15 = h 15) (e16 : o 16 = h 16) (e17 : o 17 = h 17) : PsA o := fun p p0 p1 => by
  rw [e9] at p1
  obtain ⟨a1, j, a2, a3⟩ := w p p0 p1
  rw [e10, e15]
  exact ⟨a1, j, a2, by rw [kid_cg (fun i => by rw [e16]) (fun i => by rw [e17])]; exact a3⟩
theorem nKind_psi {p : Int} {h : HS} (w : Psi h) (h6 : h 1 5 < 6) (hp : 65 ≤ p ∧ p ≤ 90) : Psi (nKind p h) := by
  have ne : ∀ a : Nat, a ≠ 1 → a ≠ 2 → a ≠ 30 → a ≠ 31 → nKind p h a = h a := fun a h1 h2 h3 h4 => by
    unfold nKind
    rw [hs_ne _ _ _ h3, hs_ne _ _ _ h4, hs_ne _ _ _ h1, hs_ne _ _ _ h2]
  have e15 : nKind p h 1 5 = h 1 5 + 1 := by unfold nKind; simp [hs_at]
  have e30 : ∀ b, b ≠ 1 → nKind p h 30 b = h 30 b := fun b hb => by unfold nKind; simp [hs_at, hb]
  have e301 : nKind p h 30 1 = h 1 5 + 1 := by unfold nKind; simp [hs_at]
  have e2 : ∀ i, nKind p h 2 i = if i = h 1 5 then p else h 2 i := fun i => by unfold nKind; simp [hs_at]
  have e31 : ∀ i, nKind p h 31 i = if i = h 1 5 then p else h 31 i := fun i => by unfold nKind; simp [hs_at]
  have n0 := w.B.nk
  refine ⟨w.T.cg (by rw [ne 19 (by decide) (by decide) (by decide) (by decide)]) (e30 _ (by decide)) (fun i => by rw [ne 39 (by decide) (by decide) (by decide) (by decide)]) (fun i => by rw [ne 20 (by decide) (by decide) (by decide) (by decide)]),
   w.E.cg (fun b b0 b1 => by rw [ne 0 (by decide) (by decide) (by decide) (by decide)]) (fun b b0 b1 => e30 _ (by omega)),
   ⟨by omega, by rw [e15, e301], fun s s0 s1 => ?_⟩, ⟨by omega, by rw [e15, e301], fun i i0 i1 => ?_⟩,
   w.S.cg (fun i => by rw [ne 32 (by decide) (by decide) (by decide) (by decide)]) (fun i => by rw [ne 3 (by decide) (by decide) (by decide) (by decide)]) (fun i => by rw [ne 33 (by decide) (by decide) (by decide) (by decide)]) (fun i => by rw [ne 4 (by decide) (by decide) (by decide) (by decide)]) (fun i => by rw [ne 5 (by decide) (by decide) (by decide) (by decide)]) (fun i => by rw [ne 6 (by decide) (by decide) (by decide) (by decide)]),
   w.R.cg (by rw [ne 9 (by decide) (by decide) (by decide) (by decide)]) (e30 _ (by decide)) (fun i => by rw [ne 37 (by decide) (by decide) (by decide) (by decide)]) (fun i => by rw [ne 10 (by decide) (by decide) (by decide) (by decide), ne 11 (by decide) (by decide) (by decide) (by decide), ne 12 (by decide) (by decide) (by decide) (by decide), ne 14 (by decide) (by decide) (by decide) (by decide), ne 15 (by decide) (by decide) (by decide) (by decide)]; exact ⟨rfl, rfl, rfl, rfl, rfl⟩),
   w.C.cg (by rw [ne 9 (by decide) (by decide) (by decide) (by decide)]) (fun i => by rw [ne 16 (by decide) (by decide) (by decide) (by decide)]) (fun i => by rw [ne 17 (by decide) (by decide) (by decide) (by decide)]) (fun i => by rw [ne 38 (by decide) (by decide) (by decide) (by decide)]) (fun i => by rw [ne 10 (by decide) (by decide) (by decide) (by decide)]) (fun i => by rw [ne 15 (by decide) (by decide) (by decide) (by decide)]),
   w.A.cg (ne 9 (by decide) (by decide) (by decide) (by decide)) (ne 10 (by decide) (by decide) (by decide) (by decide)) (ne 15 (by decide) (by decide) (by decide) (by decide)) (ne 16 (by decide) (by decide) (by decide) (by decide)) (ne 17 (by decide) (by decide) (by decide) (by decide)),
   w.P.cg (by rw [ne 0 (by decide) (by decide) (by decide) (by decide)]) (e30 _ (by decide)) (ne 9 (by decide) (by decide) (by decide) (by decide)) (ne 10 (by decide) (by decide) (by decide) (by decide)) (ne 11 (by decide) (by decide) (by decide) (by decide)) (ne 12 (by decide) (by decide) (by decide) (by decide)) (ne 13 (by decide) (by decide) (by decide) (by decide)) (ne 14 (by decide) (by decide) (by decide) (by decide)) (ne 34 (by decide) (by decide) (by decide) (by decide)) (ne 8 (by decide) (by decide) (by decide) (by decide)) (ne 35 (by decide) (by decide) (by decide) (by decide)) (by omega)⟩
  · obtain ⟨k1, k2, k3⟩ := w.B.sq s s0 s1
    rw [ne 35 (by decide) (by decide) (by decide) (by decide), ne 8 (by decide) (by decide) (by decide) (by decide), e15]
    omega
  · rw [e2, e31]
    by_cases hi : i = h 1 5
    · rw [if_pos hi, if_pos hi]; exact ⟨rfl, hp⟩
    · rw [if_neg hi, if_neg hi]; exact w.K.le i i0 (by omega)
theorem qc_0 {p : Int} {h : HS} (hp : zr p) (w : Psi h) : ∃ o, fL_c0 p h = some o ∧ Psi o := by
  obtain ⟨o, e, k | ⟨k1, k2, k3, k4⟩⟩ := pc_0 hp w.K w.N
  · exact ⟨o, e, w.sq k.sq⟩
  · exact ⟨o, e, (nKind_psi w k1 ⟨k2, k3⟩).sq k4.sq⟩
theorem nStep_psi {p x y r : Int} {h : HS} (w : Psi h) (hp : 0 ≤ p ∧ p < h 1 5) (hs1 : sStep x y ∧ 1 ≤ r ∧ r ≤ 7) (h8 : h 3 p < 8) : Psi (nStep6 p x y r (nStep p x y r h)) := by
  obtain ⟨o, eo⟩ : ∃ o, o = nStep6 p x y r (nStep p x y r h) := ⟨_, rfl⟩
  rw [← eo]
  have ne : ∀ a : Nat, ¬ (a = 3 ∨ a = 4 ∨ a = 5 ∨ a = 6 ∨ a = 32 ∨ a = 33) → o a = h a := fun a hn => by
    rw [eo]
    unfold nStep6 nStep
    rw [hs_ne _ _ _ (by omega), hs_ne _ _ _ (by omega), hs_ne _ _ _ (by omega), hs_ne _ _ _ (by omega), hs_ne _ _ _ (by omega), hs_ne _ _ _ (by omega), hs_ne _ _ _ (by omega), hs_ne _ _ _ (by omega)]
  obtain ⟨c1, c2, c3⟩ := w.S.c p hp.1 (by have := w.B.nk; omega)
  have e3 : ∀ i, o 3 i = if i = p then h 3 p + 1 else h 3 i := fun i => by rw [eo]; unfold nStep6 nStep; simp [hs_at]
  have e32 : ∀ i, o 32 i = if i = p then h 32 p + 1 else h 32 i := fun i => by rw [eo]; unfold nStep6 nStep; simp [hs_at]
  have e4 : ∀ i, o 4 i = if i = p * 8 + h 3 p then x else h 4 i := fun i => by rw [eo]; unfold nStep6 nStep; simp [hs_at]
  have e5 : ∀ i, o 5 i = if i = p * 8 + h 3 p then y else h 5 i := fun i => by rw [eo]; unfold nStep6 nStep; simp [hs_at]
  have e6 : ∀ i, o 6 i = if i = p * 8 + h 3 p then r else h 6 i := fun i => by rw [eo]; unfold nStep6 nStep; simp [hs_at]
  have e33 : ∀ i, o 33 i = if i = 3 * (8 * p + h 3 p) + 2 then r else if i = 3 * (8 * p + h 3 p) + 1 then y else if i = 3 * (8 * p + h 3 p) then x else h 33 i := fun i => by rw [eo]; unfold nStep6 nStep; simp [hs_at, c1]
  have n0 := w.B.nk
  refine ⟨w.T.cg (by rw [ne 19 (by decide)]) (by rw [ne 30 (by decide)]) (fun i => by rw [ne 39 (by decide)]) (fun i => by rw [ne 20 (by decide)]),
   w.E.cg (fun b b0 b1 => by rw [ne 0 (by decide)]) (fun b b0 b1 => by rw [ne 30 (by decide)]),
   w.B.cg (by rw [ne 1 (by decide)]) (by rw [ne 30 (by decide)]) (fun i => by rw [ne 35 (by decide)]) (fun i => by rw [ne 8 (by decide)]),
   w.K.cg (by rw [ne 1 (by decide)]) (by rw [ne 30 (by decide)]) (fun i => by rw [ne 31 (by decide)]) (fun i => by rw [ne 2 (by decide)]),
   ⟨fun i i0 i1 => ?_, fun i j i0 i1 j0 j1 => ?_⟩,
   w.R.cg (by rw [ne 9 (by decide)]) (by rw [ne 30 (by decide)]) (fun i => by rw [ne 37 (by decide)]) (fun i => by rw [ne 10 (by decide), ne 11 (by decide), ne 12 (by decide), ne 14 (by decide), ne 15 (by decide)]; exact ⟨rfl, rfl, rfl, rfl, rfl⟩),
   w.C.cg (by rw [ne 9 (by decide)]) (fun i => by rw [ne 16 (by decide)]) (fun i => by rw [ne 17 (by decide)]) (fun i => by rw [ne 38 (by decide)]) (fun i => by rw [ne 10 (by decide)]) (fun i => by rw [ne 15 (by decide)]),
   w.A.cg (ne 9 (by decide)) (ne 10 (by decide)) (ne 15 (by decide)) (ne 16 (by decide)) (ne 17 (by decide)),
   w.P.cg (by rw [ne 0 (by decide)]) (by rw [ne 30 (by decide)]) (ne 9 (by decide)) (ne 10 (by decide)) (ne 11 (by decide)) (ne 12 (by decide)) (ne 13 (by decide)) (ne 14 (by decide)) (ne 34 (by decide)) (ne 8 (by decide)) (ne 35 (by decide)) (by rw [ne 1 (by decide)]; omega)⟩
  · obtain ⟨k1, k2, k3⟩ := w.S.c i i0 i1
    rw [e3, e32]
    by_cases hi : i = p
    · rw [if_pos hi, if_pos hi]; omega
    · rw [if_neg hi, if_neg hi]; omega
  · obtain ⟨k1, k2, k3⟩ := w.S.c i i0 i1
    obtain ⟨⟨s1, s2⟩, ⟨s3, s4⟩, s5⟩ := hs1.1
    rw [e3] at j1
    by_cases hi : i = p ∧ j = h 3 p
    · obtain ⟨rfl, rfl⟩ := hi
      have a0 : o 33 (3 * (8 * i + h 3 i)) = x := by rw [e33, if_neg (by omega), if_neg (by omega), if_pos rfl]
      have a1 : o 33 (3 * (8 * i + h 3 i) + 1) = y := by rw [e33, if_neg (by omega), if_pos rfl]
      have a2 : o 33 (3 * (8 * i + h 3 i) + 2) = r := by rw [e33, if_pos rfl]
      rw [a0, a1, a2, e4, e5, e6, if_pos rfl, if_pos rfl, if_pos rfl]
      exact ⟨rfl, rfl, rfl, ⟨s1, s2⟩, ⟨s3, s4⟩, s5, hs1.2⟩
    · have j2 : j < h 3 i := by
        by_cases hi2 : i = p
        · rw [if_pos hi2] at j1
          have : ¬ j = h 3 p := fun e => hi ⟨hi2, e⟩
          rw [hi2]; omega
        · rw [if_neg hi2] at j1; exact j1
      have d1 : ¬ i * 8 + j = p * 8 + h 3 p := by omega
      have a0 : o 33 (3 * (8 * i + j)) = h 33 (3 * (8 * i + j)) := by rw [e33, if_neg (by omega), if_neg (by omega), if_neg (by omega)]
      have a1 : o 33 (3 * (8 * i + j) + 1) = h 33 (3 * (8 * i + j) + 1) := by rw [e33, if_neg (by omega), if_neg (by omega), if_neg (by omega)]
      have a2 : o 33 (3 * (8 * i + j) + 2) = h 33 (3 * (8 * i + j) + 2) := by rw [e33, if_neg (by omega), if_neg (by omega), if_neg (by omega)]
      rw [a0, a1, a2, e4, e5, e6, if_neg d1, if_neg d1, if_neg d1]
      exact w.S.s i j i0 i1 j0 j2
theorem qc_1 {p x y r : Int} {h : HS} (hp : zr p) (hx : zr x) (hy : zr y) (hr : zr r) (w : Psi h) : ∃ o, fL_c1 p x y r h = some o ∧ Psi o := by
  obtain ⟨o, e, k | ⟨k1, k2, k3, k4⟩⟩ := pc_1 hp hx hy hr w.B.nk w.B.nk2 w.S w.N
  · exact ⟨o, e, w.sq k.sq⟩
  · exact ⟨o, e, (nStep_psi w k1 k2 k3).sq k4.sq⟩
theorem nPut_psi {p v : Int} {h : HS} (w : Psi h) (hp : 0 ≤ p ∧ p < 64) (hv : -1 ≤ v ∧ v < 2 * h 1 5) (h1 : h 9 8 ≤ 1) : Psi (nPut p v h) := by
  obtain ⟨o, eo⟩ : ∃ o, o = nPut p v h := ⟨_, rfl⟩
  rw [← eo]
  have ne : ∀ a : Nat, ¬ (a = 8 ∨ a = 34 ∨ a = 35) → o a = h a := fun a hn => by
    rw [eo]
    unfold nPut
    rw [hs_ne _ _ _ (by omega), hs_ne _ _ _ (by omega), hs_ne _ _ _ (by omega)]
  have e8 : ∀ i, o 8 i = if i = p then v else h 8 i := fun i => by rw [eo]; unfold nPut; simp [hs_at]
  have e34 : ∀ i, o 34 i = if i = p then v else h 34 i := fun i => by rw [eo]; unfold nPut; simp [hs_at]
  have e35 : ∀ i, o 35 i = if i = p then v else h 35 i := fun i => by rw [eo]; unfold nPut; simp [hs_at]
  have n0 := w.P.n
  have z0 := w.P.z
  have n1 := w.R.n
  refine ⟨w.T.cg (by rw [ne 19 (by decide)]) (by rw [ne 30 (by decide)]) (fun i => by rw [ne 39 (by decide)]) (fun i => by rw [ne 20 (by decide)]),
   w.E.cg (fun b b0 b1 => by rw [ne 0 (by decide)]) (fun b b0 b1 => by rw [ne 30 (by decide)]),
   ⟨by rw [ne 1 (by decide)]; exact w.B.nk, by rw [ne 1 (by decide), ne 30 (by decide)]; exact w.B.nk2, fun s s0 s1 => ?_⟩,
   w.K.cg (by rw [ne 1 (by decide)]) (by rw [ne 30 (by decide)]) (fun i => by rw [ne 31 (by decide)]) (fun i => by rw [ne 2 (by decide)]),
   w.S.cg (fun i => by rw [ne 32 (by decide)]) (fun i => by rw [ne 3 (by decide)]) (fun i => by rw [ne 33 (by decide)]) (fun i => by rw [ne 4 (by decide)]) (fun i => by rw [ne 5 (by decide)]) (fun i => by rw [ne 6 (by decide)]),
   w.R.cg (by rw [ne 9 (by decide)]) (by rw [ne 30 (by decide)]) (fun i => by rw [ne 37 (by decide)]) (fun i => by rw [ne 10 (by decide), ne 11 (by decide), ne 12 (by decide), ne 14 (by decide), ne 15 (by decide)]; exact ⟨rfl, rfl, rfl, rfl, rfl⟩),
   w.C.cg (by rw [ne 9 (by decide)]) (fun i => by rw [ne 16 (by decide)]) (fun i => by rw [ne 17 (by decide)]) (fun i => by rw [ne 38 (by decide)]) (fun i => by rw [ne 10 (by decide)]) (fun i => by rw [ne 15 (by decide)]),
   w.A.cg (ne 9 (by decide)) (ne 10 (by decide)) (ne 15 (by decide)) (ne 16 (by decide)) (ne 17 (by decide)),
   ⟨by rw [ne 0 (by decide), ne 30 (by decide), ne 9 (by decide)]; exact n0, by rw [ne 10 (by decide), ne 11 (by decide), ne 12 (by decide), ne 14 (by decide)]; exact z0, fun q q0 q1 => by rw [ne 9 (by decide)] at q1; omega, fun s s0 s1 => ?_, fun s s0 s1 => ?_⟩⟩
  · obtain ⟨k1, k2, k3⟩ := w.B.sq s s0 s1
    rw [e35, e8, ne 1 (by decide)]
    by_cases hs1 : s = p
    · rw [if_pos hs1, if_pos hs1]; exact ⟨rfl, hv⟩
    · rw [if_neg hs1, if_neg hs1]; exact ⟨k1, k2, k3⟩
  · obtain ⟨k1, k2⟩ := w.P.b s s0 s1
    have ep : h 0 8 = 0 := by omega
    rw [ep, bd_0 z0.2.2.2] at k1 k2
    rw [ne 0 (by decide), ep, bd_0 (by rw [ne 14 (by decide)]; exact z0.2.2.2), e8, e35, e34, k1, k2]
    exact ⟨rfl, rfl⟩
  · have k := w.P.f s s0 s1
    rw [e34, ne 1 (by decide)]
    by_cases hs1 : s = p
    · rw [if_pos hs1]; exact hv
    · rw [if_neg hs1]; exact k
theorem qc_2 {p x y : Int} {h : HS} (hp : zr p) (hx : zr x) (hy : zr y) (w : Psi h) : ∃ o, fL_c2 p x y h = some o ∧ Psi o := by
  have n0 := w.P.n
  have n1 := w.R.n
  obtain ⟨o, e, k | ⟨k1, k2, k3, k4, k5⟩⟩ := pc_2 hp hx hy w.B w.N (fun h1 s s0 s1 => by
    have ep : h 0 8 = 0 := by omega
    obtain ⟨b1, b2⟩ := w.P.b s s0 s1
    rw [ep, bd_0 w.P.z.2.2.2] at b1
    exact b1.symm)
  · exact ⟨o, e, w.sq k.sq⟩
  · refine ⟨o, e, (nPut_psi w k1 ?_ k4).sq k5.sq⟩
    have nk := w.B.nk
    unfold pVal
    by_cases hx1 : x = -1
    · rw [if_pos hx1]; omega
    · rw [if_neg hx1]; omega
theorem qc_3 {p : Int} {h : HS} (hp : zr p) (w : Psi h) : ∃ o, fL_c3 p h = some o ∧ Psi o := by
  obtain ⟨o, e, k⟩ := pc_3 hp w.B
  exact ⟨o, e, w.sq k.sq⟩
/-- another tape alone -/
theorem Psi.tape {o h : HS} (w : Psi h) (t : PsT o) (ne : ∀ a : Nat, ¬ (a = 19 ∨ a = 20 ∨ a = 39 ∨ a = 30) → o a = h a) (e30 : ∀ b : Int, b ≠ 13 → o 30 b = h 30 b) : Psi o :=
  ⟨t, w.E.cg (fun b b0 b1 => by rw [ne 0 (by decide)]) (fun b b0 b1 => e30 _ (by omega)),
   w.B.cg (by rw [ne 1 (by decide)]) (e30 _ (by decide)) (fun i => by rw [ne 35 (by decide)]) (fun i => by rw [ne 8 (by decide)]),
   w.K.cg (by rw [ne 1 (by decide)]) (e30 _ (by decide)) (fun i => by rw [ne 31 (by decide)]) (fun i => by rw [ne 2 (by decide)]),
   w.S.cg (fun i => by rw [ne 32 (by decide)]) (fun i => by rw [ne 3 (by decide)]) (fun i => by rw [ne 33 (by decide)]) (fun i => by rw [ne 4 (by decide)]) (fun i => by rw [ne 5 (by decide)]) (fun i => by rw [ne 6 (by decide)]),
   w.R.cg (by rw [ne 9 (by decide)]) (e30 _ (by decide)) (fun i => by rw [ne 37 (by decide)]) (fun i => by rw [ne 10 (by decide), ne 11 (by decide), ne 12 (by decide), ne 14 (by decide), ne 15 (by decide)]; exact ⟨rfl, rfl, rfl, rfl, rfl⟩),
   w.C.cg (by rw [ne 9 (by decide)]) (fun i => by rw [ne 16 (by decide)]) (fun i => by rw [ne 17 (by decide)]) (fun i => by rw [ne 38 (by decide)]) (fun i => by rw [ne 10 (by decide)]) (fun i => by rw [ne 15 (by decide)]),
   w.A.cg (ne 9 (by decide)) (ne 10 (by decide)) (ne 15 (by decide)) (ne 16 (by decide)) (ne 17 (by decide)),
   w.P.cg (by rw [ne 0 (by decide)]) (e30 _ (by decide)) (ne 9 (by decide)) (ne 10 (by decide)) (ne 11 (by decide)) (ne 12 (by decide)) (ne 13 (by decide)) (ne 14 (by decide)) (ne 34 (by decide)) (ne 8 (by decide)) (ne 35 (by decide)) (by rw [ne 1 (by decide)]; omega)⟩
theorem qc_7 {p q r t : Int} {h : HS} (hp : zr p) (hq : zr q) (hr : zr r) (ht : zr t) (w : Psi h) : ∃ o, fL_c7 p q r t h = some o ∧ Psi o := by
  obtain ⟨o, e, k | ⟨k1, k2⟩⟩ := pc_7 hp hq hr ht w.T
  · exact ⟨o, e, w.sq k.sq⟩
  · refine ⟨o, e, ?_⟩
    have sq : zsq o (fun a => if a = 19 ∨ a = 20 ∨ a = 39 then o a else if a = 30 then (fun b => if b = 13 then o 30 13 else h 30 b) else h a) := fun a b hn => by
      show o a b = (if a = 19 ∨ a = 20 ∨ a = 39 then o a else if a = 30 then (fun b => if b = 13 then o 30 13 else h 30 b) else h a) b
      by_cases h1 : a = 19 ∨ a = 20 ∨ a = 39
      · rw [if_pos h1]
      · rw [if_neg h1]
        by_cases h2 : a = 30
        · subst h2
          rw [if_pos rfl]
          by_cases h3 : b = 13
          · subst h3
            rw [if_pos rfl]
          · show o 30 b = if b = 13 then o 30 13 else h 30 b
            rw [if_neg h3]
            exact k2 30 b (by decide) (by decide) (by decide) (by decide) (by decide) (by rintro ⟨-, e | e⟩ <;> omega)
        · rw [if_neg h2]
          exact k2 a b (by omega) (by omega) (by omega) (by omega) (by omega) (by omega)
    refine Psi.sq ?_ sq
    refine w.tape (k1.cg rfl rfl (fun _ => rfl) (fun _ => rfl)) (fun a hn => ?_) (fun b hb => ?_)
    · show (if _ then _ else _) = _
      rw [if_neg (by omega), if_neg (by omega)]
    · show (if b = 13 then _ else _) = _
      rw [if_neg hb]
theorem qc_8 {h : HS} (w : Psi h) : ∃ o, fL_c8 h = some o ∧ Psi o := by
  obtain ⟨o, e, k⟩ := pc_8 w.T
  refine ⟨o, e, Psi.sq ?_ k.sq⟩
  refine w.tape ⟨?_, ?_, ?_⟩ (fun a hn => ?_) (fun b hb => ?_)
  · simp [hs_at]
  · simp [hs_at]
  · intro i i0 i1
    simp [hs_at] at i1
    omega
  · rw [hs_ne _ _ _ (by omega), hs_ne _ _ _ (by omega), hs_ne _ _ _ (by omega)]
  · simp [hs_at, hb]
theorem qc_10 {p : Int} {h : HS} (hp : zr p) (w : Psi h) : ∃ o, fL_c10 p h = some o ∧ Psi o := by
  obtain ⟨o, e, k⟩ := pc_10 hp w.E
  exact ⟨o, e, w.sq k.sq⟩
theorem qc_12 {p : Int} {h : HS} (hp : zr p) (w : Psi h) : ∃ o, fL_c12 p h = some o ∧ Psi o := by
  obtain ⟨o, e, k⟩ := pc_12 hp w.T
  exact ⟨o, e, w.sq k.sq⟩
theorem qc_13 {p x : Int} {h : HS} (hp : zr p) (hx : zr x) (w : Psi h) : ∃ o, fL_c13 p x h = some o ∧ Psi o := by
  obtain ⟨o, e, k⟩ := pc_13 hp hx w.R
  exact ⟨o, e, w.sq k.sq⟩
theorem qc_14 {p x : Int} {h : HS} (hp : zr p) (hx : zr x) (w : Psi h) : ∃ o, fL_c14 p x h = some o ∧ Psi o := by
  obtain ⟨o, e, k⟩ := pc_14 hp hx w.R w.C
  exact ⟨o, e, w.sq k.sq⟩
end ZKEEP
end
section
section ZPSIC
/-! what holds of the class's cells alone (the first board, cell 34, stands beside them) -/
abbrev PcT (h : HS) : Prop := (0 ≤ h 19 1 ∧ h 19 1 ≤ 2000) ∧ (∀ i : Int, 0 ≤ i → i < h 19 1 → 0 ≤ h 20 i ∧ h 20 i ≤ 255)
abbrev PcK (h : HS) : Prop := (0 ≤ h 1 5 ∧ h 1 5 ≤ 6) ∧ (∀ i : Int, 0 ≤ i → i < h 1 5 → 65 ≤ h 2 i ∧ h 2 i ≤ 90)
abbrev PcS (h : HS) : Prop := (∀ i : Int, 0 ≤ i → i < 6 → 0 ≤ h 3 i ∧ h 3 i ≤ 8) ∧ (∀ i j : Int, 0 ≤ i → i < 6 → 0 ≤ j → j < h 3 i → (-3 ≤ h 4 (i * 8 + j) ∧ h 4 (i * 8 + j) ≤ 3) ∧ (-3 ≤ h 5 (i * 8 + j) ∧ h 5 (i * 8 + j) ≤ 3) ∧ 1 ≤ h 6 (i * 8 + j) ∧ h 6 (i * 8 + j) ≤ 7)
abbrev PcR (h : HS) : Prop := (1 ≤ h 9 8 ∧ h 9 8 ≤ 200) ∧ (∀ i : Int, 0 ≤ i → i < h 9 8 → (-1 ≤ h 10 i ∧ h 10 i < 200) ∧ (-1 ≤ h 11 i ∧ h 11 i < 64) ∧ (-1 ≤ h 12 i ∧ h 12 i < 64) ∧ (0 ≤ h 14 i ∧ h 14 i < 200) ∧ (0 ≤ h 15 i ∧ h 15 i < 200))
theorem PcR.n {h : HS} (w : PcR h) : 1 ≤ h 9 8 ∧ h 9 8 ≤ 200 := w.1
theorem PcR.g {h : HS} (w : PcR h) : ∀ i : Int, 0 ≤ i → i < h 9 8 → (-1 ≤ h 10 i ∧ h 10 i < 200) ∧ (-1 ≤ h 11 i ∧ h 11 i < 64) ∧ (-1 ≤ h 12 i ∧ h 12 i < 64) ∧ (0 ≤ h 14 i ∧ h 14 i < 200) ∧ (0 ≤ h 15 i ∧ h 15 i < 200) := w.2
abbrev PcC (h : HS) : Prop := (∀ i : Int, 0 ≤ i → i < h 9 8 → ∀ j : Nat, (j : Int) < h 15 i → (0 < kid h i j ∧ kid h i j < h 9 8) ∧ h 10 (kid h i j) = i) ∧ (∀ i : Int, 0 ≤ i → i < h 9 8 → ∀ j j2 : Nat, (j : Int) < h 15 i → (j2 : Int) < h 15 i → kid h i j = kid h i j2 → j = j2)
theorem PcC.c {h : HS} (w : PcC h) : ∀ i : Int, 0 ≤ i → i < h 9 8 → ∀ j : Nat, (j : Int) < h 15 i → (0 < kid h i j ∧ kid h i j < h 9 8) ∧ h 10 (kid h i j) = i := w.1
theorem PcC.d {h : HS} (w : PcC h) : ∀ i : Int, 0 ≤ i → i < h 9 8 → ∀ j j2 : Nat, (j : Int) < h 15 i → (j2 : Int) < h 15 i → kid h i j = kid h i j2 → j = j2 := w.2
abbrev PcP (h : HS) : Prop := (0 ≤ h 0 8 ∧ h 0 8 < h 9 8) ∧ (h 10 0 = -1 ∧ h 11 0 = -1 ∧ h 12 0 = -1 ∧ h 14 0 = 0) ∧ (∀ p : Int, 1 ≤ p → p < h 9 8 → (0 ≤ h 10 p ∧ h 10 p < p) ∧ h 14 p = h 14 (h 10 p) + 1 ∧ (0 ≤ h 11 p ∧ h 11 p < 64) ∧ (0 ≤ h 12 p ∧ h 12 p < 64) ∧ 0 ≤ bd h (h 10 p) (h 11 p) ∧ h 13 p = bd h (h 10 p) (h 12 p)) ∧ (∀ s : Int, 0 ≤ s → s < 64 → h 8 s = bd h (h 0 8) s) ∧ (∀ s : Int, 0 ≤ s → s < 64 → -1 ≤ h 34 s ∧ h 34 s < 2 * h 1 5)
theorem PcP.n {h : HS} (w : PcP h) : 0 ≤ h 0 8 ∧ h 0 8 < h 9 8 := w.1
theorem PcP.z {h : HS} (w : PcP h) : h 10 0 = -1 ∧ h 11 0 = -1 ∧ h 12 0 = -1 ∧ h 14 0 = 0 := w.2.1
theorem PcP.t {h : HS} (w : PcP h) : ∀ p : Int, 1 ≤ p → p < h 9 8 → (0 ≤ h 10 p ∧ h 10 p < p) ∧ h 14 p = h 14 (h 10 p) + 1 ∧ (0 ≤ h 11 p ∧ h 11 p < 64) ∧ (0 ≤ h 12 p ∧ h 12 p < 64) ∧ 0 ≤ bd h (h 10 p) (h 11 p) ∧ h 13 p = bd h (h 10 p) (h 12 p) := w.2.2.1
theorem PcP.b {h : HS} (w : PcP h) : ∀ s : Int, 0 ≤ s → s < 64 → h 8 s = bd h (h 0 8) s := w.2.2.2.1
theorem PcP.f {h : HS} (w : PcP h) : ∀ s : Int, 0 ≤ s → s < 64 → -1 ≤ h 34 s ∧ h 34 s < 2 * h 1 5 := w.2.2.2.2
theorem PcP.dp {h : HS} (w : PcP h) (g : PcR h) : ∀ p : Int, 0 ≤ p → p < h 9 8 → 0 ≤ h 14 p ∧ h 14 p < 200 := fun p p0 p1 => (g.g p p0 p1).2.2.2.1
theorem PcP.bs {h : HS} (w : PcP h) (g : PcR h) {p : Int} (p1 : 1 ≤ p) (p2 : p < h 9 8) : bd h p = mv (bd h (h 10 p)) (h 11 p) (h 12 p) := by
  obtain ⟨a1, a2, -⟩ := w.t p p1 p2
  exact bd_s a2 (w.dp g (h 10 p) a1.1 (by omega)).1
theorem PcP.rg {h : HS} (w : PcP h) (g : PcR h) : ∀ (m : Nat) (p : Int), p ≤ m → 0 ≤ p → p < h 9 8 → ∀ s : Int, 0 ≤ s → s < 64 → -1 ≤ bd h p s ∧ bd h p s < 2 * h 1 5
  | 0, p, e, p0, p1, s, s0, s1 => by
    obtain rfl : p = 0 := by omega
    rw [bd_0 w.z.2.2.2]
    exact w.f s s0 s1
  | m + 1, p, e, p0, p1, s, s0, s1 => by
    rcases (show p = 0 ∨ 1 ≤ p by omega) with k | k
    · subst k
      rw [bd_0 w.z.2.2.2]
      exact w.f s s0 s1
    · obtain ⟨a1, a2, a3, a4, -⟩ := w.t p k p1
      have ih := PcP.rg w g m (h 10 p) (by omega) a1.1 (by omega)
      have i1 := ih s s0 s1
      have i2 := ih (h 11 p) a3.1 a3.2
      rw [w.bs g k p1]
      unfold mv
      by_cases e1 : s = h 11 p
      · rw [if_pos e1]; omega
      · rw [if_neg e1]
        by_cases e2 : s = h 12 p
        · rw [if_pos e2]; exact i2
        · rw [if_neg e2]; exact i1
abbrev PsiC (h : HS) : Prop := PcT h ∧ PcK h ∧ PcS h ∧ PcR h ∧ PcC h ∧ PsA h ∧ PcP h
theorem PsiC.T {h : HS} (w : PsiC h) : PcT h := w.1
theorem PsiC.K {h : HS} (w : PsiC h) : PcK h := w.2.1
theorem PsiC.S {h : HS} (w : PsiC h) : PcS h := w.2.2.1
theorem PsiC.R {h : HS} (w : PsiC h) : PcR h := w.2.2.2.1
theorem PsiC.C {h : HS} (w : PsiC h) : PcC h := w.2.2.2.2.1
theorem PsiC.A {h : HS} (w : PsiC h) : PsA h := w.2.2.2.2.2.1
theorem PsiC.P {h : HS} (w : PsiC h) : PcP h := w.2.2.2.2.2.2
theorem Psi.cc {h : HS} (w : Psi h) : PsiC h :=
  ⟨⟨w.T.n, fun i i0 i1 => (w.T.by_ i i0 i1).2⟩, ⟨w.K.n, fun i i0 i1 => (w.K.le i i0 i1).2⟩, ⟨fun i i0 i1 => (w.S.c i i0 i1).2, fun i j i0 i1 j0 j1 => by
    obtain ⟨a1, a2, a3, a4, a5, a6, a7⟩ := w.S.s i j i0 i1 j0 j1
    exact ⟨a4, a5, a7⟩⟩, ⟨w.R.n, w.R.g⟩, ⟨fun i i0 i1 j hj => by
    obtain ⟨a1, a2, a3⟩ := w.C.c i i0 i1 j hj
    exact ⟨a1, a3⟩, w.C.d⟩, w.A, ⟨w.P.n.1, w.P.z, w.P.t, fun s s0 s1 => (w.P.b s s0 s1).1, w.P.f⟩⟩
/-- the same for the class, but for what a call may leave -/
def zqc (o h : HS) : Prop := ∀ (a : Nat) (b : Int), (a < 30 ∨ a = 34) → ¬ scr a b → o a b = h a b
theorem zqc.rf {h : HS} : zqc h h := fun _ _ _ _ => rfl
theorem zqc.tr {h2 h1 h : HS} (a : zqc h2 h1) (b : zqc h1 h) : zqc h2 h := fun i k hi hn => by rw [a i k hi hn, b i k hi hn]
theorem zsq.qc {o h : HS} (e : zsq o h) : zqc o h := fun a b _ hn => e a b hn
theorem zqc.c {o h : HS} (e : zqc o h) {a : Nat} (ha : (a < 30 ∨ a = 34) ∧ ¬ (a = 18 ∨ a = 21 ∨ a = 22 ∨ a = 23 ∨ a = 24 ∨ a = 0)) : o a = h a := by
  funext b
  refine e a b ha.1 (fun k => ha.2 ?_)
  rcases k with k | k | k
  · omega
  · omega
  · omega
theorem zqc.c0 {o h : HS} (e : zqc o h) {b : Int} (hb : ¬ (b = 9 ∨ b = 10 ∨ b = 11 ∨ b = 12)) : o 0 b = h 0 b := e 0 b (Or.inl (by decide)) (fun k => by
  rcases k with k | k | k
  · omega
  · exact hb k.2
  · omega)
theorem bd_qc {o h : HS} (e : zqc o h) : bd o = bd h := bd_eq (e.c (by decide)) (e.c (by decide)) (e.c (by decide)) (e.c (by decide)) (e.c (by decide))
theorem PsiC.sq {o h : HS} (w : PsiC h) (e : zqc o h) : PsiC o := by
  have ek : ∀ i j, kid o i j = kid h i j := fun i j => kid_cg (fun i => by rw [e.c (a := 16) (by decide)]) (fun i => by rw [e.c (a := 17) (by decide)]) i j
  refine ⟨?_, ?_, ?_, ?_, ?_, ?_, ?_⟩
  · unfold PcT
    rw [e.c (a := 19) (by decide), e.c (a := 20) (by decide)]
    exact w.T
  · unfold PcK
    rw [e.c (a := 1) (by decide), e.c (a := 2) (by decide)]
    exact w.K
  · unfold PcS
    rw [e.c (a := 3) (by decide), e.c (a := 4) (by decide), e.c (a := 5) (by decide), e.c (a := 6) (by decide)]
    exact w.S
  · unfold PcR
    rw [e.c (a := 9) (by decide), e.c (a := 10) (by decide), e.c (a := 11) (by decide), e.c (a := 12) (by decide), e.c (a := 14) (by decide), e.c (a := 15) (by decide)]
    exact w.R
  · unfold PcC
    simp only [ek]
    rw [e.c (a := 9) (by decide), e.c (a := 10) (by decide), e.c (a := 15) (by decide)]
    exact w.C
  · exact w.A.cg (e.c (by decide)) (e.c (by decide)) (e.c (by decide)) (e.c (by decide)) (e.c (by decide))
  · unfold PcP
    rw [bd_qc e, e.c (a := 10) (by decide), e.c (a := 11) (by decide), e.c (a := 12) (by decide), e.c (a := 34) (by decide), e.c (a := 14) (by decide), e.c (a := 13) (by decide), e.c (a := 9) (by decide), e.c (a := 8) (by decide), e.c (a := 1) (by decide), e.c0 (b := 8) (by decide)]
    exact w.P
/-- the same for the reference, but for what a call may leave -/
def zqm (o h : HS) : Prop := ∀ (a : Nat) (b : Int), 30 ≤ a → ¬ scr a b → o a b = h a b
theorem zqm.rf {h : HS} : zqm h h := fun _ _ _ _ => rfl
theorem zqm.tr {h2 h1 h : HS} (a : zqm h2 h1) (b : zqm h1 h) : zqm h2 h := fun i k hi hn => by rw [a i k hi hn, b i k hi hn]
theorem zsq.qm {o h : HS} (e : zsq o h) : zqm o h := fun a b _ hn => e a b hn
theorem zqm.c {o h : HS} (e : zqm o h) {a : Nat} (ha : 30 < a ∧ ¬ (a = 50 ∨ a = 36 ∨ a = 40 ∨ a = 41 ∨ a = 42 ∨ a = 90 ∨ a = 91)) : o a = h a := by
  funext b
  refine e a b (by omega) (fun k => ha.2 ?_)
  rcases k with k | k | k
  · omega
  · omega
  · omega
theorem zqm.c30 {o h : HS} (e : zqm o h) {b : Int} (hb : ¬ (b = 0 ∨ 17 ≤ b)) : o 30 b = h 30 b := e 30 b (Nat.le_refl _) (fun k => by
  rcases k with k | k | k
  · omega
  · omega
  · exact hb k.2)
end ZPSIC
end
section
section ZTOLD
/-! the present position: turn, why, what state tells -/
def kOf (h : HS) : KT := (h 3, h 4, h 5, h 6)
theorem PsiC.gg {h : HS} (w : PsiC h) : gd (kOf h) (h 1 5) (h 8) := ⟨w.K.1, fun s s0 s1 => by
  rw [w.P.b s s0 s1]
  exact w.P.rg w.R (h 0 8).toNat (h 0 8) (by have := w.P.n; omega) w.P.n.1 w.P.n.2 s s0 s1, w.S.1, w.S.2⟩
theorem Psi.gg {h : HS} (w : Psi h) : gd (kOf h) (h 1 5) (h 8) := w.cc.gg
theorem Psi.cs {h : HS} : cSt (kOf h) (h 1 5) (h 8) h := ⟨rfl, fun _ _ _ => rfl, fun _ _ _ => rfl, fun _ _ _ _ _ _ => ⟨rfl, rfl, rfl⟩⟩
theorem Psi.ms {h h6 : HS} (w : Psi h) (e : zqm h6 h) : mSt 35 (kOf h) (h 8) h6 := ⟨fun s s0 s1 => by rw [e.c (a := 35) (by decide)]; exact (w.B.sq s s0 s1).1, fun i i0 i1 => by rw [e.c (a := 32) (by decide)]; exact (w.S.c i i0 i1).1, fun i j i0 i1 j0 j1 => by
  obtain ⟨a1, a2, a3, -⟩ := w.S.s i j i0 i1 j0 j1
  rw [e.c (a := 33) (by decide)]
  exact ⟨a1, a2, a3⟩⟩
def trn (h : HS) : Int := h 14 (h 0 8) % 2
theorem trn_01 {h : HS} : trn h = 0 ∨ trn h = 1 := by unfold trn; omega
theorem pX4_depth {p : Int} {h : HS} (hR : PcR h) (h1 : 0 ≤ p ∧ p < h 9 8) : fX4_depth p h = some (h 14 p) := by
  have n := hR.n
  unfold fX4_depth
  exact pX4_row (by unfold zr; omega) n h1
theorem pX5_turn {h : HS} (w : PsiC h) : fX5_turn h = some (trn h) := by
  have n := w.P.n
  have d := w.P.dp w.R (h 0 8) n.1 n.2
  unfold fX5_turn
  rw [pX4_depth w.R n, Option.bind_some, if_pos (by omega)]
  rfl
theorem pX6_turn {h h6 : HS} (w : Psi h) (e : zqm h6 h) : fX6_turn h6 = some (trn h) := by
  have n := w.P.n
  have d := w.P.dp w.R (h 0 8) n.1.1 n.1.2
  have n1 := w.R.n
  unfold fX6_turn fX6_get
  rw [e.c30 (b := 9) (by decide), n.2, if_pos (by omega), e.c (a := 37) (by decide), Option.bind_some, (w.R.f (h 0 8) n.1.1 n.1.2).2.2.2.1, if_pos (by omega)]
  rfl
def whyV (h : HS) (f t : Int) : Int := if sdOf (h 8 f) = trn h then (if hit (kOf h) (h 8) f t = true then (if lgl (kOf h) (h 8) f t = true then 0 else 3) else 2) else 1
theorem whyV_rg {h : HS} {f t : Int} : 0 ≤ whyV h f t ∧ whyV h f t ≤ 3 := by
  unfold whyV
  split
  · split
    · split <;> omega
    · omega
  · omega
theorem pX5_why {h : HS} (w : Psi h) {f t : Int} (hf : 0 ≤ f ∧ f < 64) (ht : 0 ≤ t ∧ t < 64) : fX5_reasonAgainst f t h = some (whyV h f t, h) := by
  obtain ⟨v1, v2⟩ := w.gg.2.1 f hf.1 hf.2
  have n0 := w.gg.1
  have t0 := trn_01 (h := h)
  unfold fX5_reasonAgainst fX0_isOf fX0_isTaken whyV
  rw [pX5_turn w.cc, cX0_piece hf, Option.bind_some, Option.bind_some, Option.bind_some, wr_of (z := h 8 f) (by omega) (by omega)]
  by_cases hv : h 8 f = -1
  · rw [if_pos hv, Option.bind_some, if_pos wr_0, Option.bind_some, if_pos wr_0, hv, sdOf_m, if_neg (by omega)]
  · have hs := sdOf_01 (v := h 8 f) (by omega)
    rw [if_neg hv, Option.bind_some, if_neg (show ¬ wr 1 = 0 by decide), if_pos (by omega), wr_of (z := h 8 f % 2) (by omega) (by omega), wr_of (z := trn h) (by omega) (by omega), hs.1]
    by_cases hm : h 8 f % 2 = trn h
    · rw [if_pos hm, if_pos hm, Option.bind_some, if_neg (show ¬ wr 1 = 0 by decide), ucX0_reaches w.gg Psi.cs hf (by omega) ht, Option.bind_some]
      by_cases hh : hit (kOf h) (h 8) f t = true
      · rw [if_pos hh, if_pos hh, if_neg (show ¬ wr 1 = 0 by decide), cX0_safe w.gg Psi.cs hf ht (by omega), Option.bind_some]
        by_cases hg : lgl (kOf h) (h 8) f t = true
        · simp only [if_pos hg, if_neg (show ¬ wr 1 = 0 by decide)]
        · simp only [if_neg hg, if_pos wr_0]
      · rw [if_neg hh, if_neg hh, if_pos wr_0]
    · rw [if_neg hm, if_neg hm, Option.bind_some, if_pos wr_0]
theorem pX6_why {h h6 : HS} (w : Psi h) (e : zqm h6 h) {f t : Int} (hf : 0 ≤ f ∧ f < 64) (ht : 0 ≤ t ∧ t < 64) : ∃ h7, fX6_why f t h6 = some (whyV h f t, h7) ∧ fr36 h7 h6 := by
  obtain ⟨v1, v2⟩ := w.gg.2.1 f hf.1 hf.2
  have n0 := w.gg.1
  have t0 := trn_01 (h := h)
  have m := w.ms e
  have hr := sdOf_rg v1
  unfold fX6_why whyV
  rw [if_pos hf, m.1 f hf.1 hf.2, mX6_side (by omega), pX6_turn w e, Option.bind_some, Option.bind_some, wr_of (z := sdOf (h 8 f)) (by omega) (by omega), wr_of (z := trn h) (by omega) (by omega)]
  by_cases hm : sdOf (h 8 f) = trn h
  · have hb : 0 ≤ h 8 f := by
      rcases (show h 8 f = -1 ∨ 0 ≤ h 8 f by omega) with k | k
      · rw [k, sdOf_m] at hm; omega
      · exact k
    rw [if_pos hm, if_pos hm, umX6_reaches w.gg m hf ht hb, Option.bind_some]
    by_cases hh : hit (kOf h) (h 8) f t = true
    · obtain ⟨h7, e7, f7⟩ := mX6_legal w.gg m hf ht hb
      rw [if_pos hh, if_pos hh, if_neg (show ¬ wr 1 = 0 by decide), e7, Option.bind_some]
      refine ⟨h7, ?_, f7⟩
      by_cases hg : lgl (kOf h) (h 8) f t = true
      · simp only [if_pos hg, if_neg (show ¬ wr 1 = 0 by decide)]
      · simp only [if_neg hg, if_pos wr_0]
    · rw [if_neg hh, if_neg hh, if_pos wr_0]
      exact ⟨h6, rfl, fun _ _ => rfl⟩
  · rw [if_neg hm, if_neg hm]
    exact ⟨h6, rfl, fun _ _ => rfl⟩
theorem zsq.h50 {o h : HS} (e : zsq o h) (k v : Int) : zsq (hs o 50 k v) h := e.upd (Or.inl (Or.inl rfl))
theorem zsq.h30 {o h : HS} (e : zsq o h) (v : Int) : zsq (hs o 30 0 v) h := e.upd (Or.inr (Or.inr ⟨rfl, Or.inl rfl⟩))
theorem pX5_reason {h : HS} (w : Psi h) {f t : Int} (hf : zr f) (ht : zr t) : fX5_reason f t h = if (0 ≤ f ∧ f < 64) ∧ 0 ≤ t ∧ t < 64 then some (0, whyV h f t, h) else some (1, 0, h) := by
  unfold fX5_reason fX5_reason_b14
  rw [fX5_isSq hf, fX5_isSq ht, Option.bind_some, Option.bind_some]
  by_cases h1 : 0 ≤ f ∧ f < 64
  · rw [if_pos h1, if_neg (show ¬ wr 1 = 0 by decide)]
    by_cases h2 : 0 ≤ t ∧ t < 64
    · rw [if_pos h2, if_neg (show ¬ wr 1 = 0 by decide), pX5_why w h1 h2, Option.bind_some, if_pos ⟨h1, h2⟩]
    · rw [if_neg h2, if_pos wr_0, if_neg (fun e => h2 e.2)]
  · rw [if_neg h1, if_pos wr_0, if_neg (fun e => h1 e.1)]
theorem pX6_reason {h h6 : HS} (w : Psi h) (e : zsq h6 h) {f t : Int} (hf : zr f) (ht : zr t) : ∃ h7, fX6_reason f t h6 = (if (0 ≤ f ∧ f < 64) ∧ 0 ≤ t ∧ t < 64 then some (whyV h f t, h7) else some (0, hs h7 30 0 1)) ∧ fr36 h7 (hs h6 30 0 0) := by
  unfold fX6_reason fX6_reason_b28 fX6_fail
  rw [fX6_isSq hf, fX6_isSq ht]
  simp only [Option.bind_some]
  by_cases h1 : 0 ≤ f ∧ f < 64
  · rw [if_pos h1, if_neg (show ¬ wr 1 = 0 by decide)]
    by_cases h2 : 0 ≤ t ∧ t < 64
    · obtain ⟨h7, e7, f7⟩ := pX6_why w (e.h30 0).qm h1 h2
      refine ⟨h7, ?_, f7⟩
      rw [if_pos h2, if_neg (show ¬ wr 1 = 0 by decide), e7, Option.bind_some, if_pos ⟨h1, h2⟩]
    · refine ⟨hs h6 30 0 0, ?_, fun _ _ => rfl⟩
      rw [if_neg h2, if_pos wr_0, if_neg (fun e => h2 e.2)]
  · refine ⟨hs h6 30 0 0, ?_, fun _ _ => rfl⟩
    rw [if_neg h1, if_pos wr_0, if_neg (fun e => h1 e.1)]
theorem qc_5 {f t : Int} {h : HS} (hf : zr f) (ht : zr t) (w : Psi h) : ∃ o, fL_c5 f t h = some o ∧ Psi o := by
  have eg : fL_c5 f t h = gC (fL_reason f t h) (fX6_reason f t) := rfl
  have r0 := whyV_rg (h := h) (f := f) (t := t)
  rw [eg]
  unfold fL_reason
  rw [pX5_reason w hf ht]
  by_cases h1 : (0 ≤ f ∧ f < 64) ∧ 0 ≤ t ∧ t < 64
  · obtain ⟨h7, e7, f7⟩ := pX6_reason w (zsq.rf.h50 0 (wr (whyV h f t))) hf ht
    rw [if_pos h1] at e7 ⊢
    rw [Option.bind_some, if_pos rfl]
    exact ⟨h7, gC_ok e7 (by show zr (whyV h f t); unfold zr; omega) rfl (by rw [f7 30 (by decide)]; simp [hs_at]) (by rw [f7 50 (by decide)]; simp [hs_at]), w.sq (f7.sq.tr ((zsq.rf.h50 _ _).h30 _))⟩
  · obtain ⟨h7, e7, f7⟩ := pX6_reason w zsq.rf hf ht
    rw [if_neg h1] at e7 ⊢
    rw [Option.bind_some, if_neg (show ¬ (1 : Int) = 0 by decide), if_pos rfl]
    exact ⟨_, gC_thr e7 ⟨by unfold zr; omega, by decide⟩ (by simp [hs_at]), w.sq ((f7.sq.tr (zsq.rf.h30 _)).h30 _)⟩
def stV (h : HS) (p : Int) : Int := if p = 0 then trn h else if p = 1 then (if chk (kOf h) (h 8) (trn h) = true then 1 else 0) else if p = 2 then ((min 4096 (cnt (kOf h) (h 8) (trn h)) : Nat) : Int) else if p = 3 then h 0 8 else if p = 4 then h 9 8 else if p = 5 then h 1 5 else h 19 1
theorem stV_rg {h : HS} (w : Psi h) (p : Int) : zr (stV h p) := by
  have t0 := trn_01 (h := h)
  have n0 := w.P.n
  have n1 := w.R.n
  have n2 := w.B.nk
  have n3 := w.T.n
  unfold stV zr
  split
  · omega
  · split
    · split <;> omega
    · split
      · omega
      · split
        · omega
        · split
          · omega
          · split <;> omega
theorem pX5_state_x {h : HS} (w : Psi h) {p : Int} (hp : 0 ≤ p ∧ p ≤ 6) : fX5_state_x p h = some (stV h p, h) := by
  have t0 := trn_01 (h := h)
  unfold fX5_state_x stV fX4_size fX1_size fX3_size
  rw [wr_of (z := p) (by omega) (by omega), pX5_turn w.cc]
  by_cases k0 : p = 0
  · rw [if_pos k0, if_pos k0]; rfl
  rw [if_neg k0, if_neg k0]
  by_cases k1 : p = 1
  · rw [if_pos k1, if_pos k1, Option.bind_some, cX0_check w.gg Psi.cs t0, Option.bind_some]
    by_cases hk : chk (kOf h) (h 8) (trn h) = true
    · rw [if_pos hk, if_neg (show ¬ wr 1 = 0 by decide)]
    · rw [if_neg hk, if_pos wr_0]
  rw [if_neg k1, if_neg k1]
  by_cases k2 : p = 2
  · have e : fX0_countLegalMoves (trn h) 4096 h = some (((min 4096 (cnt (kOf h) (h 8) (trn h)) : Nat) : Int), h) := cX0_count w.gg Psi.cs t0 (lim := 4096) (by omega)
    rw [if_pos k2, if_pos k2, Option.bind_some, e, Option.bind_some]
  rw [if_neg k2, if_neg k2]
  by_cases k3 : p = 3
  · rw [if_pos k3, if_pos k3]
  rw [if_neg k3, if_neg k3]
  by_cases k4 : p = 4
  · rw [if_pos k4, if_pos k4]; rfl
  rw [if_neg k4, if_neg k4]
  by_cases k5 : p = 5
  · rw [if_pos k5, if_pos k5]; rfl
  rw [if_neg k5, if_neg k5, if_pos (by omega)]
  rfl
theorem pX5_state {h : HS} (w : Psi h) {p : Int} (hp : zr p) : fX5_state p h = if 0 ≤ p ∧ p ≤ 6 then some (0, stV h p, h) else some (1, 0, h) := by
  by_cases h1 : 0 ≤ p ∧ p ≤ 6
  · have e := pX5_state_x w h1
    rw [if_pos h1]
    unfold fX5_state_x at e
    unfold fX5_state
    rw [wr_of hp.1 hp.2] at e ⊢
    by_cases k0 : p = 0
    · rw [if_pos k0] at e ⊢
      rw [pX5_turn w.cc] at e ⊢
      exact congrArg (fun o : Option (Int × HS) => o.map fun q => ((0 : Int), q.1, q.2)) e
    rw [if_neg k0] at e ⊢
    by_cases k1 : p = 1
    · rw [if_pos k1] at e ⊢
      rw [pX5_turn w.cc, Option.bind_some, cX0_check w.gg Psi.cs trn_01, Option.bind_some] at e ⊢
      by_cases hk : chk (kOf h) (h 8) (trn h) = true
      · rw [if_pos hk, if_neg (show ¬ wr 1 = 0 by decide)] at e ⊢
        exact congrArg (fun o : Option (Int × HS) => o.map fun q => ((0 : Int), q.1, q.2)) e
      · rw [if_neg hk, if_pos wr_0] at e ⊢
        exact congrArg (fun o : Option (Int × HS) => o.map fun q => ((0 : Int), q.1, q.2)) e
    rw [if_neg k1] at e ⊢
    by_cases k2 : p = 2
    · have e3 : fX0_countLegalMoves (trn h) 4096 h = some (((min 4096 (cnt (kOf h) (h 8) (trn h)) : Nat) : Int), h) := cX0_count w.gg Psi.cs trn_01 (lim := 4096) (by omega)
      rw [if_pos k2] at e ⊢
      rw [pX5_turn w.cc, Option.bind_some, e3, Option.bind_some] at e ⊢
      exact congrArg (fun o : Option (Int × HS) => o.map fun q => ((0 : Int), q.1, q.2)) e
    rw [if_neg k2] at e ⊢
    by_cases k3 : p = 3
    · rw [if_pos k3] at e ⊢
      exact congrArg (fun o : Option (Int × HS) => o.map fun q => ((0 : Int), q.1, q.2)) e
    rw [if_neg k3] at e ⊢
    by_cases k4 : p = 4
    · rw [if_pos k4] at e ⊢
      exact congrArg (fun o : Option (Int × HS) => o.map fun q => ((0 : Int), q.1, q.2)) e
    rw [if_neg k4] at e ⊢
    by_cases k5 : p = 5
    · rw [if_pos k5] at e ⊢
      exact congrArg (fun o : Option (Int × HS) => o.map fun q => ((0 : Int), q.1, q.2)) e
    have k6 : p = 6 := by omega
    rw [if_neg k5, if_pos k6] at e ⊢
    exact congrArg (fun o : Option (Int × HS) => o.map fun q => ((0 : Int), q.1, q.2)) e
  · rw [if_neg h1]
    unfold fX5_state
    rw [wr_of hp.1 hp.2, if_neg (by omega), if_neg (by omega), if_neg (by omega), if_neg (by omega), if_neg (by omega), if_neg (by omega), if_neg (by omega)]
theorem pX6_told {h h6 : HS} (w : Psi h) (e : zsq h6 h) {p : Int} (hp : 0 ≤ p ∧ p ≤ 6) : ∃ h7, fX6_stateTold p h6 = some (stV h p, h7) ∧ fr36 h7 h6 := by
  have t0 := trn_01 (h := h)
  have m := w.ms e.qm
  unfold fX6_stateTold stV
  rw [wr_of (z := p) (by omega) (by omega), pX6_turn w e.qm]
  by_cases k0 : p = 0
  · rw [if_pos k0, if_pos k0]; exact ⟨h6, rfl, fun _ _ => rfl⟩
  rw [if_neg k0, if_neg k0]
  by_cases k1 : p = 1
  · rw [if_pos k1, if_pos k1, Option.bind_some, mX6_check w.gg m t0, Option.bind_some]
    by_cases hk : chk (kOf h) (h 8) (trn h) = true
    · rw [if_pos hk, if_neg (show ¬ wr 1 = 0 by decide)]; exact ⟨h6, rfl, fun _ _ => rfl⟩
    · rw [if_neg hk, if_pos wr_0]; exact ⟨h6, rfl, fun _ _ => rfl⟩
  rw [if_neg k1, if_neg k1]
  by_cases k2 : p = 2
  · obtain ⟨h7, e7, f7⟩ := mX6_count w.gg m t0 (lim := 4096) (by omega)
    have e8 : fX6_legalMoves (trn h) 4096 h6 = some (((min 4096 (cnt (kOf h) (h 8) (trn h)) : Nat) : Int), h7) := e7
    rw [if_pos k2, if_pos k2, Option.bind_some, e8, Option.bind_some]
    exact ⟨h7, rfl, f7⟩
  rw [if_neg k2, if_neg k2]
  by_cases k3 : p = 3
  · rw [if_pos k3, if_pos k3, e.c30 (by decide), w.P.n.2]; exact ⟨h6, rfl, fun _ _ => rfl⟩
  rw [if_neg k3, if_neg k3]
  by_cases k4 : p = 4
  · rw [if_pos k4, if_pos k4, e.c30 (by decide), w.R.n2]; exact ⟨h6, rfl, fun _ _ => rfl⟩
  rw [if_neg k4, if_neg k4]
  by_cases k5 : p = 5
  · rw [if_pos k5, if_pos k5, e.c30 (by decide), w.B.nk2]; exact ⟨h6, rfl, fun _ _ => rfl⟩
  rw [if_neg k5, if_neg k5, e.c30 (by decide), w.T.n2]
  exact ⟨h6, rfl, fun _ _ => rfl⟩
theorem qc_4 {p : Int} {h : HS} (hp : zr p) (w : Psi h) : ∃ o, fL_c4 p h = some o ∧ Psi o := by
  have eg : fL_c4 p h = gC (fL_state p h) (fX6_state p) := rfl
  have r0 := stV_rg w p
  rw [eg]
  unfold fL_state
  rw [pX5_state w hp]
  by_cases h1 : 0 ≤ p ∧ p ≤ 6
  · obtain ⟨h7, e7, f7⟩ := pX6_told w ((zsq.rf.h50 0 (wr (stV h p))).h30 0) h1
    rw [if_pos h1, Option.bind_some, if_pos rfl]
    refine ⟨h7, gC_ok (v1 := stV h p) ?_ r0 rfl (by rw [f7 30 (by decide)]; simp [hs_at]) (by rw [f7 50 (by decide)]; simp [hs_at]), w.sq (f7.sq.tr ((zsq.rf.h50 _ _).h30 _))⟩
    unfold fX6_state
    rw [pX6_isIn hp (by unfold zr; omega) (by unfold zr; omega), Option.bind_some, if_pos h1, if_neg (show ¬ wr 1 = 0 by decide)]
    show (fX6_stateTold p (hs (hs h 50 0 (wr (stV h p))) 30 0 0)).bind _ = _
    rw [e7, Option.bind_some]
  · rw [if_neg h1, Option.bind_some, if_neg (show ¬ (1 : Int) = 0 by decide), if_pos rfl]
    refine ⟨_, gC_thr (v1 := 0) (h2 := hs (hs h 30 0 0) 30 0 1) ?_ ⟨by unfold zr; omega, by decide⟩ (by simp [hs_at]), w.sq ((zsq.rf.h30 _).h30 _)⟩
    show fX6_state p h = _
    unfold fX6_state fX6_fail
    rw [pX6_isIn hp (by unfold zr; omega) (by unfold zr; omega), Option.bind_some, if_neg h1, if_pos wr_0]
    rfl
end ZTOLD
end
section
section ZWALK
/-! the class walks along the tree -/
def h23 (h : HS) (v : Int → Int) : HS := fun a => if a = 23 then v else h a
theorem h23_ne {h : HS} {v : Int → Int} {a : Nat} (ha : a ≠ 23) : h23 h v a = h a := by
  unfold h23
  rw [if_neg ha]
theorem h23_sq {h : HS} {v : Int → Int} : zsq (h23 h v) h := fun a b hn => by rw [h23_ne (fun e => hn (Or.inl (by omega)))]
theorem h23_id {h : HS} : h23 h (h 23) = h := by
  funext a
  unfold h23
  by_cases e : a = 23
  · rw [if_pos e, e]
  · rw [if_neg e]
/-- the class's board and present node are those of node p, all else is as it was -/
def atN (h : HS) (p : Int) : HS := fun a => if a = 8 then (fun s => if 0 ≤ s ∧ s < 64 then bd h p s else h 8 s) else if a = 0 then (fun k => if k = 8 then p else h 0 k) else h a
theorem atN_ne {h : HS} {p : Int} {a : Nat} (h8 : a ≠ 8) (h0 : a ≠ 0) : atN h p a = h a := by
  unfold atN
  rw [if_neg h8, if_neg h0]
theorem atN_08 {h : HS} {p : Int} : atN h p 0 8 = p := by
  unfold atN
  rw [if_neg (by decide), if_pos rfl, if_pos rfl]
theorem atN_0 {h : HS} {p k : Int} (hk : k ≠ 8) : atN h p 0 k = h 0 k := by
  unfold atN
  rw [if_neg (by decide), if_pos rfl, if_neg hk]
theorem atN_8 {h : HS} {p s : Int} (hs1 : 0 ≤ s ∧ s < 64) : atN h p 8 s = bd h p s := by
  unfold atN
  rw [if_pos rfl, if_pos hs1]
theorem atN_8o {h : HS} {p s : Int} (hs1 : ¬ (0 ≤ s ∧ s < 64)) : atN h p 8 s = h 8 s := by
  unfold atN
  rw [if_pos rfl, if_neg hs1]
theorem atN_self {h : HS} (w : PsiC h) : atN h (h 0 8) = h := by
  funext a b
  by_cases h8 : a = 8
  · subst h8
    by_cases hb : 0 ≤ b ∧ b < 64
    · rw [atN_8 hb, w.P.b b hb.1 hb.2]
    · rw [atN_8o hb]
  · by_cases h0 : a = 0
    · subst h0
      by_cases hb : b = 8
      · rw [hb, atN_08]
      · rw [atN_0 hb]
    · rw [atN_ne h8 h0]
theorem atN_row {p q d : Int} {h : HS} {a : Nat} (hR : PcR h) (h1 : 0 ≤ p ∧ p < h 9 8) (ha8 : a ≠ 8) (ha0 : a ≠ 0) : ((fX4_has p (atN h q)).bind fun r1 => if wr r1 = 0 then some d else if (0 : Int) ≤ p ∧ p < 200 then some (atN h q a p) else none) = some (h a p) := by
  have n := hR.n
  have e9 : atN h q 9 8 = h 9 8 := by rw [atN_ne (by decide) (by decide)]
  rw [pX4_row (by unfold zr; omega) (by rw [e9]; exact n) (by rw [e9]; exact h1), atN_ne ha8 ha0]
theorem stepUp_at {h : HS} (w : PsiC h) {p : Int} (p1 : 1 ≤ p) (p2 : p < h 9 8) : fX5_stepUp (atN h p) = some (atN h (h 10 p)) := by
  obtain ⟨a1, a2, a3, a4, a5, a6⟩ := w.P.t p p1 p2
  have n := w.R.n
  have bs := w.P.bs w.R p1 p2
  have hp : 0 ≤ p ∧ p < h 9 8 := ⟨by omega, p2⟩
  unfold fX5_stepUp fX4_from fX4_to fX4_taken fX0_takeBack fX4_above
  rw [atN_08, wr_of (z := p) (by omega) (by omega), if_neg (by omega), atN_row w.R hp (by decide) (by decide), atN_row w.R hp (by decide) (by decide), atN_row w.R hp (by decide) (by decide), Option.bind_some, Option.bind_some, Option.bind_some, fX5_isSq (by unfold zr; omega), fX5_isSq (by unfold zr; omega), Option.bind_some, Option.bind_some, if_pos a3, if_pos a4, if_neg (show ¬ wr 1 = 0 by decide), if_neg (show ¬ wr 1 = 0 by decide)]
  simp only [if_pos a3, if_pos a4, Option.bind_some]
  obtain ⟨r4, er⟩ : ∃ r4, r4 = hs (hs (atN h p) 8 (h 11 p) (atN h p 8 (h 12 p))) 8 (h 12 p) (h 13 p) := ⟨_, rfl⟩
  rw [← er]
  have ne : ∀ a, a ≠ 8 → r4 a = atN h p a := fun a ha => by rw [er, hs_ne _ _ _ ha, hs_ne _ _ _ ha]
  have e08 : r4 0 8 = p := by rw [ne 0 (by decide), atN_08]
  have e9 : r4 9 8 = h 9 8 := by rw [ne 9 (by decide), atN_ne (by decide) (by decide)]
  rw [e08, pX4_row (a := 10) (by unfold zr; omega) (by rw [e9]; exact n) (by rw [e9]; exact hp), Option.bind_some, ne 10 (by decide), atN_ne (by decide) (by decide)]
  congr 1
  funext a b
  by_cases h8 : a = 8
  · subst h8
    rw [hs_ne _ _ _ (by decide), er, hs_at, if_pos rfl]
    by_cases e1 : b = h 12 p
    · rw [if_pos e1, e1, atN_8 a4, a6]
    · rw [if_neg e1, hs_at, if_pos rfl]
      by_cases e2 : b = h 11 p
      · rw [if_pos e2, e2, atN_8 a3, atN_8 a4, bs]
        unfold mv
        rw [if_neg (fun e => e1 (by rw [e2, e])), if_pos rfl]
      · rw [if_neg e2]
        by_cases hb : 0 ≤ b ∧ b < 64
        · rw [atN_8 hb, atN_8 hb, bs]
          unfold mv
          rw [if_neg e2, if_neg e1]
        · rw [atN_8o hb, atN_8o hb]
  · by_cases h0 : a = 0
    · subst h0
      rw [hs_at, if_pos rfl]
      by_cases hb : b = 8
      · rw [if_pos hb, hb, atN_08]
      · rw [if_neg hb, ne 0 (by decide), atN_0 hb, atN_0 hb]
    · rw [hs_ne _ _ _ h0, ne a h8, atN_ne h8 h0, atN_ne h8 h0]
theorem stepDown_at {h : HS} (w : PsiC h) {p : Int} (p1 : 1 ≤ p) (p2 : p < h 9 8) : fX5_stepDown p (atN h (h 10 p)) = some (atN h p) := by
  obtain ⟨a1, a2, a3, a4, a5, a6⟩ := w.P.t p p1 p2
  have n := w.R.n
  have bs := w.P.bs w.R p1 p2
  have hp : 0 ≤ p ∧ p < h 9 8 := ⟨by omega, p2⟩
  unfold fX5_stepDown fX4_from fX4_to
  rw [atN_row w.R hp (by decide) (by decide), atN_row w.R hp (by decide) (by decide), Option.bind_some, Option.bind_some, ucX0_move a3 a4, Option.bind_some]
  unfold fX4_keepTaken
  have e9 : mvC (h 11 p) (h 12 p) (atN h (h 10 p)) 9 8 = h 9 8 := by rw [mvC_at (by decide), atN_ne (by decide) (by decide)]
  rw [pX4_has (by unfold zr; omega) (by simp only [e9]; exact n), if_pos (by simp only [e9]; exact hp), Option.bind_some, if_neg (show ¬ wr 1 = 0 by decide), if_pos (by omega), Option.bind_some]
  congr 1
  funext a b
  show hs (hs (mvC (h 11 p) (h 12 p) (atN h (h 10 p))) 13 p (atN h (h 10 p) 8 (h 12 p))) 0 8 p a b = _
  by_cases h8 : a = 8
  · subst h8
    rw [hs_ne _ _ _ (by decide), hs_ne _ _ _ (by decide), mvC_8]
    by_cases hb : 0 ≤ b ∧ b < 64
    · rw [atN_8 hb, bs]
      unfold mv
      rw [atN_8 a3]
      by_cases e1 : b = h 11 p
      · rw [if_pos e1, if_pos e1]
      · rw [if_neg e1, if_neg e1]
        by_cases e2 : b = h 12 p
        · rw [if_pos e2, if_pos e2]
        · rw [if_neg e2, if_neg e2, atN_8 hb]
    · rw [atN_8o hb]
      unfold mv
      rw [if_neg (by omega), if_neg (by omega), atN_8o hb]
  · by_cases h0 : a = 0
    · subst h0
      rw [hs_at, if_pos rfl]
      by_cases hb : b = 8
      · rw [if_pos hb, hb, atN_08]
      · rw [if_neg hb, hs_ne _ _ _ (by decide), mvC_at (by decide), atN_0 hb, atN_0 hb]
    · rw [hs_ne _ _ _ h0]
      by_cases h13 : a = 13
      · subst h13
        rw [hs_at, if_pos rfl]
        by_cases hb : b = p
        · rw [if_pos hb, atN_8 a4, atN_ne (by decide) (by decide), hb, a6]
        · rw [if_neg hb, mvC_at (by decide), atN_ne (by decide) (by decide), atN_ne (by decide) (by decide)]
      · rw [hs_ne _ _ _ h13, mvC_at h8, atN_ne h8 h0, atN_ne h8 h0]
def anc (h : HS) : Nat → Int → Int
  | 0, p => p
  | k + 1, p => h 10 (anc h k p)
theorem anc_in {h : HS} (w : PsiC h) {p : Int} (p0 : 0 ≤ p) (p1 : p < h 9 8) : ∀ k : Nat, (k : Int) ≤ h 14 p → (0 ≤ anc h k p ∧ anc h k p < h 9 8) ∧ h 14 (anc h k p) = h 14 p - k
  | 0, hk => ⟨⟨p0, p1⟩, by show h 14 p = _; omega⟩
  | k + 1, hk => by
    obtain ⟨⟨i1, i2⟩, i3⟩ := anc_in w p0 p1 k (by omega)
    have hq : 1 ≤ anc h k p := by
      rcases (show anc h k p = 0 ∨ 1 ≤ anc h k p by omega) with e | e
      · rw [e, w.P.z.2.2.2] at i3; omega
      · exact e
    obtain ⟨a1, a2, -⟩ := w.P.t _ hq i2
    show (0 ≤ h 10 (anc h k p) ∧ h 10 (anc h k p) < h 9 8) ∧ h 14 (h 10 (anc h k p)) = _
    omega
theorem anc_pos {h : HS} (w : PsiC h) {p : Int} (p0 : 0 ≤ p) (p1 : p < h 9 8) {k : Nat} (hk : (k : Int) < h 14 p) : 1 ≤ anc h k p := by
  obtain ⟨⟨i1, i2⟩, i3⟩ := anc_in w p0 p1 k (by omega)
  rcases (show anc h k p = 0 ∨ 1 ≤ anc h k p by omega) with e | e
  · rw [e, w.P.z.2.2.2] at i3; omega
  · exact e
theorem anc_end {h : HS} (w : PsiC h) {p : Int} (p0 : 0 ≤ p) (p1 : p < h 9 8) {k : Nat} (hk : (k : Int) = h 14 p) : anc h k p = 0 := by
  obtain ⟨⟨i1, i2⟩, i3⟩ := anc_in w p0 p1 k (by omega)
  rcases (show anc h k p = 0 ∨ 1 ≤ anc h k p by omega) with e | e
  · exact e
  · obtain ⟨a1, a2, -⟩ := w.P.t _ e i2
    have d := w.P.dp w.R _ a1.1 (by omega)
    omega
theorem visitUp {h : HS} (w : PsiC h) {x : Int} : ∀ (nf d : Nat) (q : Int), 0 ≤ q → q < h 9 8 → h 14 q = d → d < nf → fX5_visit_L12 nf x (d : Int) (atN h q) = (fX4_depth x (atN h 0)).bind fun r3 => fX5_visit_L40 zF r3 x 0 (atN h 0)
  | 0, d, q, q0, q1, e, hd => by omega
  | nf + 1, d, q, q0, q1, e, hd => by
    have dr := w.P.dp w.R q q0 q1
    rw [fX5_visit_L12]
    rw [wr_of (z := (d : Int)) (by omega) (by omega)]
    cases d with
    | zero =>
      have eq : q = 0 := by
        rcases (show q = 0 ∨ 1 ≤ q by omega) with k | k
        · exact k
        · obtain ⟨a1, a2, -⟩ := w.P.t q k q1
          have d1 := w.P.dp w.R _ a1.1 (by omega)
          omega
      rw [if_pos (by omega), eq]
    | succ d =>
      have q2 : 1 ≤ q := by
        rcases (show q = 0 ∨ 1 ≤ q by omega) with k | k
        · rw [k, w.P.z.2.2.2] at e; omega
        · exact k
      obtain ⟨a1, a2, -⟩ := w.P.t q q2 q1
      rw [if_neg (by omega), stepUp_at w q2 q1, Option.bind_some, show ((d + 1 : Nat) : Int) + -1 = (d : Int) by omega]
      exact visitUp w nf d (h 10 q) a1.1 (by omega) (by omega) (by omega)
theorem atN_h23 {h : HS} {v : Int → Int} {q k x : Int} : hs (atN (h23 h v) q) 23 k x = atN (h23 h (fun i => if i = k then x else v i)) q := by
  have eb : ∀ u : Int → Int, bd (h23 h u) = bd h := fun u => bd_sq h23_sq
  funext a b
  by_cases h23a : a = 23
  · subst h23a
    rw [hs_at, if_pos rfl, atN_ne (by decide) (by decide), atN_ne (by decide) (by decide)]
    rfl
  · rw [hs_ne _ _ _ h23a]
    unfold atN
    rw [eb, eb, h23_ne h23a, h23_ne h23a]
    rfl
theorem visitPath {h : HS} (w : PsiC h) {p : Int} (p0 : 0 ≤ p) (p1 : p < h 9 8) {len : Nat} (hl : h 14 p = len) : ∀ (nf k : Nat) (v : Int → Int), (∀ i : Nat, i < k → v i = anc h i p) → k ≤ len → len - k < nf → ∃ v2, fX5_visit_L40 nf (len : Int) (anc h k p) (k : Int) (atN (h23 h v) 0) = fX5_visit_L92 zF ((len : Int) - 1) (atN (h23 h v2) 0) ∧ ∀ i : Nat, i < len → v2 i = anc h i p
  | 0, k, v, hv, h1, h2 => by omega
  | nf + 1, k, v, hv, h1, h2 => by
    have dr := w.P.dp w.R p p0 p1
    rw [fX5_visit_L40]
    unfold fX5_visit_b79
    rw [wr_of (z := (len : Int)) (by omega) (by omega), wr_of (z := (k : Int)) (by omega) (by omega)]
    have ez : zmin (len : Int) 200 = len := by
      unfold zmin
      rw [wr_of (z := (len : Int)) (by omega) (by omega), wr_of (z := (200 : Int)) (by omega) (by omega), if_neg (by omega)]
    rw [ez]
    by_cases hk : (len : Int) ≤ (k : Int)
    · rw [if_pos hk]
      exact ⟨v, rfl, fun i hi => hv i (by omega)⟩
    · obtain ⟨⟨i1, i2⟩, i3⟩ := anc_in w p0 p1 k (by omega)
      rw [if_neg hk, if_neg (by omega), if_pos (by omega), atN_h23]
      have w2 : PsiC (h23 h (fun i => if i = (k : Int) then anc h k p else v i)) := w.sq h23_sq.qc
      have ea : fX4_above (anc h k p) (atN (h23 h (fun i => if i = (k : Int) then anc h k p else v i)) 0) = some (anc h (k + 1) p) := by
        unfold fX4_above
        rw [atN_row w2.R (by rw [h23_ne (by decide)]; exact ⟨i1, i2⟩) (by decide) (by decide), h23_ne (by decide)]
        rfl
      rw [ea, Option.bind_some, show (k : Int) + 1 = ((k + 1 : Nat) : Int) by omega]
      refine visitPath w p0 p1 hl nf (k + 1) _ (fun i hi => ?_) (by omega) (by omega)
      by_cases e : i = k
      · subst e
        rw [if_pos rfl]
      · rw [if_neg (by omega)]
        exact hv i (by omega)
theorem visitDown {h : HS} (w : PsiC h) {p : Int} (p0 : 0 ≤ p) (p1 : p < h 9 8) {v : Int → Int} : ∀ (nf j : Nat), (j : Int) ≤ h 14 p → (∀ i : Nat, i < j → v i = anc h i p) → j < nf → fX5_visit_L92 nf ((j : Int) - 1) (atN (h23 h v) (anc h j p)) = some (atN (h23 h v) p)
  | 0, j, h1, h2, h3 => by omega
  | nf + 1, j, h1, h2, h3 => by
    have dr := w.P.dp w.R p p0 p1
    rw [fX5_visit_L92]
    rw [wr_of (z := (j : Int) - 1) (by omega) (by omega)]
    cases j with
    | zero =>
      rw [if_pos (by omega)]
      rfl
    | succ j =>
      obtain ⟨⟨i1, i2⟩, i3⟩ := anc_in w p0 p1 j (by omega)
      have w2 : PsiC (h23 h v) := w.sq h23_sq.qc
      have q1 := anc_pos w p0 p1 (k := j) (by omega)
      have e23 : atN (h23 h v) (anc h (j + 1) p) 23 ((j : Nat) : Int) = anc h j p := by
        rw [atN_ne (by decide) (by decide)]
        exact h2 j (by omega)
      have es : fX5_stepDown (anc h j p) (atN (h23 h v) (anc h (j + 1) p)) = some (atN (h23 h v) (anc h j p)) := by
        have e := stepDown_at w2 (p := anc h j p) q1 (by rw [h23_ne (by decide)]; exact i2)
        rw [h23_ne (by decide)] at e
        exact e
      rw [if_neg (by omega), if_pos (by omega), show ((j + 1 : Nat) : Int) - 1 = (j : Int) by omega, e23, es, Option.bind_some, show (j : Int) + -1 = (j : Int) - 1 by omega]
      exact visitDown w p0 p1 nf j (by omega) (fun i hi => h2 i (by omega)) (by omega)
theorem visit_at {h : HS} (w : PsiC h) {p q : Int} (p0 : 0 ≤ p) (p1 : p < h 9 8) (q0 : 0 ≤ q) (q1 : q < h 9 8) : ∃ v, fX5_visit p (atN h q) = some (atN (h23 h v) p) := by
  have dp := w.P.dp w.R p p0 p1
  have dq := w.P.dp w.R q q0 q1
  have n := w.R.n
  obtain ⟨len, hl⟩ : ∃ len : Nat, h 14 p = len := ⟨(h 14 p).toNat, by omega⟩
  obtain ⟨d, hd⟩ : ∃ d : Nat, h 14 q = d := ⟨(h 14 q).toNat, by omega⟩
  have e1 := visitUp w (x := p) zF d q q0 q1 hd (by unfold zF; omega)
  obtain ⟨v2, e2, e3⟩ := visitPath w p0 p1 hl zF 0 (h 23) (fun i hi => by omega) (by omega) (by unfold zF; omega)
  have e4 := visitDown w p0 p1 (v := v2) zF len (by omega) e3 (by unfold zF; omega)
  rw [anc_end w p0 p1 (k := len) (by omega)] at e4
  refine ⟨v2, ?_⟩
  unfold fX5_visit
  have ed : ∀ y : Int, ∀ x : Int, 0 ≤ x ∧ x < h 9 8 → fX4_depth x (atN h y) = some (h 14 x) := fun y x hx => by
    unfold fX4_depth
    exact atN_row w.R hx (by decide) (by decide)
  rw [atN_08, ed q q ⟨q0, q1⟩, Option.bind_some, hd, e1, ed 0 p ⟨p0, p1⟩, Option.bind_some, hl, ← e4, ← e2, h23_id]
  rfl
end ZWALK
end
section
section ZSET
/-! the reference sets its board anew -/
theorem pX6_get {h g : HS} (w : Psi h) (e37 : g 37 = h 37) {q : Int} (hq : 0 ≤ q ∧ q < h 9 8) : fX6_get q 0 g = some (h 10 q) ∧ fX6_get q 1 g = some (h 11 q) ∧ fX6_get q 2 g = some (h 12 q) ∧ fX6_get q 3 g = some (h 14 q) ∧ fX6_get q 4 g = some (h 15 q) := by
  have n := w.R.n
  obtain ⟨f0, f1, f2, f3, f4⟩ := w.R.f q hq.1 hq.2
  unfold fX6_get
  rw [if_pos (by omega), if_pos (by omega), if_pos (by omega), if_pos (by omega), if_pos (by omega), e37, Int.add_zero, f0, f1, f2, f3, f4]
  exact ⟨rfl, rfl, rfl, rfl, rfl⟩
theorem setUp {h : HS} (w : Psi h) {p : Int} (p0 : 0 ≤ p) (p1 : p < h 9 8) {len : Nat} (hl : h 14 p = len) : ∀ (nf k : Nat) (g : HS), g 37 = h 37 → (∀ i : Nat, i < k → g 40 i = anc h i p) → k ≤ len → len - k < nf → ∃ g2, fX6_set_L19 nf (k : Int) (anc h k p) g = fX6_set_L47 zF ((len : Int) - 1) g2 ∧ (∀ a : Nat, a ≠ 40 → g2 a = g a) ∧ ∀ i : Nat, i < len → g2 40 i = anc h i p
  | 0, k, g, hg, hv, h1, h2 => by omega
  | nf + 1, k, g, hg, hv, h1, h2 => by
    have dr := w.P.dp w.R p p0 p1
    have n := w.R.n
    obtain ⟨⟨i1, i2⟩, i3⟩ := anc_in w.cc p0 p1 k (by omega)
    rw [fX6_set_L19]
    rw [wr_of (z := anc h k p) (by omega) (by omega)]
    by_cases hk : k = len
    · have e0 := anc_end w.cc p0 p1 (k := k) (by omega)
      rw [if_pos (by omega), hk]
      exact ⟨g, rfl, fun _ _ => rfl, fun i hi => hv i (by omega)⟩
    · have q1 := anc_pos w.cc p0 p1 (k := k) (by omega)
      have ne : ∀ a : Nat, a ≠ 40 → hs g 40 (k : Int) (anc h k p) a = g a := fun a ha => hs_ne _ _ _ ha
      rw [if_neg (by omega), if_pos (by omega), (pX6_get w (g := hs g 40 (k : Int) (anc h k p)) (by rw [ne 37 (by decide)]; exact hg) ⟨i1, i2⟩).1, Option.bind_some, show (k : Int) + 1 = ((k + 1 : Nat) : Int) by omega]
      obtain ⟨g2, e1, e2, e3⟩ := setUp w p0 p1 hl nf (k + 1) (hs g 40 (k : Int) (anc h k p)) (by rw [ne 37 (by decide)]; exact hg) (fun i hi => by
        rw [hs_at, if_pos rfl]
        by_cases e : i = k
        · subst e
          rw [if_pos rfl]
        · rw [if_neg (by omega)]
          exact hv i (by omega)) (by omega) (by omega)
      exact ⟨g2, e1, fun a ha => by rw [e2 a ha, ne a ha], e3⟩
theorem setDown {h : HS} (w : Psi h) {p : Int} (p0 : 0 ≤ p) (p1 : p < h 9 8) : ∀ (nf j : Nat) (g : HS), g 37 = h 37 → (j : Int) ≤ h 14 p → (∀ i : Nat, i < j → g 40 i = anc h i p) → (∀ s : Int, 0 ≤ s → s < 64 → g 35 s = bd h (anc h j p) s) → j < nf → ∃ g2, fX6_set_L47 nf ((j : Int) - 1) g = some g2 ∧ (∀ a : Nat, a ≠ 35 → g2 a = g a) ∧ ∀ s : Int, 0 ≤ s → s < 64 → g2 35 s = bd h p s
  | 0, j, g, hg, h1, h2, h3, h4 => by omega
  | nf + 1, j, g, hg, h1, h2, h3, h4 => by
    have dr := w.P.dp w.R p p0 p1
    rw [fX6_set_L47]
    rw [wr_of (z := (j : Int) - 1) (by omega) (by omega)]
    cases j with
    | zero =>
      rw [if_pos (by omega)]
      exact ⟨g, rfl, fun _ _ => rfl, h3⟩
    | succ j =>
      obtain ⟨⟨i1, i2⟩, i3⟩ := anc_in w.cc p0 p1 j (by omega)
      have q1 := anc_pos w.cc p0 p1 (k := j) (by omega)
      obtain ⟨a1, a2, a3, a4, a5, a6⟩ := w.P.t _ q1 i2
      have pg := pX6_get w hg (q := anc h j p) ⟨i1, i2⟩
      rw [if_neg (by omega), if_pos (by omega), show ((j + 1 : Nat) : Int) - 1 = (j : Int) by omega, h2 j (by omega), pg.2.1, Option.bind_some, if_pos (by omega), pg.2.2.1, Option.bind_some, umX6_play a3 a4, Option.bind_some, show (j : Int) + -1 = (j : Int) - 1 by omega]
      obtain ⟨g2, e1, e2, e3⟩ := setDown w p0 p1 nf j (mvM (h 11 (anc h j p)) (h 12 (anc h j p)) g) (by rw [mvM_at (by decide)]; exact hg) (by omega) (fun i hi => by rw [mvM_at (by decide)]; exact h2 i (by omega)) (fun s s0 s1 => by
        rw [mvM_35, w.P.bs w.R q1 i2]
        unfold mv
        have k1 := h3 s s0 s1
        have k2 := h3 (h 11 (anc h j p)) a3.1 a3.2
        rw [k1, k2]
        rfl) (by omega)
      exact ⟨g2, e1, fun a ha => by rw [e2 a ha, mvM_at ha], e3⟩
theorem set_at {h h6 : HS} (w : Psi h) (e34 : h6 34 = h 34) (e37 : h6 37 = h 37) {p : Int} (p0 : 0 ≤ p) (p1 : p < h 9 8) : ∃ h7, fX6_set p h6 = some h7 ∧ (∀ a : Nat, a ≠ 35 → a ≠ 40 → h7 a = h6 a) ∧ ∀ s : Int, 0 ≤ s → s < 64 → h7 35 s = bd h p s := by
  have dp := w.P.dp w.R p p0 p1
  have n := w.R.n
  obtain ⟨len, hl⟩ : ∃ len : Nat, h 14 p = len := ⟨(h 14 p).toNat, by omega⟩
  have ne : ∀ a : Nat, a ≠ 35 → hcp h6 34 0 35 0 64 a = h6 a := fun a ha => hcp_ne _ _ _ _ _ ha
  obtain ⟨g2, e1, e2, e3⟩ := setUp w p0 p1 hl zF 0 (hcp h6 34 0 35 0 64) (by rw [ne 37 (by decide)]; exact e37) (fun i hi => by omega) (by omega) (by unfold zF; omega)
  obtain ⟨g3, e4, e5, e6⟩ := setDown w p0 p1 zF len g2 (by rw [e2 37 (by decide), ne 37 (by decide)]; exact e37) (by omega) e3 (fun s s0 s1 => by
    rw [anc_end w.cc p0 p1 (k := len) (by omega), bd_0 w.P.z.2.2.2, e2 35 (by decide), hcp_eq]
    show (if _ then _ else _) = _
    rw [if_pos (by omega), e34, show (0 : Int) + (s - 0) = s by omega]) (by unfold zF; omega)
  refine ⟨g3, ?_, fun a h35 h40 => by rw [e5 a h35, e2 a h40, ne a h35], e6⟩
  unfold fX6_set
  rw [if_pos (by omega)]
  exact e1.trans e4
/-- another node is the present one, on both sides -/
theorem Psi.go {o h : HS} (w : Psi h) {p : Int} (hp : 0 ≤ p ∧ p < h 9 8) (e : ∀ (a : Nat) (b : Int), ¬ scr a b → ¬ (a = 8 ∨ a = 35 ∨ (a = 0 ∧ b = 8) ∨ (a = 30 ∧ b = 9)) → o a b = h a b) (e08 : o 0 8 = p) (e309 : o 30 9 = p) (e8 : ∀ s : Int, 0 ≤ s → s < 64 → o 8 s = bd h p s) (e35 : ∀ s : Int, 0 ≤ s → s < 64 → o 35 s = bd h p s) : Psi o := by
  have ne : ∀ a : Nat, ¬ (a = 50 ∨ a = 18 ∨ a = 21 ∨ a = 22 ∨ a = 23 ∨ a = 24 ∨ a = 36 ∨ a = 40 ∨ a = 41 ∨ a = 42 ∨ a = 90 ∨ a = 91 ∨ a = 0 ∨ a = 30 ∨ a = 8 ∨ a = 35) → o a = h a := fun a hn => by
    funext b
    exact e a b (fun k => hn (by rcases k with k | k | k <;> omega)) (by omega)
  have n0 : ∀ b : Int, ¬ (b = 8 ∨ b = 9 ∨ b = 10 ∨ b = 11 ∨ b = 12) → o 0 b = h 0 b := fun b hb => e 0 b (fun k => by rcases k with k | k | k <;> omega) (by omega)
  have n30 : ∀ b : Int, ¬ (b = 0 ∨ b = 9 ∨ 17 ≤ b) → o 30 b = h 30 b := fun b hb => e 30 b (fun k => by rcases k with k | k | k <;> omega) (by omega)
  have eb : bd o = bd h := bd_eq (ne 10 (by decide)) (ne 11 (by decide)) (ne 12 (by decide)) (ne 14 (by decide)) (ne 34 (by decide))
  refine ⟨w.T.cg (by rw [ne 19 (by decide)]) (n30 _ (by decide)) (fun i => by rw [ne 39 (by decide)]) (fun i => by rw [ne 20 (by decide)]),
   w.E.cg (fun b b0 b1 => n0 _ (by omega)) (fun b b0 b1 => n30 _ (by omega)),
   ⟨by rw [ne 1 (by decide)]; exact w.B.nk, by rw [ne 1 (by decide), n30 _ (by decide)]; exact w.B.nk2, fun s s0 s1 => ?_⟩,
   w.K.cg (by rw [ne 1 (by decide)]) (n30 _ (by decide)) (fun i => by rw [ne 31 (by decide)]) (fun i => by rw [ne 2 (by decide)]),
   w.S.cg (fun i => by rw [ne 32 (by decide)]) (fun i => by rw [ne 3 (by decide)]) (fun i => by rw [ne 33 (by decide)]) (fun i => by rw [ne 4 (by decide)]) (fun i => by rw [ne 5 (by decide)]) (fun i => by rw [ne 6 (by decide)]),
   w.R.cg (by rw [ne 9 (by decide)]) (n30 _ (by decide)) (fun i => by rw [ne 37 (by decide)]) (fun i => by rw [ne 10 (by decide), ne 11 (by decide), ne 12 (by decide), ne 14 (by decide), ne 15 (by decide)]; exact ⟨rfl, rfl, rfl, rfl, rfl⟩),
   w.C.cg (by rw [ne 9 (by decide)]) (fun i => by rw [ne 16 (by decide)]) (fun i => by rw [ne 17 (by decide)]) (fun i => by rw [ne 38 (by decide)]) (fun i => by rw [ne 10 (by decide)]) (fun i => by rw [ne 15 (by decide)]),
   w.A.cg (ne 9 (by decide)) (ne 10 (by decide)) (ne 15 (by decide)) (ne 16 (by decide)) (ne 17 (by decide)),
   ⟨by rw [e08, e309, ne 9 (by decide)]; exact ⟨hp, rfl⟩, by rw [ne 10 (by decide), ne 11 (by decide), ne 12 (by decide), ne 14 (by decide)]; exact w.P.z, by rw [eb, ne 9 (by decide), ne 10 (by decide), ne 11 (by decide), ne 12 (by decide), ne 13 (by decide), ne 14 (by decide)]; exact w.P.t, fun s s0 s1 => by rw [eb, e08]; exact ⟨e8 s s0 s1, e35 s s0 s1⟩, fun s s0 s1 => by rw [ne 34 (by decide), ne 1 (by decide)]; exact w.P.f s s0 s1⟩⟩
  have r := w.P.rg w.R p.toNat p (by omega) hp.1 hp.2 s s0 s1
  rw [e35 s s0 s1, e8 s s0 s1, ne 1 (by decide)]
  exact ⟨rfl, r⟩
theorem turn_at {h : HS} (w : PsiC h) {p : Int} (hp : 0 ≤ p ∧ p < h 9 8) : fX5_turn (atN h p) = some (h 14 p % 2) := by
  have d := w.P.dp w.R p hp.1 hp.2
  unfold fX5_turn fX4_depth
  rw [atN_08, atN_row w.R hp (by decide) (by decide), Option.bind_some, if_pos (by omega)]
theorem qc_15 {p : Int} {h : HS} (hp : zr p) (w : Psi h) : ∃ o, fL_c15 p h = some o ∧ Psi o := by
  have eg : fL_c15 p h = gC (fL_goTo p h) (fX6_goTo p) := rfl
  have n := w.R.n
  have n2 := w.R.n2
  have np := w.P.n.1
  rw [eg]
  unfold fL_goTo fX5_goTo
  rw [pX4_has hp n, Option.bind_some]
  by_cases h1 : 0 ≤ p ∧ p < h 9 8
  · have dp := w.P.dp w.R p h1.1 h1.2
    obtain ⟨v, ev⟩ := visit_at w.cc h1.1 h1.2 np.1 np.2
    rw [atN_self w.cc] at ev
    have w2 : Psi (h23 h v) := w.sq h23_sq
    have et := turn_at w2.cc (p := p) (by rw [h23_ne (by decide)]; exact h1)
    rw [h23_ne (by decide)] at et
    rw [if_pos h1, if_neg (show ¬ wr 1 = 0 by decide), ev, Option.bind_some, et, Option.bind_some, Option.bind_some, if_pos rfl]
    obtain ⟨H, eH⟩ : ∃ H, H = hs (atN (h23 h v) p) 50 0 (wr (h 14 p % 2)) := ⟨_, rfl⟩
    have Hne : ∀ a : Nat, a ≠ 50 → a ≠ 8 → a ≠ 0 → a ≠ 23 → H a = h a := fun a a1 a2 a3 a4 => by rw [eH, hs_ne _ _ _ a1, atN_ne a2 a3, h23_ne a4]
    have H50 : H 50 0 = wr (h 14 p % 2) := by rw [eH, hs_self]
    have S9 : ∀ a : Nat, a ≠ 30 → hs (hs H 30 0 0) 30 9 p a = H a := fun a ha => by rw [hs_ne _ _ _ ha, hs_ne _ _ _ ha]
    obtain ⟨h7, e7, f7, b7⟩ := set_at w (h6 := hs (hs H 30 0 0) 30 9 p) (by rw [S9 34 (by decide), Hne 34 (by decide) (by decide) (by decide) (by decide)]) (by rw [S9 37 (by decide), Hne 37 (by decide) (by decide) (by decide) (by decide)]) h1.1 h1.2
    have e309 : h7 30 9 = p := by rw [f7 30 (by decide) (by decide)]; simp [hs_at]
    have e37 : h7 37 = h 37 := by rw [f7 37 (by decide) (by decide), S9 37 (by decide), Hne 37 (by decide) (by decide) (by decide) (by decide)]
    have hk : fX6_goTo p (hs (atN (h23 h v) p) 50 0 (wr (h 14 p % 2))) = some (h 14 p % 2, h7) := by
      rw [← eH]
      unfold fX6_goTo fX6_turn
      have z8 : hs H 30 0 0 30 8 = h 9 8 := by rw [hs_at, if_pos rfl, if_neg (by decide), Hne 30 (by decide) (by decide) (by decide) (by decide), n2]
      rw [pX6_isNode hp (by rw [z8]; exact n), z8, if_pos h1, Option.bind_some, if_neg (show ¬ wr 1 = 0 by decide), e7, Option.bind_some, e309, (pX6_get w e37 h1).2.2.2.1, Option.bind_some, if_pos (by omega), Option.bind_some]
    refine ⟨h7, gC_ok hk (by show zr (h 14 p % 2); unfold zr; omega) rfl (by rw [f7 30 (by decide) (by decide)]; simp [hs_at]) (by rw [f7 50 (by decide) (by decide), S9 50 (by decide), H50]), ?_⟩
    refine w.go h1 (fun a b hn hm => ?_) ?_ e309 (fun s s0 s1 => ?_) b7
    · have a35 : a ≠ 35 := fun k => hm (Or.inr (Or.inl k))
      have a8 : a ≠ 8 := fun k => hm (Or.inl k)
      have a40 : a ≠ 40 := fun k => hn (Or.inl (by omega))
      have a50 : a ≠ 50 := fun k => hn (Or.inl (by omega))
      have a23 : a ≠ 23 := fun k => hn (Or.inl (by omega))
      rw [f7 a a35 a40]
      by_cases a30 : a = 30
      · subst a30
        have b9 : b ≠ 9 := fun k => hm (Or.inr (Or.inr (Or.inr ⟨rfl, k⟩)))
        have b0 : b ≠ 0 := fun k => hn (Or.inr (Or.inr ⟨rfl, Or.inl k⟩))
        rw [hs_at, if_pos rfl, if_neg b9, hs_at, if_pos rfl, if_neg b0, Hne 30 (by decide) (by decide) (by decide) (by decide)]
      · rw [S9 a a30]
        by_cases a0 : a = 0
        · subst a0
          have b8 : b ≠ 8 := fun k => hm (Or.inr (Or.inr (Or.inl ⟨rfl, k⟩)))
          rw [eH, hs_ne _ _ _ (by decide), atN_0 b8, h23_ne (by decide)]
        · rw [Hne a a50 a8 a0 a23]
    · rw [f7 0 (by decide) (by decide), S9 0 (by decide), eH, hs_ne _ _ _ (by decide), atN_08]
    · rw [f7 8 (by decide) (by decide), S9 8 (by decide), eH, hs_ne _ _ _ (by decide), atN_8 ⟨s0, s1⟩, bd_sq h23_sq]
  · rw [if_neg h1, if_pos wr_0, Option.bind_some, if_neg (show ¬ (1 : Int) = 0 by decide), if_pos rfl]
    refine ⟨_, gC_thr (v1 := 0) (h2 := hs (hs h 30 0 0) 30 0 1) ?_ ⟨by unfold zr; omega, by decide⟩ (by simp [hs_at]), w.sq ((zsq.rf.h30 _).h30 _)⟩
    show fX6_goTo p h = _
    unfold fX6_goTo fX6_fail
    have z8 : hs h 30 0 0 30 8 = h 9 8 := by rw [hs_at, if_pos rfl, if_neg (by decide), n2]
    rw [pX6_isNode hp (by rw [z8]; exact n), z8, if_neg h1, Option.bind_some, if_pos wr_0]
    rfl
end ZSET
end
section
section ZPROM
/-! promote -/
theorem kid_prom {p a : Int} {h : HS} (hC : PsC h) {j : Nat} (ha0 : 0 ≤ a ∧ a < h 9 8) (hj : (j : Int) < h 15 a) (hk : kid h a j = p) : ∀ k : Nat, (k : Int) < h 15 a → kid (nProm p a j h) a k = if k = 0 then p else if k ≤ j then kid h a (k - 1) else kid h a k := by
  by_cases j0 : j = 0
  · subst j0
    intro k hk2
    have e : nProm p a 0 h = h := by unfold nProm; rw [if_pos rfl]
    rw [e]
    by_cases k0 : k = 0
    · rw [if_pos k0, k0, hk]
    · rw [if_neg k0, if_neg (by omega)]
  · have e16 : nProm p a j h 16 a = p := by
      unfold nProm
      rw [if_neg j0, hs_at, if_pos rfl, if_pos rfl]
    have e17 : ∀ i, nProm p a j h 17 i = if i = p then h 16 a else if i = kid h a (j - 1) then h 17 p else h 17 i := fun i => by
      unfold nProm
      rw [if_neg j0, hs_ne _ _ _ (by decide), hs_at, if_pos rfl, hs_at, if_pos rfl]
    have inj : ∀ k m : Nat, (k : Int) < h 15 a → (m : Int) < h 15 a → k ≠ m → kid h a k ≠ kid h a m := fun k m k1 m1 hn e => hn (hC.d a ha0.1 ha0.2 k m k1 m1 e)
    intro k
    induction k with
    | zero =>
      intro _
      exact e16
    | succ k ih =>
      intro hk2
      rw [if_neg (by omega), show k + 1 - 1 = k by omega]
      show nProm p a j h 17 (kid (nProm p a j h) a k) = _
      rw [ih (by omega), e17]
      by_cases k0 : k = 0
      · subst k0
        rw [if_pos rfl, if_pos rfl, if_pos (by omega)]
        rfl
      · rw [if_neg k0]
        by_cases kj : k ≤ j
        · rw [if_pos kj, if_neg (fun e => inj (k - 1) j (by omega) hj (by omega) (by rw [e, hk]))]
          by_cases kj1 : k = j
          · subst kj1
            rw [if_pos rfl, if_neg (by omega), ← hk]
            rfl
          · rw [if_neg (inj (k - 1) (j - 1) (by omega) (by omega) (by omega)), if_pos (by omega)]
            show kid h a (k - 1 + 1) = _
            rw [show k - 1 + 1 = k by omega]
        · rw [if_neg kj, if_neg (fun e => inj k j (by omega) hj (by omega) (by rw [e, hk])), if_neg (inj k (j - 1) (by omega) (by omega) (by omega)), if_neg (by omega)]
          rfl
theorem nProm_ne {p a : Int} {h : HS} {j : Nat} {c : Nat} (h16 : c ≠ 16) (h17 : c ≠ 17) : nProm p a j h c = h c := by
  unfold nProm
  by_cases j0 : j = 0
  · rw [if_pos j0]
  · rw [if_neg j0, hs_ne _ _ _ h16, hs_ne _ _ _ h17, hs_ne _ _ _ h17]
def prom38 (p a : Int) (j : Nat) (h : HS) : HS := hs (hcp h 38 (200 * a) 38 (200 * a + 1) (j : Int)) 38 (200 * a) p
theorem prom38_ne {p a : Int} {h : HS} {j : Nat} {c : Nat} (hc : c ≠ 38) : prom38 p a j h c = h c := by
  unfold prom38
  rw [hs_ne _ _ _ hc, hcp_ne _ _ _ _ _ hc]
theorem prom38_at {p a : Int} {h : HS} {j : Nat} {x : Int} : prom38 p a j h 38 x = if x = 200 * a then p else if 200 * a + 1 ≤ x ∧ x < 200 * a + 1 + j then h 38 (x - 1) else h 38 x := by
  unfold prom38
  rw [hs_at, if_pos rfl, hcp_eq]
  by_cases e : x = 200 * a
  · rw [if_pos e, if_pos e]
  · rw [if_neg e, if_neg e]
    show (if _ then _ else _) = _
    rw [show 200 * a + (x - (200 * a + 1)) = x - 1 by omega]
theorem prom_psi {p a : Int} {h : HS} {j : Nat} (w : Psi h) (hp : 1 ≤ p ∧ p < h 9 8) (ha : h 10 p = a) (ha0 : 0 ≤ a ∧ a < h 9 8) (hj : (j : Int) < h 15 a) (hk : kid h a j = p) : Psi (prom38 p a j (nProm p a j h)) := by
  obtain ⟨o, eo⟩ : ∃ o, o = prom38 p a j (nProm p a j h) := ⟨_, rfl⟩
  rw [← eo]
  have ne : ∀ c : Nat, ¬ (c = 16 ∨ c = 17 ∨ c = 38) → o c = h c := fun c hn => by rw [eo, prom38_ne (by omega), nProm_ne (by omega) (by omega)]
  have ek : ∀ i k, kid o i k = kid (nProm p a j h) i k := fun i k => kid_cg (fun i => by rw [eo, prom38_ne (by decide)]) (fun i => by rw [eo, prom38_ne (by decide)]) i k
  have e38 : ∀ x, o 38 x = if x = 200 * a then p else if 200 * a + 1 ≤ x ∧ x < 200 * a + 1 + j then h 38 (x - 1) else h 38 x := fun x => by rw [eo, prom38_at, nProm_ne (by decide) (by decide)]
  have ka := kid_prom w.C ha0 hj hk
  have n := w.R.n
  obtain ⟨g0, g1, g2, g3, g4⟩ := w.R.g a ha0.1 ha0.2
  refine ⟨w.T.cg (by rw [ne 19 (by decide)]) (by rw [ne 30 (by decide)]) (fun i => by rw [ne 39 (by decide)]) (fun i => by rw [ne 20 (by decide)]),
   w.E.cg (fun b b0 b1 => by rw [ne 0 (by decide)]) (fun b b0 b1 => by rw [ne 30 (by decide)]),
   w.B.cg (by rw [ne 1 (by decide)]) (by rw [ne 30 (by decide)]) (fun i => by rw [ne 35 (by decide)]) (fun i => by rw [ne 8 (by decide)]),
   w.K.cg (by rw [ne 1 (by decide)]) (by rw [ne 30 (by decide)]) (fun i => by rw [ne 31 (by decide)]) (fun i => by rw [ne 2 (by decide)]),
   w.S.cg (fun i => by rw [ne 32 (by decide)]) (fun i => by rw [ne 3 (by decide)]) (fun i => by rw [ne 33 (by decide)]) (fun i => by rw [ne 4 (by decide)]) (fun i => by rw [ne 5 (by decide)]) (fun i => by rw [ne 6 (by decide)]),
   w.R.cg (by rw [ne 9 (by decide)]) (by rw [ne 30 (by decide)]) (fun i => by rw [ne 37 (by decide)]) (fun i => by rw [ne 10 (by decide), ne 11 (by decide), ne 12 (by decide), ne 14 (by decide), ne 15 (by decide)]; exact ⟨rfl, rfl, rfl, rfl, rfl⟩),
   ⟨fun i i0 i1 k hk2 => ?_, fun i i0 i1 k k2 h1 h2 he => ?_⟩, fun q q0 q1 => ?_,
   w.P.cg (by rw [ne 0 (by decide)]) (by rw [ne 30 (by decide)]) (ne 9 (by decide)) (ne 10 (by decide)) (ne 11 (by decide)) (ne 12 (by decide)) (ne 13 (by decide)) (ne 14 (by decide)) (ne 34 (by decide)) (ne 8 (by decide)) (ne 35 (by decide)) (by rw [ne 1 (by decide)]; omega)⟩
  · rw [ne 9 (by decide)] at i1
    rw [ne 15 (by decide)] at hk2
    rw [ne 9 (by decide), ne 10 (by decide), ek, e38]
    obtain ⟨m0, m1, m2, m3, m4⟩ := w.R.g i i0 i1
    by_cases hi : i = a
    · subst hi
      rw [ka k hk2]
      by_cases k0 : k = 0
      · subst k0
        rw [if_pos rfl, if_pos (by omega)]
        exact ⟨by omega, rfl, ha⟩
      · have x0 : ¬ 200 * i + (k : Int) = 200 * i := by omega
        rw [if_neg k0, if_neg x0]
        by_cases kj : k ≤ j
        · obtain ⟨c1, c2, c3⟩ := w.C.c i i0 i1 (k - 1) (by omega)
          rw [if_pos kj, if_pos (by omega), show 200 * i + (k : Int) - 1 = 200 * i + ((k - 1 : Nat) : Int) by omega]
          exact ⟨c1, c2, c3⟩
        · rw [if_neg kj, if_neg (by omega)]
          exact w.C.c i i0 i1 k hk2
    · rw [kid_other w.C ha0 hj hk hi ⟨i0, i1⟩ k hk2, if_neg (by omega), if_neg (by omega)]
      exact w.C.c i i0 i1 k hk2
  · rw [ne 9 (by decide)] at i1
    rw [ne 15 (by decide)] at h1 h2
    rw [ek, ek] at he
    by_cases hi : i = a
    · subst hi
      rw [ka k h1, ka k2 h2] at he
      have key : ∀ m : Nat, (m : Int) < h 15 i → ∃ m2 : Nat, (m2 : Int) < h 15 i ∧ (if m = 0 then p else if m ≤ j then kid h i (m - 1) else kid h i m) = kid h i m2 ∧ m2 = (if m = 0 then j else if m ≤ j then m - 1 else m) := fun m hm => by
        by_cases m0 : m = 0
        · exact ⟨j, hj, by rw [if_pos m0, hk], by rw [if_pos m0]⟩
        · by_cases mj : m ≤ j
          · exact ⟨m - 1, by omega, by rw [if_neg m0, if_pos mj], by rw [if_neg m0, if_pos mj]⟩
          · exact ⟨m, hm, by rw [if_neg m0, if_neg mj], by rw [if_neg m0, if_neg mj]⟩
      obtain ⟨m1, a1, a2, a3⟩ := key k h1
      obtain ⟨m2, b1, b2, b3⟩ := key k2 h2
      rw [a2, b2] at he
      have em := w.C.d i i0 i1 m1 m2 a1 b1 he
      rw [a3, b3] at em
      by_cases k0 : k = 0
      · rw [if_pos k0] at em
        by_cases k20 : k2 = 0
        · omega
        · rw [if_neg k20] at em
          by_cases kj : k2 ≤ j
          · rw [if_pos kj] at em; omega
          · rw [if_neg kj] at em; omega
      · rw [if_neg k0] at em
        by_cases k20 : k2 = 0
        · rw [if_pos k20] at em
          by_cases kj : k ≤ j
          · rw [if_pos kj] at em; omega
          · rw [if_neg kj] at em; omega
        · rw [if_neg k20] at em
          by_cases kj : k ≤ j
          · rw [if_pos kj] at em
            by_cases kj2 : k2 ≤ j
            · rw [if_pos kj2] at em; omega
            · rw [if_neg kj2] at em; omega
          · rw [if_neg kj] at em
            by_cases kj2 : k2 ≤ j
            · rw [if_pos kj2] at em; omega
            · rw [if_neg kj2] at em; omega
    · rw [kid_other w.C ha0 hj hk hi ⟨i0, i1⟩ k h1, kid_other w.C ha0 hj hk hi ⟨i0, i1⟩ k2 h2] at he
      exact w.C.d i i0 i1 k k2 h1 h2 he
  · rw [ne 9 (by decide)] at q1
    obtain ⟨a1, m, a2, a3⟩ := w.A q q0 q1
    rw [ne 10 (by decide), ne 15 (by decide)]
    refine ⟨a1, ?_⟩
    by_cases hi : h 10 q = a
    · rw [hi] at a2 a3 ⊢
      rcases (show m = j ∨ m < j ∨ j < m by omega) with e | e | e
      · exact ⟨0, by omega, by rw [ek, ka 0 (by omega), if_pos rfl, ← hk, ← e, a3]⟩
      · exact ⟨m + 1, by omega, by rw [ek, ka (m + 1) (by omega), if_neg (by omega), if_pos (by omega), show m + 1 - 1 = m by omega, a3]⟩
      · exact ⟨m, a2, by rw [ek, ka m a2, if_neg (by omega), if_neg (by omega), a3]⟩
    · exact ⟨m, a2, by rw [ek, kid_other w.C ha0 hj hk hi ⟨a1.1, by omega⟩ m a2, a3]⟩
theorem qc_16 {p : Int} {h : HS} (hp : zr p) (w : Psi h) : ∃ o, fL_c16 p h = some o ∧ Psi o := by
  have eg : fL_c16 p h = gC (fL_promote p h) (fX6_promote p) := rfl
  have n := w.R.n
  have n2 := w.R.n2
  rw [eg]
  unfold fL_promote fX5_promote fX5_promote_b15
  rw [pX4_has hp n, wr_of hp.1 hp.2, Option.bind_some]
  have z8 : ∀ H : HS, H 30 8 = h 9 8 → hs H 30 0 0 30 8 = h 9 8 := fun H e => by rw [hs_at, if_pos rfl, if_neg (by decide), e]
  by_cases h1 : 1 ≤ p ∧ p < h 9 8
  · obtain ⟨⟨b1, b2⟩, j, b3, b4⟩ := w.A p h1.1 h1.2
    obtain ⟨a, ea⟩ : ∃ a, a = h 10 p := ⟨_, rfl⟩
    rw [← ea] at b1 b2 b3 b4
    have ha0 : 0 ≤ a ∧ a < h 9 8 := by omega
    obtain ⟨g0, g1, g2, g3, g4⟩ := w.R.g a ha0.1 ha0.2
    rw [if_pos (show 0 ≤ p ∧ p < h 9 8 by omega), if_neg (show ¬ wr 1 = 0 by decide), if_neg (show ¬ p = 0 by omega), pX4_makeMain w.R w.C h1 ea.symm ha0 b3 b4, Option.bind_some, Option.bind_some, if_pos rfl]
    obtain ⟨H, eH⟩ : ∃ H, H = hs (hs (nProm p a j h) 50 0 (wr (j : Int))) 30 0 0 := ⟨_, rfl⟩
    have Hne : ∀ c : Nat, c ≠ 30 → c ≠ 50 → c ≠ 16 → c ≠ 17 → H c = h c := fun c c1 c2 c3 c4 => by rw [eH, hs_ne _ _ _ c1, hs_ne _ _ _ c2, nProm_ne c3 c4]
    have hk : fX6_promote p (hs (nProm p a j h) 50 0 (wr (j : Int))) = some ((j : Int), prom38 p a j H) := by
      unfold fX6_promote
      rw [← eH]
      have e8 : H 30 8 = h 9 8 := by rw [eH, hs_at, if_pos rfl, if_neg (by decide), hs_ne _ _ _ (by decide), nProm_ne (by decide) (by decide), n2]
      rw [e8, pX6_isIn hp (by unfold zr; omega) (by unfold zr; omega), Option.bind_some, if_pos (show 1 ≤ p ∧ p ≤ h 9 8 - 1 by omega), if_neg (show ¬ wr 1 = 0 by decide), (pX6_get w (g := H) (Hne 37 (by decide) (by decide) (by decide) (by decide)) (q := p) (by omega)).1, Option.bind_some, ← ea]
      have e := pX6_prL (p := p) (a := a) (h := H) (by omega) (by omega) (j := j) (by omega) (fun k hk => by
        obtain ⟨c1, c2, c3⟩ := w.C.c a ha0.1 ha0.2 k (by omega)
        rw [Hne 38 (by decide) (by decide) (by decide) (by decide), c2]
        refine ⟨by omega, fun e => w.C.d a ha0.1 ha0.2 k j (by omega) b3 (by rw [e, b4]), fun e => by rw [e, b4]⟩) zF 0 (Nat.zero_le _) (by unfold zF; omega)
      exact e
    refine ⟨_, gC_ok hk (by show zr (j : Int); unfold zr; omega) rfl (by rw [prom38_ne (by decide), eH, hs_self]) (by rw [prom38_ne (by decide), eH, hs_ne _ _ _ (by decide), hs_self]), ?_⟩
    refine (prom_psi w h1 ea.symm ha0 b3 b4).sq (fun c b hn => ?_)
    have c50 : c ≠ 50 := fun k => hn (Or.inl (by omega))
    by_cases c38 : c = 38
    · subst c38
      rw [prom38_at, prom38_at, eH, hs_ne _ _ _ (by decide), hs_ne _ _ _ (by decide)]
    · rw [prom38_ne c38, prom38_ne c38, eH]
      by_cases c30 : c = 30
      · subst c30
        rw [hs_at, if_pos rfl, if_neg (fun k => hn (Or.inr (Or.inr ⟨rfl, Or.inl k⟩))), hs_ne _ _ _ (by decide)]
      · rw [hs_ne _ _ _ c30, hs_ne _ _ _ c50]
  · have e7 : fX6_promote p h = some (0, hs (hs h 30 0 0) 30 0 1) := by
      unfold fX6_promote fX6_fail
      rw [z8 h n2, pX6_isIn hp (by unfold zr; omega) (by unfold zr; omega), Option.bind_some, if_neg (show ¬ (1 ≤ p ∧ p ≤ h 9 8 - 1) by omega), if_pos wr_0]
      rfl
    have e5 : (if wr (if 0 ≤ p ∧ p < h 9 8 then 1 else 0) = 0 then some ((1, 0, h) : Int × Int × HS) else if p = 0 then some (1, 0, h) else (fX4_makeMain p h).bind fun r2 => some (0, r2.1, r2.2)) = some (1, 0, h) := by
      by_cases h2 : 0 ≤ p ∧ p < h 9 8
      · rw [if_pos h2, if_neg (show ¬ wr 1 = 0 by decide), if_pos (by omega)]
      · rw [if_neg h2, if_pos wr_0]
    rw [e5, Option.bind_some, if_neg (show ¬ (1 : Int) = 0 by decide), if_pos rfl]
    exact ⟨_, gC_thr (k := fX6_promote p) e7 ⟨by unfold zr; omega, by decide⟩ (by simp [hs_at]), w.sq ((zsq.rf.h30 _).h30 _)⟩
end ZPROM
end
section
section ZSUMS
/-! sums -/
def sg (p : Nat → Nat) : Nat → Nat
  | 0 => 0
  | n + 1 => sg p n + p n
theorem sg_cg {p q : Nat → Nat} : ∀ {n : Nat}, (∀ i, i < n → p i = q i) → sg p n = sg q n
  | 0, _ => rfl
  | n + 1, h => by
    show sg p n + p n = sg q n + q n
    rw [sg_cg (fun i hi => h i (by omega)), h n (by omega)]
theorem sg_add {p q : Nat → Nat} : ∀ n : Nat, sg (fun i => p i + q i) n = sg p n + sg q n
  | 0 => rfl
  | n + 1 => by
    show sg _ n + (p n + q n) = sg p n + p n + (sg q n + q n)
    rw [sg_add n]
    omega
theorem sg_0 {p : Nat → Nat} {n : Nat} (h : ∀ i, i < n → p i = 0) : sg p n = 0 := by
  induction n with
  | zero => rfl
  | succ n ih =>
    show sg p n + p n = 0
    rw [ih (fun i hi => h i (by omega)), h n (by omega)]
theorem sg_swap {f : Nat → Nat → Nat} {m : Nat} : ∀ n : Nat, sg (fun i => sg (f i) m) n = sg (fun j => sg (fun i => f i j) n) m
  | 0 => (sg_0 (fun i _ => rfl)).symm
  | n + 1 => by
    show sg (fun i => sg (f i) m) n + sg (f n) m = _
    rw [sg_swap n, ← sg_add]
    rfl
theorem sg_uq {p : Nat → Nat} {n a : Nat} (ha : a < n) (h1 : p a = 1) (h0 : ∀ i, i < n → i ≠ a → p i = 0) : sg p n = 1 := by
  induction n with
  | zero => omega
  | succ n ih =>
    show sg p n + p n = 1
    by_cases e : a = n
    · subst e
      rw [sg_0 (fun i hi => h0 i (by omega) (by omega)), h1]
    · rw [ih (by omega) (fun i hi hn => h0 i (by omega) hn), h0 n (by omega) (fun k => e k.symm)]
theorem sg_1 {p : Nat → Nat} {n : Nat} (h : ∀ i, i < n → p i = 1) : sg p n = n := by
  induction n with
  | zero => rfl
  | succ n ih =>
    show sg p n + p n = n + 1
    rw [ih (fun i hi => h i (by omega)), h n (by omega)]
theorem sg_le {p : Nat → Nat} {n : Nat} (h : ∀ i, i < n → p i ≤ 1) : sg p n ≤ n := by
  induction n with
  | zero => exact Nat.le_refl _
  | succ n ih =>
    show sg p n + p n ≤ n + 1
    have := ih (fun i hi => h i (by omega))
    have := h n (by omega)
    omega
/-! each node but 0 is the child of one node -/
def chC (h : HS) (i : Nat) : Nat := (h 15 i).toNat
theorem kid_uq {h : HS} (w : Psi h) {i : Nat} (hi : (i : Int) < h 9 8) {p : Nat} (hp : (p : Int) < h 9 8) : sg (fun k => if kid h i k = (p : Int) then 1 else 0) (chC h i) = if 1 ≤ p ∧ h 10 p = (i : Int) then 1 else 0 := by
  have c0 := (w.R.g (i : Int) (by omega) hi).2.2.2.2
  unfold chC
  by_cases h1 : 1 ≤ p ∧ h 10 p = (i : Int)
  · obtain ⟨a1, j, a2, a3⟩ := w.A (p : Int) (by omega) hp
    rw [h1.2] at a2 a3
    rw [if_pos h1]
    refine sg_uq (a := j) (by omega) (by rw [if_pos a3]) (fun k hk hn => ?_)
    rw [if_neg]
    exact fun e => hn (w.C.d (i : Int) (by omega) hi k j (by omega) a2 (by rw [e, a3]))
  · rw [if_neg h1]
    refine sg_0 (fun k hk => ?_)
    rw [if_neg]
    intro e
    obtain ⟨b1, b2, b3⟩ := w.C.c (i : Int) (by omega) hi k (by omega)
    rw [e] at b1 b3
    exact h1 ⟨by omega, b3⟩
theorem chC_sum {h : HS} (w : Psi h) {i : Nat} (hi : (i : Int) < h 9 8) : sg (fun p => if 1 ≤ p ∧ h 10 (p : Int) = (i : Int) then 1 else 0) (h 9 8).toNat = chC h i := by
  have c0 := (w.R.g (i : Int) (by omega) hi).2.2.2.2
  rw [sg_cg (q := fun p => sg (fun k => if kid h i k = (p : Int) then 1 else 0) (chC h i)) (fun p hp => (kid_uq w hi (by omega)).symm), sg_swap]
  refine sg_1 (fun k hk => ?_)
  unfold chC at hk
  obtain ⟨b1, b2, b3⟩ := w.C.c (i : Int) (by omega) hi k (by omega)
  refine sg_uq (a := (kid h i k).toNat) (by omega) (by rw [if_pos (by omega)]) (fun p hp hn => by rw [if_neg (by omega)])
theorem all_kids {h : HS} (w : Psi h) : sg (chC h) (h 9 8).toNat = (h 9 8).toNat - 1 := by
  have n := w.R.n
  rw [sg_cg (q := fun i : Nat => sg (fun p : Nat => if 1 ≤ p ∧ h 10 (p : Int) = (i : Int) then 1 else 0) (h 9 8).toNat) (fun i hi => (chC_sum w (by omega)).symm), sg_swap]
  rw [sg_cg (q := fun p : Nat => if 1 ≤ p then 1 else 0) (fun p hp => ?_)]
  · obtain ⟨m, hm⟩ : ∃ m, (h 9 8).toNat = m + 1 := ⟨(h 9 8).toNat - 1, by omega⟩
    rw [hm]
    have key : ∀ m : Nat, sg (fun p : Nat => if 1 ≤ p then 1 else 0) (m + 1) = m := fun m => by
      induction m with
      | zero => rfl
      | succ m ih =>
        show sg _ (m + 1) + (if 1 ≤ m + 1 then 1 else 0) = m + 1
        rw [ih, if_pos (by omega)]
    rw [key]
    omega
  · by_cases h1 : 1 ≤ p
    · obtain ⟨a1, j, a2, a3⟩ := w.A (p : Int) (by omega) (by omega)
      rw [if_pos h1]
      refine sg_uq (a := (h 10 (p : Int)).toNat) (by omega) (by rw [if_pos ⟨h1, by omega⟩]) (fun i hi hn => by rw [if_neg (by omega)])
    · rw [if_neg h1]
      exact sg_0 (fun i hi => by rw [if_neg (fun e => h1 e.1)])
/-! branching -/
def par (h : HS) (i : Nat) : Nat := if 0 < chC h i then 1 else 0
theorem par_le {h : HS} (j : Nat) : sg (par h) j ≤ j := sg_le (fun i _ => by unfold par; split <;> omega)
theorem brC {h : HS} (w : Psi h) : ∀ (nf j : Nat), (j : Int) ≤ h 9 8 → (h 9 8).toNat - j < nf → fX5_branching_L4 nf ((sg (par h) j : Nat) : Int) (j : Int) h = some (if sg (par h) (h 9 8).toNat = 0 then (0, 0, 0) else (1, h 9 8 - 1, ((sg (par h) (h 9 8).toNat : Nat) : Int)))
  | 0, j, h1, h2 => by omega
  | nf + 1, j, h1, h2 => by
    have n := w.R.n
    have pj := par_le (h := h) j
    rw [fX5_branching_L4]
    unfold fX5_branching_b29 fX4_size
    rw [Option.bind_some, Option.bind_some, wr_of (z := h 9 8) (by omega) (by omega), wr_of (z := (j : Int)) (by omega) (by omega), wr_of (z := ((sg (par h) j : Nat) : Int)) (by omega) (by omega)]
    by_cases hj : h 9 8 ≤ (j : Int)
    · have e : (h 9 8).toNat = j := by omega
      rw [if_pos hj, e]
      by_cases h0 : sg (par h) j = 0
      · rw [if_pos (by omega), if_pos h0]
      · rw [if_neg (by omega), if_neg h0]
    · have c0 := (w.R.g (j : Int) (by omega) (by omega)).2.2.2.2
      have ih := brC w nf (j + 1) (by omega) (by omega)
      have es : sg (par h) (j + 1) = sg (par h) j + par h j := rfl
      rw [es] at ih
      unfold par chC at ih
      rw [if_neg hj, pX4_count w.R ⟨by omega, by omega⟩, Option.bind_some, wr_of (z := h 15 (j : Int)) (by omega) (by omega)]
      by_cases hc : h 15 (j : Int) ≤ 0
      · rw [if_pos hc]
        rw [if_neg (by omega), Nat.add_zero] at ih
        rw [show (j : Int) + 1 = ((j + 1 : Nat) : Int) by omega]
        exact ih
      · rw [if_neg hc]
        rw [if_pos (by omega), Int.natCast_add] at ih
        rw [show (j : Int) + 1 = ((j + 1 : Nat) : Int) by omega]
        exact ih
theorem brM {h g : HS} (w : Psi h) (e8 : g 30 8 = h 9 8) (e37 : g 37 = h 37) : ∀ (nf j : Nat), (j : Int) ≤ h 9 8 → (h 9 8).toNat - j < nf → fX6_branching_L11 nf ((sg (chC h) j : Nat) : Int) ((sg (par h) j : Nat) : Int) (j : Int) g = some (if sg (par h) (h 9 8).toNat = 0 then (0, 0, 0) else (1, ((sg (chC h) (h 9 8).toNat : Nat) : Int), ((sg (par h) (h 9 8).toNat : Nat) : Int)), g)
  | 0, j, h1, h2 => by omega
  | nf + 1, j, h1, h2 => by
    have n := w.R.n
    have pj := par_le (h := h) j
    rw [fX6_branching_L11]
    unfold fX6_branching_b43
    rw [e8, wr_of (z := h 9 8) (by omega) (by omega), wr_of (z := (j : Int)) (by omega) (by omega), wr_of (z := ((sg (par h) j : Nat) : Int)) (by omega) (by omega)]
    by_cases hj : h 9 8 ≤ (j : Int)
    · have e : (h 9 8).toNat = j := by omega
      rw [if_pos hj, e]
      by_cases h0 : sg (par h) j = 0
      · rw [if_pos (by omega), if_pos h0]
      · rw [if_neg (by omega), if_neg h0]
    · have c0 := (w.R.g (j : Int) (by omega) (by omega)).2.2.2.2
      have ih := brM w e8 e37 nf (j + 1) (by omega) (by omega)
      have es : sg (par h) (j + 1) = sg (par h) j + par h j := rfl
      have ec : sg (chC h) (j + 1) = sg (chC h) j + chC h j := rfl
      have ek : ((chC h j : Nat) : Int) = h 15 (j : Int) := by unfold chC; omega
      rw [es, ec, Int.natCast_add (sg (chC h) j), ek] at ih
      have ep : par h j = if 0 < h 15 (j : Int) then 1 else 0 := by
        unfold par chC
        by_cases hc : 0 < h 15 (j : Int)
        · rw [if_pos hc, if_pos (by omega)]
        · rw [if_neg hc, if_neg (by omega)]
      rw [ep] at ih
      rw [if_neg hj, (pX6_get w e37 (q := (j : Int)) ⟨by omega, by omega⟩).2.2.2.2, Option.bind_some, Option.bind_some, wr_of (z := h 15 (j : Int)) (by omega) (by omega), show (j : Int) + 1 = ((j + 1 : Nat) : Int) by omega]
      by_cases hc : h 15 (j : Int) ≤ 0
      · rw [if_pos hc]
        rw [if_neg (by omega), Nat.add_zero] at ih
        rw [Int.add_zero]
        exact ih
      · rw [if_neg hc]
        rw [if_pos (by omega), Int.natCast_add] at ih
        exact ih
theorem qc_20 {h : HS} (w : Psi h) : ∃ o, fL_c20 h = some o ∧ Psi o := by
  have n := w.R.n
  have e1 := brC w zF 0 (by omega) (by unfold zF; omega)
  have e2 := brM w (g := hs h 30 0 0) (by rw [hs_at, if_pos rfl, if_neg (by decide), w.R.n2]) (by rw [hs_ne _ _ _ (by decide)]) zF 0 (by omega) (by unfold zF; omega)
  rw [all_kids w, show (((h 9 8).toNat - 1 : Nat) : Int) = h 9 8 - 1 by omega] at e2
  have f1 : fX5_branching h = _ := e1
  have f2 : fX6_branching h = _ := e2
  unfold fL_c20
  rw [f1, Option.bind_some, f2, Option.bind_some]
  exact ⟨_, if_pos ⟨rfl, rfl, rfl⟩, w.sq (zsq.rf.h30 0)⟩
end ZSUMS
end
section
section ZDIG
/-! the checksum -/
def dgF (f : Nat → Int) : Nat → Nat → Int64 → Int64
  | 0, _, d => d
  | n + 1, j, d => dgF f n (j + 1) (d * (31 : Int64) + (iI (f j)).toInt64)
theorem dgF_cg {f g : Nat → Int} : ∀ {n j : Nat} {d : Int64}, (∀ i, j ≤ i → i < j + n → f i = g i) → dgF f n j d = dgF g n j d
  | 0, _, _, _ => rfl
  | n + 1, j, d, e => by
    show dgF f n (j + 1) _ = dgF g n (j + 1) _
    rw [e j (by omega) (by omega), dgF_cg (fun i h1 h2 => e i (by omega) (by omega))]
theorem dgF_st {f : Nat → Int} {N j : Nat} {d : Int64} (h : j < N) : dgF f (N - j) j d = dgF f (N - (j + 1)) (j + 1) (d * (31 : Int64) + (iI (f j)).toInt64) := by
  rw [show N - j = (N - (j + 1)) + 1 by omega]
  rfl
theorem dgF_en {f : Nat → Int} {N j : Nat} {d : Int64} (h : N ≤ j) : dgF f (N - j) j d = d := by
  rw [show N - j = 0 by omega]
  rfl
def dgN (h : HS) (i : Nat) (d : Int64) : Int64 := dgF (fun k => kid h (i : Int) k) (chC h i) 0 (dgF (fun x => ndV (i : Int) (x : Int) h) 5 0 d)
def dgM (h : HS) : Nat → Nat → Int64 → Int64
  | 0, _, d => d
  | n + 1, i, d => dgM h n (i + 1) (dgN h i d)
def dgAll (h : HS) : Int64 := dgF (fun k => h 20 (k : Int)) (h 19 1).toNat 0 (dgM h (h 9 8).toNat 0 (dgF (fun s => h 8 (s : Int)) 64 0 (dgF (fun p => stV h (p : Int)) 7 0 353)))
/-! the class -/
theorem dgC_tape {h : HS} (w : Psi h) : ∀ (nf j : Nat) (d : Int64), (j : Int) ≤ h 19 1 → (h 19 1).toNat - j < nf → fX5_digest_L89 nf d (j : Int) h = some (dgF (fun k => h 20 (k : Int)) ((h 19 1).toNat - j) j d, h)
  | 0, j, d, h1, h2 => by omega
  | nf + 1, j, d, h1, h2 => by
    have n := w.T.n
    rw [fX5_digest_L89]
    unfold fX3_size fX3_get
    rw [Option.bind_some, wr_of (z := h 19 1) (by omega) (by omega), wr_of (z := (j : Int)) (by omega) (by omega)]
    by_cases hj : h 19 1 ≤ (j : Int)
    · rw [if_pos hj, dgF_en (by omega)]
    · rw [if_neg hj, if_neg (show ¬ (j : Int) < 0 by omega), if_neg hj, if_pos (by omega), Option.bind_some, show (j : Int) + 1 = ((j + 1 : Nat) : Int) by omega, dgC_tape w nf (j + 1) _ (by omega) (by omega), dgF_st (j := j) (by omega)]
theorem dgC_kids {h : HS} (w : Psi h) {i : Nat} (hi : (i : Int) < h 9 8) : ∀ (nf j : Nat) (d : Int64), j ≤ chC h i → chC h i - j < nf → fX5_digestNode_L41 nf (i : Int) d (j : Int) h = some (dgF (fun k => kid h (i : Int) k) (chC h i - j) j d)
  | 0, j, d, h1, h2 => by omega
  | nf + 1, j, d, h1, h2 => by
    have c0 := (w.R.g (i : Int) (by omega) hi).2.2.2.2
    have ec : ((chC h i : Nat) : Int) = h 15 (i : Int) := by unfold chC; omega
    rw [fX5_digestNode_L41]
    rw [pX4_count w.R ⟨by omega, hi⟩, Option.bind_some, wr_of (z := h 15 (i : Int)) (by omega) (by omega), wr_of (z := (j : Int)) (by omega) (by omega)]
    by_cases hj : h 15 (i : Int) ≤ (j : Int)
    · rw [if_pos hj, dgF_en (by omega)]
    · rw [if_neg hj, pX4_child w.R w.C ⟨by omega, hi⟩ ⟨by omega, by omega⟩, Option.bind_some, show (j : Int) + 1 = ((j + 1 : Nat) : Int) by omega, dgC_kids w hi nf (j + 1) _ (by omega) (by omega), dgF_st (j := j) (by omega), Int.toNat_natCast]
theorem pX4_fact {h : HS} (w : Psi h) {i : Int} (hi : 0 ≤ i ∧ i < h 9 8) {x : Int} (hx : 0 ≤ x ∧ x ≤ 4) : fX4_fact i x h = some (ndV i x h) := by
  have n := w.R.n
  unfold fX4_fact fX4_above fX4_from fX4_to fX4_depth fX4_childCount ndV
  rw [pX4_row (by unfold zr; omega) n hi, pX4_row (by unfold zr; omega) n hi, pX4_row (by unfold zr; omega) n hi, pX4_row (by unfold zr; omega) n hi, pX4_row (by unfold zr; omega) n hi, wr_of (z := x) (by omega) (by omega)]
  by_cases k0 : x = 0
  · rw [if_pos k0, if_pos k0]; rfl
  · rw [if_neg k0, if_neg k0]
    by_cases k1 : x = 1
    · rw [if_pos k1, if_pos k1]; rfl
    · rw [if_neg k1, if_neg k1]
      by_cases k2 : x = 2
      · rw [if_pos k2, if_pos k2]; rfl
      · rw [if_neg k2, if_neg k2]
        by_cases k3 : x = 3
        · rw [if_pos k3, if_pos k3]; rfl
        · rw [if_neg k3, if_neg k3]; rfl
theorem dgC_fact {h : HS} (w : Psi h) {i : Nat} (hi : (i : Int) < h 9 8) : ∀ (nf j : Nat) (d : Int64), j ≤ 5 → 5 - j < nf → fX5_digestNode_L6 nf (i : Int) d (j : Int) h = some (dgF (fun k => kid h (i : Int) k) (chC h i) 0 (dgF (fun x => ndV (i : Int) (x : Int) h) (5 - j) j d))
  | 0, j, d, h1, h2 => by omega
  | nf + 1, j, d, h1, h2 => by
    have c0 := (w.R.g (i : Int) (by omega) hi).2.2.2.2
    rw [fX5_digestNode_L6]
    rw [wr_of (z := (j : Int)) (by omega) (by omega)]
    by_cases hj : (5 : Int) ≤ (j : Int)
    · rw [if_pos hj, dgF_en (by omega)]
      exact dgC_kids w hi zF 0 d (Nat.zero_le _) (by unfold zF chC; omega)
    · rw [if_neg hj, pX4_fact w ⟨by omega, hi⟩ (by omega), Option.bind_some, show (j : Int) + 1 = ((j + 1 : Nat) : Int) by omega, dgC_fact w hi nf (j + 1) _ (by omega) (by omega), dgF_st (j := j) (by omega)]
theorem dgC_nodes {h : HS} (w : Psi h) : ∀ (nf j : Nat) (d : Int64), (j : Int) ≤ h 9 8 → (h 9 8).toNat - j < nf → fX5_digest_L63 nf d (j : Int) h = some (dgF (fun k => h 20 (k : Int)) (h 19 1).toNat 0 (dgM h ((h 9 8).toNat - j) j d), h)
  | 0, j, d, h1, h2 => by omega
  | nf + 1, j, d, h1, h2 => by
    have n := w.R.n
    have n2 := w.T.n
    rw [fX5_digest_L63]
    unfold fX4_size fX5_digestNode
    rw [Option.bind_some, wr_of (z := h 9 8) (by omega) (by omega), wr_of (z := (j : Int)) (by omega) (by omega)]
    by_cases hj : h 9 8 ≤ (j : Int)
    · rw [if_pos hj, show (h 9 8).toNat - j = 0 by omega]
      exact dgC_tape w zF 0 d (by omega) (by unfold zF; omega)
    · have e := dgC_fact w (i := j) (by omega) zF 0 d (by omega) (by unfold zF; omega)
      have e2 : fX5_digestNode_L6 zF (j : Int) d 0 h = some (dgN h j d) := e
      rw [if_neg hj, e2, Option.bind_some, show (j : Int) + 1 = ((j + 1 : Nat) : Int) by omega, dgC_nodes w nf (j + 1) _ (by omega) (by omega), show (h 9 8).toNat - j = ((h 9 8).toNat - (j + 1)) + 1 by omega]
      rfl
theorem dgC_sq {h : HS} (w : Psi h) : ∀ (nf j : Nat) (d : Int64), j ≤ 64 → 64 - j < nf → fX5_digest_L33 nf d (j : Int) h = some (dgF (fun k => h 20 (k : Int)) (h 19 1).toNat 0 (dgM h (h 9 8).toNat 0 (dgF (fun s => h 8 (s : Int)) (64 - j) j d)), h)
  | 0, j, d, h1, h2 => by omega
  | nf + 1, j, d, h1, h2 => by
    have n := w.R.n
    rw [fX5_digest_L33]
    rw [wr_of (z := (j : Int)) (by omega) (by omega)]
    by_cases hj : (64 : Int) ≤ (j : Int)
    · rw [if_pos hj, dgF_en (by omega)]
      exact dgC_nodes w zF 0 d (by omega) (by unfold zF; omega)
    · rw [if_neg hj, cX0_piece ⟨by omega, by omega⟩, Option.bind_some, show (j : Int) + 1 = ((j + 1 : Nat) : Int) by omega, dgC_sq w nf (j + 1) _ (by omega) (by omega), dgF_st (j := j) (by omega)]
theorem dgC_st {h : HS} (w : Psi h) : ∀ (nf j : Nat) (d : Int64), j ≤ 7 → 7 - j < nf → fX5_digest_L6 nf d (j : Int) h = some (dgF (fun k => h 20 (k : Int)) (h 19 1).toNat 0 (dgM h (h 9 8).toNat 0 (dgF (fun s => h 8 (s : Int)) 64 0 (dgF (fun p => stV h (p : Int)) (7 - j) j d))), h)
  | 0, j, d, h1, h2 => by omega
  | nf + 1, j, d, h1, h2 => by
    rw [fX5_digest_L6]
    rw [wr_of (z := (j : Int)) (by omega) (by omega)]
    by_cases hj : (7 : Int) ≤ (j : Int)
    · rw [if_pos hj, dgF_en (by omega)]
      exact dgC_sq w zF 0 d (by omega) (by unfold zF; omega)
    · rw [if_neg hj, pX5_state_x w (by omega), Option.bind_some, show (j : Int) + 1 = ((j + 1 : Nat) : Int) by omega, dgC_st w nf (j + 1) _ (by omega) (by omega), dgF_st (j := j) (by omega)]
/-! the reference -/
theorem dgR_tape {h : HS} (w : Psi h) : ∀ (nf j : Nat) (d : Int64) (g : HS), zsq g h → (j : Int) ≤ h 19 1 → (h 19 1).toNat - j < nf → fX6_digest_L147 nf d (j : Int) g = some (dgF (fun k => h 20 (k : Int)) ((h 19 1).toNat - j) j d, g)
  | 0, j, d, g, e, h1, h2 => by omega
  | nf + 1, j, d, g, e, h1, h2 => by
    have n := w.T.n
    rw [fX6_digest_L147]
    rw [e.c30 (by decide), w.T.n2, wr_of (z := h 19 1) (by omega) (by omega), wr_of (z := (j : Int)) (by omega) (by omega)]
    by_cases hj : h 19 1 ≤ (j : Int)
    · rw [if_pos hj, dgF_en (by omega)]
    · rw [if_neg hj, if_pos (by omega), e.c (a := 39) (by decide), (w.T.by_ (j : Int) (by omega) (by omega)).1, show (j : Int) + 1 = ((j + 1 : Nat) : Int) by omega, dgR_tape w nf (j + 1) _ g e (by omega) (by omega), dgF_st (j := j) (by omega)]
theorem pX6_cont0 {h g : HS} (w : Psi h) (e : g 38 = h 38) {i : Int} (hi : 0 ≤ i ∧ i < h 9 8) {j : Nat} (hj : (j : Int) < h 15 i) : fX6_continuation0 i (j : Int) g = some (kid h i j) := by
  have n := w.R.n
  have c0 := (w.R.g i hi.1 hi.2).2.2.2.2
  unfold fX6_continuation0
  rw [if_pos (by omega), e, (w.C.c i hi.1 hi.2 j hj).2.1]
theorem dgR_kids {h : HS} (w : Psi h) (k66 : Int64 → Int → HS → Option (Int64 × HS)) {i : Nat} (hi : (i : Int) < h 9 8) : ∀ (nf j : Nat) (d : Int64) (g : HS), zsq g h → j ≤ chC h i → chC h i - j < nf → fX6_digest_L107 k66 nf d (i : Int) (j : Int) g = k66 (dgF (fun k => kid h (i : Int) k) (chC h i - j) j d) ((i : Int) + 1) g
  | 0, j, d, g, e, h1, h2 => by omega
  | nf + 1, j, d, g, e, h1, h2 => by
    have c0 := (w.R.g (i : Int) (by omega) hi).2.2.2.2
    have ec : ((chC h i : Nat) : Int) = h 15 (i : Int) := by unfold chC; omega
    rw [fX6_digest_L107]
    rw [(pX6_get w (e.c (a := 37) (by decide)) (q := (i : Int)) ⟨by omega, hi⟩).2.2.2.2, Option.bind_some, wr_of (z := h 15 (i : Int)) (by omega) (by omega), wr_of (z := (j : Int)) (by omega) (by omega)]
    by_cases hj : h 15 (i : Int) ≤ (j : Int)
    · rw [if_pos hj, dgF_en (by omega)]
    · rw [if_neg hj, pX6_cont0 w (e.c (a := 38) (by decide)) ⟨by omega, hi⟩ (by omega), Option.bind_some, show (j : Int) + 1 = ((j + 1 : Nat) : Int) by omega, dgR_kids w k66 hi nf (j + 1) _ g e (by omega) (by omega), dgF_st (j := j) (by omega)]
theorem dgR_fact {h : HS} (w : Psi h) (k66 : Int64 → Int → HS → Option (Int64 × HS)) {i : Nat} (hi : (i : Int) < h 9 8) : ∀ (nf j : Nat) (d : Int64) (g : HS), zsq g h → j ≤ 5 → 5 - j < nf → fX6_digest_L77 k66 nf d (i : Int) (j : Int) g = k66 (dgF (fun k => kid h (i : Int) k) (chC h i) 0 (dgF (fun x => ndV (i : Int) (x : Int) h) (5 - j) j d)) ((i : Int) + 1) g
  | 0, j, d, g, e, h1, h2 => by omega
  | nf + 1, j, d, g, e, h1, h2 => by
    have n := w.R.n
    have c0 := (w.R.g (i : Int) (by omega) hi).2.2.2.2
    rw [fX6_digest_L77]
    rw [wr_of (z := (j : Int)) (by omega) (by omega)]
    by_cases hj : (5 : Int) ≤ (j : Int)
    · rw [if_pos hj, dgF_en (by omega)]
      exact dgR_kids w k66 hi zF 0 d g e (Nat.zero_le _) (by unfold zF chC; omega)
    · have eg : fX6_get (i : Int) (j : Int) g = some (ndV (i : Int) (j : Int) h) := by
        unfold fX6_get
        rw [if_pos (by omega), e.c (a := 37) (by decide), (ndV_eq w.R ⟨by omega, hi⟩ (by omega)).1]
      rw [if_neg hj, eg, Option.bind_some, show (j : Int) + 1 = ((j + 1 : Nat) : Int) by omega, dgR_fact w k66 hi nf (j + 1) _ g e (by omega) (by omega), dgF_st (j := j) (by omega)]
theorem dgR_nodes {h : HS} (w : Psi h) : ∀ (nf j : Nat) (d : Int64) (g : HS), zsq g h → (j : Int) ≤ h 9 8 → (h 9 8).toNat - j < nf → fX6_digest_L66 nf d (j : Int) g = some (dgF (fun k => h 20 (k : Int)) (h 19 1).toNat 0 (dgM h ((h 9 8).toNat - j) j d), g)
  | 0, j, d, g, e, h1, h2 => by omega
  | nf + 1, j, d, g, e, h1, h2 => by
    have n := w.R.n
    have n2 := w.T.n
    rw [fX6_digest_L66]
    rw [e.c30 (by decide), w.R.n2, wr_of (z := h 9 8) (by omega) (by omega), wr_of (z := (j : Int)) (by omega) (by omega)]
    by_cases hj : h 9 8 ≤ (j : Int)
    · rw [if_pos hj, show (h 9 8).toNat - j = 0 by omega]
      exact dgR_tape w zF 0 d g e (by omega) (by unfold zF; omega)
    · have e1 := dgR_fact w (fun a0 a1 hh => fX6_digest_L66 nf a0 a1 hh) (i := j) (by omega) zF 0 d g e (by omega) (by unfold zF; omega)
      have e2 : fX6_digest_L77 (fun a0 a1 hh => fX6_digest_L66 nf a0 a1 hh) zF d (j : Int) 0 g = fX6_digest_L66 nf (dgN h j d) ((j : Int) + 1) g := e1
      rw [if_neg hj, e2, show (j : Int) + 1 = ((j + 1 : Nat) : Int) by omega, dgR_nodes w nf (j + 1) _ g e (by omega) (by omega), show (h 9 8).toNat - j = ((h 9 8).toNat - (j + 1)) + 1 by omega]
      rfl
theorem dgR_sq {h : HS} (w : Psi h) : ∀ (nf j : Nat) (d : Int64) (g : HS), zsq g h → j ≤ 64 → 64 - j < nf → fX6_digest_L38 nf d (j : Int) g = some (dgF (fun k => h 20 (k : Int)) (h 19 1).toNat 0 (dgM h (h 9 8).toNat 0 (dgF (fun s => h 8 (s : Int)) (64 - j) j d)), g)
  | 0, j, d, g, e, h1, h2 => by omega
  | nf + 1, j, d, g, e, h1, h2 => by
    have n := w.R.n
    rw [fX6_digest_L38]
    rw [wr_of (z := (j : Int)) (by omega) (by omega)]
    by_cases hj : (64 : Int) ≤ (j : Int)
    · rw [if_pos hj, dgF_en (by omega)]
      exact dgR_nodes w zF 0 d g e (by omega) (by unfold zF; omega)
    · rw [if_neg hj, if_pos (by omega), e.c (a := 35) (by decide), (w.B.sq (j : Int) (by omega) (by omega)).1, show (j : Int) + 1 = ((j + 1 : Nat) : Int) by omega, dgR_sq w nf (j + 1) _ g e (by omega) (by omega), dgF_st (j := j) (by omega)]
theorem dgR_st {h : HS} (w : Psi h) : ∀ (nf j : Nat) (d : Int64) (g : HS), zsq g h → j ≤ 7 → 7 - j < nf → ∃ g2, fX6_digest_L11 nf d (j : Int) g = some (dgF (fun k => h 20 (k : Int)) (h 19 1).toNat 0 (dgM h (h 9 8).toNat 0 (dgF (fun s => h 8 (s : Int)) 64 0 (dgF (fun p => stV h (p : Int)) (7 - j) j d))), g2) ∧ zsq g2 h
  | 0, j, d, g, e, h1, h2 => by omega
  | nf + 1, j, d, g, e, h1, h2 => by
    rw [fX6_digest_L11]
    rw [wr_of (z := (j : Int)) (by omega) (by omega)]
    by_cases hj : (7 : Int) ≤ (j : Int)
    · rw [if_pos hj, dgF_en (by omega)]
      exact ⟨g, dgR_sq w zF 0 d g e (by omega) (by unfold zF; omega), e⟩
    · obtain ⟨g2, e2, f2⟩ := pX6_told w e (p := (j : Int)) (by omega)
      rw [if_neg hj, e2, Option.bind_some, show (j : Int) + 1 = ((j + 1 : Nat) : Int) by omega, dgF_st (j := j) (by omega)]
      exact dgR_st w nf (j + 1) _ g2 (f2.sq.tr e) (by omega) (by omega)
theorem qc_21 {h : HS} (w : Psi h) : ∃ o, fL_c21 h = some o ∧ Psi o := by
  have e1 := dgC_st w zF 0 353 (by omega) (by unfold zF; omega)
  obtain ⟨g2, e2, f2⟩ := dgR_st w zF 0 353 (hs h 30 0 0) (zsq.rf.h30 0) (by omega) (by unfold zF; omega)
  have f3 : fX5_digest h = _ := e1
  have f4 : fX6_digest h = _ := e2
  unfold fL_c21
  rw [f3, Option.bind_some, f4, Option.bind_some]
  exact ⟨g2, if_pos (zcmp_0.mpr rfl), w.sq f2⟩
end ZDIG
end
section
section ZGROW
/-! a new node below the present one, on both sides -/
theorem sg_ge {p : Nat → Nat} {n i : Nat} (hi : i < n) : p i ≤ sg p n := by
  induction n with
  | zero => omega
  | succ n ih =>
    show p i ≤ sg p n + p n
    rcases (show i = n ∨ i < n by omega) with e | e
    · rw [e]; omega
    · have := ih e; omega
theorem dp_le {h : HS} (w : Psi h) : ∀ (m : Nat) (p : Int), p ≤ m → 0 ≤ p → p < h 9 8 → h 14 p ≤ p
  | 0, p, e, p0, p1 => by
    obtain rfl : p = 0 := by omega
    rw [w.P.z.2.2.2]
    omega
  | m + 1, p, e, p0, p1 => by
    rcases (show p = 0 ∨ 1 ≤ p by omega) with k | k
    · subst k
      rw [w.P.z.2.2.2]
      omega
    · obtain ⟨a1, a2, -⟩ := w.P.t p k p1
      have ih := dp_le w m (h 10 p) (by omega) a1.1 (by omega)
      omega
def grA (f t : Int) (h : HS) : HS := fun a =>
  if a = 9 then (fun k => if k = 8 then h 9 8 + 1 else h 9 k)
  else if a = 10 then (fun i => if i = h 9 8 then h 0 8 else h 10 i)
  else if a = 11 then (fun i => if i = h 9 8 then f else h 11 i)
  else if a = 12 then (fun i => if i = h 9 8 then t else h 12 i)
  else if a = 13 then (fun i => if i = h 9 8 then h 8 t else h 13 i)
  else if a = 14 then (fun i => if i = h 9 8 then h 14 (h 0 8) + 1 else h 14 i)
  else if a = 15 then (fun i => if i = h 9 8 then 0 else if i = h 0 8 then h 15 (h 0 8) + 1 else h 15 i)
  else if a = 16 then (fun i => if i = h 9 8 then -1 else if i = h 0 8 ∧ h 15 (h 0 8) = 0 then h 9 8 else h 16 i)
  else if a = 17 then (fun i => if i = h 9 8 then -1 else if h 15 (h 0 8) ≠ 0 ∧ i = kid h (h 0 8) ((h 15 (h 0 8)).toNat - 1) then h 9 8 else h 17 i)
  else if a = 30 then (fun k => if k = 8 then h 9 8 + 1 else h 30 k)
  else if a = 37 then (fun x => if x = 5 * h 9 8 then h 0 8 else if x = 5 * h 9 8 + 1 then f else if x = 5 * h 9 8 + 2 then t else if x = 5 * h 9 8 + 3 then h 14 (h 0 8) + 1 else if x = 5 * h 9 8 + 4 then 0 else if x = 5 * h 0 8 + 4 then h 15 (h 0 8) + 1 else h 37 x)
  else if a = 38 then (fun x => if x = 200 * h 0 8 + h 15 (h 0 8) then h 9 8 else h 38 x)
  else h a
theorem grA_ne {f t : Int} {h : HS} {a : Nat} (hn : ¬ (a = 9 ∨ a = 10 ∨ a = 11 ∨ a = 12 ∨ a = 13 ∨ a = 14 ∨ a = 15 ∨ a = 16 ∨ a = 17 ∨ a = 30 ∨ a = 37 ∨ a = 38)) : grA f t h a = h a := by
  unfold grA
  rw [if_neg (by omega), if_neg (by omega), if_neg (by omega), if_neg (by omega), if_neg (by omega), if_neg (by omega), if_neg (by omega), if_neg (by omega), if_neg (by omega), if_neg (by omega), if_neg (by omega), if_neg (by omega)]
theorem grA_9 {f t : Int} {h : HS} : grA f t h 9 8 = h 9 8 + 1 := rfl
theorem grA_10 {f t : Int} {h : HS} (i : Int) : grA f t h 10 i = if i = h 9 8 then h 0 8 else h 10 i := rfl
theorem grA_11 {f t : Int} {h : HS} (i : Int) : grA f t h 11 i = if i = h 9 8 then f else h 11 i := rfl
theorem grA_12 {f t : Int} {h : HS} (i : Int) : grA f t h 12 i = if i = h 9 8 then t else h 12 i := rfl
theorem grA_13 {f t : Int} {h : HS} (i : Int) : grA f t h 13 i = if i = h 9 8 then h 8 t else h 13 i := rfl
theorem grA_14 {f t : Int} {h : HS} (i : Int) : grA f t h 14 i = if i = h 9 8 then h 14 (h 0 8) + 1 else h 14 i := rfl
theorem grA_15 {f t : Int} {h : HS} (i : Int) : grA f t h 15 i = if i = h 9 8 then 0 else if i = h 0 8 then h 15 (h 0 8) + 1 else h 15 i := rfl
theorem grA_16 {f t : Int} {h : HS} (i : Int) : grA f t h 16 i = if i = h 9 8 then -1 else if i = h 0 8 ∧ h 15 (h 0 8) = 0 then h 9 8 else h 16 i := rfl
theorem grA_17 {f t : Int} {h : HS} (i : Int) : grA f t h 17 i = if i = h 9 8 then -1 else if h 15 (h 0 8) ≠ 0 ∧ i = kid h (h 0 8) ((h 15 (h 0 8)).toNat - 1) then h 9 8 else h 17 i := rfl
theorem grA_30 {f t : Int} {h : HS} (k : Int) : grA f t h 30 k = if k = 8 then h 9 8 + 1 else h 30 k := rfl
theorem grA_37 {f t : Int} {h : HS} (x : Int) : grA f t h 37 x = if x = 5 * h 9 8 then h 0 8 else if x = 5 * h 9 8 + 1 then f else if x = 5 * h 9 8 + 2 then t else if x = 5 * h 9 8 + 3 then h 14 (h 0 8) + 1 else if x = 5 * h 9 8 + 4 then 0 else if x = 5 * h 0 8 + 4 then h 15 (h 0 8) + 1 else h 37 x := rfl
theorem grA_38 {f t : Int} {h : HS} (x : Int) : grA f t h 38 x = if x = 200 * h 0 8 + h 15 (h 0 8) then h 9 8 else h 38 x := rfl
theorem kid_grO {f t : Int} {h : HS} (w : Psi h) {i : Int} (hi : i ≠ h 0 8) (hi0 : 0 ≤ i ∧ i < h 9 8) : ∀ k : Nat, (k : Int) < h 15 i → kid (grA f t h) i k = kid h i k
  | 0, hk => by
    show grA f t h 16 i = h 16 i
    rw [grA_16, if_neg (by omega), if_neg (fun e => hi e.1)]
  | k + 1, hk => by
    have n := w.P.n.1
    have c0 := (w.R.g (h 0 8) n.1 n.2).2.2.2.2
    obtain ⟨b1, b2, b3⟩ := w.C.c i hi0.1 hi0.2 k (by omega)
    show grA f t h 17 (kid (grA f t h) i k) = h 17 (kid h i k)
    rw [kid_grO w hi hi0 k (by omega), grA_17, if_neg (by omega), if_neg]
    rintro ⟨e1, e2⟩
    obtain ⟨d1, d2, d3⟩ := w.C.c (h 0 8) n.1 n.2 ((h 15 (h 0 8)).toNat - 1) (by omega)
    rw [← e2, b3] at d3
    exact hi d3
theorem kid_grP {f t : Int} {h : HS} (w : Psi h) : ∀ k : Nat, (k : Int) ≤ h 15 (h 0 8) → kid (grA f t h) (h 0 8) k = if (k : Int) = h 15 (h 0 8) then h 9 8 else kid h (h 0 8) k
  | 0, hk => by
    have n := w.P.n.1
    show grA f t h 16 (h 0 8) = _
    rw [grA_16, if_neg (by omega)]
    by_cases e : h 15 (h 0 8) = 0
    · rw [if_pos ⟨rfl, e⟩, if_pos (by omega)]
    · rw [if_neg (fun k => e k.2), if_neg (by omega)]
      rfl
  | k + 1, hk => by
    have n := w.P.n.1
    obtain ⟨b1, b2, b3⟩ := w.C.c (h 0 8) n.1 n.2 k (by omega)
    show grA f t h 17 (kid (grA f t h) (h 0 8) k) = _
    rw [kid_grP w k (by omega), if_neg (by omega), grA_17, if_neg (by omega)]
    by_cases e : ((k + 1 : Nat) : Int) = h 15 (h 0 8)
    · rw [if_pos ⟨by omega, by rw [show (h 15 (h 0 8)).toNat - 1 = k by omega]⟩, if_pos e]
    · rw [if_neg, if_neg e]
      · rfl
      · rintro ⟨e1, e2⟩
        have := w.C.d (h 0 8) n.1 n.2 k ((h 15 (h 0 8)).toNat - 1) (by omega) (by omega) e2
        omega
theorem bd_gr {f t : Int} {h : HS} (w : PsiC h) {p : Int} (p0 : 0 ≤ p) (p1 : p < h 9 8) : bd (grA f t h) p = bd h p := by
  have dp := w.P.dp w.R p p0 p1
  unfold bd
  rw [grA_14, if_neg (by omega), grA_ne (a := 34) (by decide)]
  refine bdn_cg (dp := h 14) (N := h 9 8) (fun q q0 q1 => ?_) (fun q q0 q1 => ?_) w.P.z.2.2.2 _ p p0 p1 (by omega)
  · rw [grA_10, grA_11, grA_12, if_neg (by omega), if_neg (by omega), if_neg (by omega)]
    exact ⟨rfl, rfl, rfl⟩
  · obtain ⟨a1, a2, -⟩ := w.P.t q q0 q1
    exact ⟨a2, a1⟩
theorem bd_grN {f t : Int} {h : HS} (w : PsiC h) : bd (grA f t h) (h 9 8) = mv (bd h (h 0 8)) f t := by
  have n := w.P.n
  have dp := w.P.dp w.R (h 0 8) n.1 n.2
  have e10 : grA f t h 10 (h 9 8) = h 0 8 := by rw [grA_10, if_pos rfl]
  rw [bd_s (by rw [e10, grA_14, if_pos rfl, grA_14, if_neg (by omega)]) (by rw [e10, grA_14, if_neg (by omega)]; exact dp.1), e10, bd_gr w n.1 n.2, grA_11, grA_12, if_pos rfl, if_pos rfl]
theorem grA_psi {f t : Int} {h : HS} (w : Psi h) (hN : h 9 8 < 200) (hf : 0 ≤ f ∧ f < 64) (ht : 0 ≤ t ∧ t < 64) (hb : 0 ≤ h 8 f) : Psi (grA f t h) := by
  have n := w.P.n.1
  have n1 := w.R.n
  have dp := w.P.dp w.R (h 0 8) n.1 n.2
  have dl := dp_le w (h 0 8).toNat (h 0 8) (by omega) n.1 n.2
  have c0 := (w.R.g (h 0 8) n.1 n.2).2.2.2.2
  have cl : h 15 (h 0 8) ≤ h 9 8 - 1 := by
    have e := sg_ge (p := chC h) (n := (h 9 8).toNat) (i := (h 0 8).toNat) (by omega)
    rw [all_kids w] at e
    unfold chC at e
    rw [Int.toNat_of_nonneg n.1] at e
    omega
  have kO : ∀ i : Int, 0 ≤ i → i < h 9 8 → ∀ k : Nat, (k : Int) < grA f t h 15 i → ((0 < kid (grA f t h) i k ∧ kid (grA f t h) i k < h 9 8 + 1) ∧ grA f t h 38 (200 * i + k) = kid (grA f t h) i k ∧ grA f t h 10 (kid (grA f t h) i k) = i) ∧ ((i = h 0 8 ∧ (k : Int) = h 15 (h 0 8) ∧ kid (grA f t h) i k = h 9 8) ∨ ((k : Int) < h 15 i ∧ kid (grA f t h) i k = kid h i k ∧ kid h i k < h 9 8)) := by
    intro i i0 i1 k hk
    have ci := (w.R.g i i0 i1).2.2.2.2
    rw [grA_15, if_neg (by omega)] at hk
    by_cases hi : i = h 0 8
    · rw [if_pos hi] at hk
      subst hi
      rw [kid_grP w k (by omega), grA_38]
      by_cases e : (k : Int) = h 15 (h 0 8)
      · rw [if_pos e, if_pos (by omega), grA_10, if_pos rfl]
        exact ⟨⟨by omega, rfl, rfl⟩, Or.inl ⟨rfl, e, rfl⟩⟩
      · obtain ⟨b1, b2, b3⟩ := w.C.c (h 0 8) n.1 n.2 k (by omega)
        rw [if_neg e, if_neg (by omega), grA_10, if_neg (by omega)]
        exact ⟨⟨by omega, b2, b3⟩, Or.inr ⟨by omega, rfl, b1.2⟩⟩
    · rw [if_neg hi] at hk
      obtain ⟨b1, b2, b3⟩ := w.C.c i i0 i1 k hk
      rw [kid_grO w hi ⟨i0, i1⟩ k hk, grA_38, if_neg (by omega), grA_10, if_neg (by omega)]
      exact ⟨⟨by omega, b2, b3⟩, Or.inr ⟨hk, rfl, b1.2⟩⟩
  refine ⟨w.T.cg (by rw [grA_ne (by decide)]) (by rw [grA_30, if_neg (by decide)]) (fun i => by rw [grA_ne (by decide)]) (fun i => by rw [grA_ne (by decide)]),
   w.E.cg (fun b b0 b1 => by rw [grA_ne (by decide)]) (fun b b0 b1 => by rw [grA_30, if_neg (by omega)]),
   w.B.cg (by rw [grA_ne (by decide)]) (by rw [grA_30, if_neg (by decide)]) (fun i => by rw [grA_ne (by decide)]) (fun i => by rw [grA_ne (by decide)]),
   w.K.cg (by rw [grA_ne (by decide)]) (by rw [grA_30, if_neg (by decide)]) (fun i => by rw [grA_ne (by decide)]) (fun i => by rw [grA_ne (by decide)]),
   w.S.cg (fun i => by rw [grA_ne (by decide)]) (fun i => by rw [grA_ne (by decide)]) (fun i => by rw [grA_ne (by decide)]) (fun i => by rw [grA_ne (by decide)]) (fun i => by rw [grA_ne (by decide)]) (fun i => by rw [grA_ne (by decide)]),
   ⟨by rw [grA_9]; omega, by rw [grA_9, grA_30, if_pos rfl], fun i i0 i1 => ?_, fun i i0 i1 => ?_⟩,
   ⟨fun i i0 i1 k hk => ?_, fun i i0 i1 k k2 h1 h2 he => ?_⟩, fun q q0 q1 => ?_,
   ⟨by rw [grA_9, grA_ne (a := 0) (by decide), grA_30, if_neg (by decide), w.P.n.2]; omega, by rw [grA_10, grA_11, grA_12, grA_14, if_neg (by omega), if_neg (by omega), if_neg (by omega), if_neg (by omega)]; exact w.P.z, fun q q0 q1 => ?_, fun s s0 s1 => by rw [grA_ne (a := 0) (by decide), bd_gr w.cc n.1 n.2, grA_ne (a := 8) (by decide), grA_ne (a := 35) (by decide)]; exact w.P.b s s0 s1, fun s s0 s1 => by rw [grA_ne (a := 34) (by decide), grA_ne (a := 1) (by decide)]; exact w.P.f s s0 s1⟩⟩
  · rw [grA_9] at i1
    rw [grA_10, grA_11, grA_12, grA_14, grA_15]
    by_cases e : i = h 9 8
    · subst e
      rw [if_pos rfl, if_pos rfl, if_pos rfl, if_pos rfl, if_pos rfl, grA_37, grA_37, grA_37, grA_37, grA_37]
      refine ⟨if_pos rfl, ?_, ?_, ?_, ?_⟩
      · rw [if_neg (by omega), if_pos rfl]
      · rw [if_neg (by omega), if_neg (by omega), if_pos rfl]
      · rw [if_neg (by omega), if_neg (by omega), if_neg (by omega), if_pos rfl]
      · rw [if_neg (by omega), if_neg (by omega), if_neg (by omega), if_neg (by omega), if_pos rfl]
    · obtain ⟨f0, f1, f2, f3, f4⟩ := w.R.f i i0 (by omega)
      rw [if_neg e, if_neg e, if_neg e, if_neg e, if_neg e]
      have a : ∀ x : Int, x < 5 * h 9 8 → x ≠ 5 * h 0 8 + 4 → grA f t h 37 x = h 37 x := fun x x1 x2 => by
        rw [grA_37, if_neg (by omega), if_neg (by omega), if_neg (by omega), if_neg (by omega), if_neg (by omega), if_neg x2]
      rw [a _ (by omega) (by omega), a _ (by omega) (by omega), a _ (by omega) (by omega), a _ (by omega) (by omega)]
      refine ⟨f0, f1, f2, f3, ?_⟩
      by_cases e2 : i = h 0 8
      · rw [if_pos e2, e2, grA_37, if_neg (by omega), if_neg (by omega), if_neg (by omega), if_neg (by omega), if_neg (by omega), if_pos rfl]
      · rw [if_neg e2, a _ (by omega) (by omega)]
        exact f4
  · rw [grA_9] at i1
    rw [grA_10, grA_11, grA_12, grA_14, grA_15]
    by_cases e : i = h 9 8
    · rw [if_pos e, if_pos e, if_pos e, if_pos e, if_pos e]
      omega
    · have g := w.R.g i i0 (by omega)
      rw [if_neg e, if_neg e, if_neg e, if_neg e, if_neg e]
      refine ⟨g.1, g.2.1, g.2.2.1, g.2.2.2.1, ?_⟩
      by_cases e2 : i = h 0 8
      · rw [if_pos e2]; omega
      · rw [if_neg e2]; exact g.2.2.2.2
  · rw [grA_9] at i1 ⊢
    by_cases e : i = h 9 8
    · rw [grA_15, if_pos e] at hk; omega
    · exact (kO i i0 (by omega) k hk).1
  · rw [grA_9] at i1
    by_cases e : i = h 9 8
    · rw [grA_15, if_pos e] at h1; omega
    · have a := (kO i i0 (by omega) k h1).2
      have b := (kO i i0 (by omega) k2 h2).2
      rcases a with ⟨a1, a2, a3⟩ | ⟨a1, a2, a3⟩
      · rcases b with ⟨b1, b2, b3⟩ | ⟨b1, b2, b3⟩
        · omega
        · rw [a3, b2] at he; omega
      · rcases b with ⟨b1, b2, b3⟩ | ⟨b1, b2, b3⟩
        · rw [a2, b3] at he; omega
        · rw [a2, b2] at he
          exact w.C.d i i0 (by omega) k k2 a1 b1 he
  · rw [grA_9] at q1
    rw [grA_10]
    by_cases e : q = h 9 8
    · rw [if_pos e]
      refine ⟨by omega, (h 15 (h 0 8)).toNat, ?_, ?_⟩
      · rw [grA_15, if_neg (by omega), if_pos rfl]; omega
      · rw [kid_grP w _ (by omega), if_pos (by omega), e]
    · obtain ⟨a1, j, a2, a3⟩ := w.A q q0 (by omega)
      rw [if_neg e]
      refine ⟨a1, j, ?_, ?_⟩
      · rw [grA_15, if_neg (by omega)]
        by_cases e2 : h 10 q = h 0 8
        · rw [if_pos e2]; rw [e2] at a2; omega
        · rw [if_neg e2]; exact a2
      · by_cases e2 : h 10 q = h 0 8
        · rw [e2] at a2 a3 ⊢
          rw [kid_grP w j (by omega), if_neg (by omega)]
          exact a3
        · rw [kid_grO w e2 ⟨a1.1, by omega⟩ j a2]
          exact a3
  · rw [grA_9] at q1
    by_cases e : q = h 9 8
    · have e10 : grA f t h 10 q = h 0 8 := by rw [grA_10, if_pos e]
      rw [e10, bd_gr w.cc n.1 n.2, grA_14, if_pos e, grA_14, if_neg (by omega), grA_11, if_pos e, grA_12, if_pos e, grA_13, if_pos e]
      have b1 := (w.P.b f hf.1 hf.2).1
      have b2 := (w.P.b t ht.1 ht.2).1
      exact ⟨by omega, rfl, hf, ht, by rw [← b1]; exact hb, b2⟩
    · obtain ⟨a1, a2, a3, a4, a5, a6⟩ := w.P.t q q0 (by omega)
      have e10 : grA f t h 10 q = h 10 q := by rw [grA_10, if_neg e]
      rw [e10, bd_gr w.cc a1.1 (by omega), grA_14, if_neg e, grA_14, if_neg (by omega), grA_11, if_neg e, grA_12, if_neg e, grA_13, if_neg e]
      exact ⟨a1, a2, a3, a4, a5, a6⟩
end ZGROW
end
section
section ZFOLL
/-! a move is followed: to its node, a new one if need be -/
theorem pX4_childC {p x : Int} {h : HS} (w : PsiC h) (h1 : 0 ≤ p ∧ p < h 9 8) (h2 : 0 ≤ x ∧ x < h 15 p) : fX4_child p x h = some (kid h p x.toNat) := by
  obtain ⟨g0, g1, g2, g3, g4⟩ := w.R.g p h1.1 h1.2
  have n := w.R.n
  unfold fX4_child
  rw [pX4_has (by unfold zr; omega) n, if_pos h1, Option.bind_some, if_neg (show ¬ wr 1 = 0 by decide), wr_of (z := x) (by omega) (by omega), if_neg (by omega), if_pos (by omega), wr_of (z := h 15 p) (by omega) (by omega), if_pos h2.2, if_pos (by omega)]
  have e := pX4_childL (h := h) (i := p) (K := x.toNat) n (by omega) (fun j hj => by
    obtain ⟨⟨a, b⟩, -⟩ := w.C.c p h1.1 h1.2 j (by omega)
    exact ⟨by omega, b⟩) zF 0 (Nat.zero_le _) (by unfold zF; omega)
  rw [Int.toNat_of_nonneg h2.1] at e
  exact e
theorem pX4_childN {p x : Int} {h : HS} (w : PsiC h) (h1 : 0 ≤ p ∧ p < h 9 8) (hx : zr x) (h2 : x < 0 ∨ h 15 p ≤ x) : fX4_child p x h = some (-1) := by
  obtain ⟨g0, g1, g2, g3, g4⟩ := w.R.g p h1.1 h1.2
  have n := w.R.n
  unfold fX4_child
  rw [pX4_has (by unfold zr; omega) n, if_pos h1, Option.bind_some, if_neg (show ¬ wr 1 = 0 by decide), wr_of hx.1 hx.2]
  by_cases hx0 : x < 0
  · rw [if_pos hx0]
  · rw [if_neg hx0, if_pos (show 0 ≤ p ∧ p < 200 by omega), wr_of (z := h 15 p) (by omega) (by omega), if_neg (by omega)]
theorem pX4_countC {p : Int} {h : HS} (w : PsiC h) (h1 : 0 ≤ p ∧ p < h 9 8) : fX4_childCount p h = some (h 15 p) := by
  have n := w.R.n
  unfold fX4_childCount
  exact pX4_row (by unfold zr; omega) n h1
def knF (h : HS) (i f t : Int) : Nat → Nat → Int
  | 0, _ => -1
  | m + 1, k => if h 11 (kid h i k) = f ∧ h 12 (kid h i k) = t then kid h i k else knF h i f t m (k + 1)
def knV (h : HS) (f t : Int) : Int := knF h (h 0 8) f t (h 15 (h 0 8)).toNat 0
theorem knF_rg {h : HS} {i f t : Int} : ∀ (m k : Nat), knF h i f t m k = -1 ∨ ∃ j, k ≤ j ∧ j < k + m ∧ knF h i f t m k = kid h i j ∧ h 11 (kid h i j) = f ∧ h 12 (kid h i j) = t
  | 0, k => Or.inl rfl
  | m + 1, k => by
    unfold knF
    by_cases e : h 11 (kid h i k) = f ∧ h 12 (kid h i k) = t
    · rw [if_pos e]
      exact Or.inr ⟨k, by omega, by omega, rfl, e⟩
    · rw [if_neg e]
      rcases knF_rg (h := h) (i := i) (f := f) (t := t) m (k + 1) with e2 | ⟨j, j1, j2, j3⟩
      · exact Or.inl e2
      · exact Or.inr ⟨j, by omega, by omega, j3⟩
theorem knV_rg {h : HS} (w : PsiC h) {f t : Int} (hk : ¬ knV h f t = -1) : (1 ≤ knV h f t ∧ knV h f t < h 9 8) ∧ h 10 (knV h f t) = h 0 8 ∧ h 11 (knV h f t) = f ∧ h 12 (knV h f t) = t := by
  have n := w.P.n
  rcases knF_rg (h := h) (i := h 0 8) (f := f) (t := t) (h 15 (h 0 8)).toNat 0 with e | ⟨j, j1, j2, j3, j4, j5⟩
  · exact absurd e hk
  · obtain ⟨b1, b2⟩ := w.C.c (h 0 8) n.1 n.2 j (by omega)
    unfold knV
    rw [j3]
    exact ⟨⟨by omega, b1.2⟩, b2, j4, j5⟩
theorem knL {h : HS} (w : PsiC h) {i f t : Int} (hi : 0 ≤ i ∧ i < h 9 8) (hf : 0 ≤ f ∧ f < 64) (ht : 0 ≤ t ∧ t < 64) : ∀ (nf k : Nat) (x : Int), (k : Int) ≤ h 15 i → ((k : Int) < h 15 i → x = kid h i k) → (h 15 i).toNat - k < nf → fX4_childOfMove_L11 nf i f t x (k : Int) h = some (knF h i f t ((h 15 i).toNat - k) k)
  | 0, k, x, h1, h2, h3 => by omega
  | nf + 1, k, x, h1, h2, h3 => by
    have c0 := (w.R.g i hi.1 hi.2).2.2.2.2
    have n := w.R.n
    rw [fX4_childOfMove_L11]
    unfold fX4_childOfMove_b55
    rw [pX4_countC w hi, Option.bind_some, wr_of (z := h 15 i) (by omega) (by omega), wr_of (z := (k : Int)) (by omega) (by omega)]
    by_cases hk : h 15 i ≤ (k : Int)
    · rw [if_pos hk, show (h 15 i).toNat - k = 0 by omega]
      rfl
    · obtain ⟨b1, b2⟩ := w.C.c i hi.1 hi.2 k (by omega)
      have g := w.R.g (kid h i k) (by omega) b1.2
      have ex := h2 (by omega)
      subst ex
      have hx2 : 0 ≤ kid h i k ∧ kid h i k < 200 := by omega
      rw [if_neg hk, pX4_has (by unfold zr; omega) n, if_pos (show 0 ≤ kid h i k ∧ kid h i k < h 9 8 by omega), Option.bind_some, if_neg (show ¬ wr 1 = 0 by decide), if_pos hx2, wr_of (z := h 11 (kid h i k)) (by omega) (by omega), wr_of (z := f) (by omega) (by omega), wr_of (z := h 12 (kid h i k)) (by omega) (by omega), wr_of (z := t) (by omega) (by omega), show (h 15 i).toNat - k = ((h 15 i).toNat - (k + 1)) + 1 by omega]
      have ih := knL w hi hf ht nf (k + 1) (h 17 (kid h i k)) (by omega) (fun _ => rfl) (by omega)
      rw [show (k : Int) + 1 = ((k + 1 : Nat) : Int) by omega]
      simp only [if_pos hx2, ih]
      show _ = some (if h 11 (kid h i k) = f ∧ h 12 (kid h i k) = t then kid h i k else knF h i f t ((h 15 i).toNat - (k + 1)) (k + 1))
      by_cases e1 : h 11 (kid h i k) = f
      · by_cases e2 : h 12 (kid h i k) = t
        · rw [if_pos e1, if_pos e2, if_pos ⟨e1, e2⟩]
        · rw [if_pos e1, if_neg e2, if_neg (fun e => e2 e.2)]
      · rw [if_neg e1, if_neg (fun e => e1 e.1)]
theorem knC {h : HS} (w : PsiC h) {f t : Int} (hf : 0 ≤ f ∧ f < 64) (ht : 0 ≤ t ∧ t < 64) : fX4_childOfMove (h 0 8) f t h = some (knV h f t) := by
  have n := w.P.n
  have c0 := (w.R.g (h 0 8) n.1 n.2).2.2.2.2
  unfold fX4_childOfMove
  by_cases hc : h 15 (h 0 8) = 0
  · rw [pX4_childN w n (by unfold zr; omega) (by omega), Option.bind_some]
    exact knL w n hf ht zF 0 (-1) (by omega) (fun e => by omega) (by unfold zF; omega)
  · rw [pX4_childC w n (by omega), Option.bind_some]
    exact knL w n hf ht zF 0 _ (by omega) (fun e => rfl) (by unfold zF; omega)
theorem knRL {h g : HS} (w : Psi h) (e : zqm g h) {f t : Int} (hf : 0 ≤ f ∧ f < 64) (ht : 0 ≤ t ∧ t < 64) : ∀ (nf k : Nat), (k : Int) ≤ h 15 (h 0 8) → (h 15 (h 0 8)).toNat - k < nf → fX6_known_L2 nf f t (k : Int) g = some (knF h (h 0 8) f t ((h 15 (h 0 8)).toNat - k) k)
  | 0, k, h1, h3 => by omega
  | nf + 1, k, h1, h3 => by
    have n := w.P.n.1
    have c0 := (w.R.g (h 0 8) n.1 n.2).2.2.2.2
    have nn := w.R.n
    have e37 := e.c (a := 37) (by decide)
    rw [fX6_known_L2]
    unfold fX6_known_b51
    rw [e.c30 (b := 9) (by decide), w.P.n.2, (pX6_get w e37 n).2.2.2.2, Option.bind_some, wr_of (z := h 15 (h 0 8)) (by omega) (by omega), wr_of (z := (k : Int)) (by omega) (by omega)]
    by_cases hk : h 15 (h 0 8) ≤ (k : Int)
    · rw [if_pos hk, show (h 15 (h 0 8)).toNat - k = 0 by omega]
      rfl
    · obtain ⟨b1, b2⟩ := w.C.c (h 0 8) n.1 n.2 k (by omega)
      have g2 := w.R.g (kid h (h 0 8) k) (by omega) b1.2
      have pg := pX6_get w e37 (q := kid h (h 0 8) k) ⟨by omega, b1.2⟩
      rw [if_neg hk, pX6_cont0 w (e.c (a := 38) (by decide)) n (by omega), Option.bind_some, pg.2.1, Option.bind_some, pg.2.2.1, wr_of (z := h 11 (kid h (h 0 8) k)) (by omega) (by omega), wr_of (z := f) (by omega) (by omega), Option.bind_some, wr_of (z := h 12 (kid h (h 0 8) k)) (by omega) (by omega), wr_of (z := t) (by omega) (by omega), show (h 15 (h 0 8)).toNat - k = ((h 15 (h 0 8)).toNat - (k + 1)) + 1 by omega]
      have ih := knRL w e hf ht nf (k + 1) (by omega) (by omega)
      rw [show (k : Int) + 1 = ((k + 1 : Nat) : Int) by omega]
      simp only [ih]
      show _ = some (if h 11 (kid h (h 0 8) k) = f ∧ h 12 (kid h (h 0 8) k) = t then kid h (h 0 8) k else knF h (h 0 8) f t ((h 15 (h 0 8)).toNat - (k + 1)) (k + 1))
      by_cases e1 : h 11 (kid h (h 0 8) k) = f
      · by_cases e2 : h 12 (kid h (h 0 8) k) = t
        · rw [if_pos e1, if_pos e2, if_pos ⟨e1, e2⟩]
        · rw [if_pos e1, if_neg e2, if_neg (fun e => e2 e.2)]
      · rw [if_neg e1, if_neg (fun e => e1 e.1)]
theorem knR {h g : HS} (w : Psi h) (e : zqm g h) {f t : Int} (hf : 0 ≤ f ∧ f < 64) (ht : 0 ≤ t ∧ t < 64) : fX6_known f t g = some (knV h f t) := by
  have n := w.P.n.1
  have c0 := (w.R.g (h 0 8) n.1 n.2).2.2.2.2
  exact knRL w e hf ht zF 0 (by omega) (by unfold zF; omega)
/-! the class grows -/
def grG (f t : Int) (h : HS) : HS := fun a => if a = 13 then (fun i => if i = h 9 8 then -1 else h 13 i) else if a < 30 then grA f t h a else h a
theorem growC {h : HS} (w : PsiC h) {f t : Int} (hN : h 9 8 < 200) : fX4_grow (h 0 8) f t h = some (h 9 8, grG f t h) := by
  have n := w.P.n
  have n1 := w.R.n
  have c0 := (w.R.g (h 0 8) n.1 n.2).2.2.2.2
  obtain ⟨last, el⟩ : ∃ last, last = if h 15 (h 0 8) = 0 then (-1 : Int) else kid h (h 0 8) ((h 15 (h 0 8)).toNat - 1) := ⟨_, rfl⟩
  have e3 : fX4_child (h 0 8) (h 15 (h 0 8) - 1) h = some last := by
    by_cases hc : h 15 (h 0 8) = 0
    · rw [el, if_pos hc, pX4_childN w n (by unfold zr; omega) (by omega)]
    · rw [el, if_neg hc, pX4_childC w n (by omega), show (h 15 (h 0 8) - 1).toNat = (h 15 (h 0 8)).toNat - 1 by omega]
  have el2 : h 15 (h 0 8) = 0 ∧ last = -1 ∨ h 15 (h 0 8) ≠ 0 ∧ (0 ≤ last ∧ last < h 9 8) ∧ last = kid h (h 0 8) ((h 15 (h 0 8)).toNat - 1) := by
    by_cases hc : h 15 (h 0 8) = 0
    · rw [el, if_pos hc]; exact Or.inl ⟨hc, rfl⟩
    · obtain ⟨b1, b2⟩ := w.C.c (h 0 8) n.1 n.2 ((h 15 (h 0 8)).toNat - 1) (by omega)
      rw [el, if_neg hc]; exact Or.inr ⟨hc, ⟨by omega, b1.2⟩, rfl⟩
  unfold fX4_grow fX4_grow_b41 fX4_grow_b80
  rw [pX4_countC w n, Option.bind_some, e3, Option.bind_some, pX4_has (by unfold zr; omega) n1, if_pos n, Option.bind_some, if_neg (show ¬ wr 1 = 0 by decide), if_pos (by omega), pX4_occupy (by omega), Option.bind_some]
  obtain ⟨O, eO⟩ : ∃ O, O = occ (h 0 8) f t (h 14 (h 0 8) + 1) h := ⟨_, rfl⟩
  have O9 : O 9 8 = h 9 8 + 1 := by rw [eO]; unfold occ; rw [hs_self]
  have One : ∀ a : Nat, ¬ (a = 9 ∨ a = 10 ∨ a = 11 ∨ a = 12 ∨ a = 13 ∨ a = 14 ∨ a = 15 ∨ a = 16 ∨ a = 17) → O a = h a := fun a hn => by
    rw [eO]
    unfold occ
    rw [hs_ne _ _ _ (by omega), hs_ne _ _ _ (by omega), hs_ne _ _ _ (by omega), hs_ne _ _ _ (by omega), hs_ne _ _ _ (by omega), hs_ne _ _ _ (by omega), hs_ne _ _ _ (by omega), hs_ne _ _ _ (by omega), hs_ne _ _ _ (by omega)]
  have O9b : ∀ b, b ≠ 8 → O 9 b = h 9 b := fun b hb => by rw [eO]; unfold occ; simp [hs_at, hb]
  have O10 : ∀ i, O 10 i = if i = h 9 8 then h 0 8 else h 10 i := fun i => by rw [eO]; unfold occ; simp [hs_at]
  have O11 : ∀ i, O 11 i = if i = h 9 8 then f else h 11 i := fun i => by rw [eO]; unfold occ; simp [hs_at]
  have O12 : ∀ i, O 12 i = if i = h 9 8 then t else h 12 i := fun i => by rw [eO]; unfold occ; simp [hs_at]
  have O13 : ∀ i, O 13 i = if i = h 9 8 then -1 else h 13 i := fun i => by rw [eO]; unfold occ; simp [hs_at]
  have O14 : ∀ i, O 14 i = if i = h 9 8 then h 14 (h 0 8) + 1 else h 14 i := fun i => by rw [eO]; unfold occ; simp [hs_at]
  have O15 : ∀ i, O 15 i = if i = h 9 8 then 0 else h 15 i := fun i => by rw [eO]; unfold occ; simp [hs_at]
  have O16 : ∀ i, O 16 i = if i = h 9 8 then -1 else h 16 i := fun i => by rw [eO]; unfold occ; simp [hs_at]
  have O17 : ∀ i, O 17 i = if i = h 9 8 then -1 else h 17 i := fun i => by rw [eO]; unfold occ; simp [hs_at]
  simp only [← eO]
  rw [wr_of (z := h 9 8) (by omega) (by omega), if_neg (by omega), pX4_has (by unfold zr; omega) (by rw [O9]; omega), O9]
  have hn2 : 0 ≤ h 0 8 ∧ h 0 8 < 200 := by omega
  rcases el2 with ⟨hc, hl⟩ | ⟨hc, hl, hl2⟩
  · rw [hl, if_neg (by omega), Option.bind_some, if_pos wr_0, if_pos hn2, if_pos hn2, if_pos hn2, hs_ne _ _ _ (show (15 : Nat) ≠ 16 by decide), O15, if_neg (by omega)]
    congr 2
    funext a b
    unfold grG
    by_cases h13 : a = 13
    · subst h13
      rw [hs_ne _ _ _ (by decide), hs_ne _ _ _ (by decide), if_pos rfl]
      exact O13 b
    rw [if_neg h13]
    by_cases h30 : a < 30
    · rw [if_pos h30]
      rcases (show a = 9 ∨ a = 10 ∨ a = 11 ∨ a = 12 ∨ a = 14 ∨ a = 15 ∨ a = 16 ∨ a = 17 ∨ ¬ (a = 9 ∨ a = 10 ∨ a = 11 ∨ a = 12 ∨ a = 13 ∨ a = 14 ∨ a = 15 ∨ a = 16 ∨ a = 17) by omega) with e | e | e | e | e | e | e | e | e
      · subst e
        rw [hs_ne _ _ _ (by decide), hs_ne _ _ _ (by decide)]
        show O 9 b = if b = 8 then h 9 8 + 1 else h 9 b
        by_cases hb : b = 8
        · rw [if_pos hb, hb, O9]
        · rw [if_neg hb, O9b b hb]
      · subst e; rw [hs_ne _ _ _ (by decide), hs_ne _ _ _ (by decide), O10, grA_10]
      · subst e; rw [hs_ne _ _ _ (by decide), hs_ne _ _ _ (by decide), O11, grA_11]
      · subst e; rw [hs_ne _ _ _ (by decide), hs_ne _ _ _ (by decide), O12, grA_12]
      · subst e; rw [hs_ne _ _ _ (by decide), hs_ne _ _ _ (by decide), O14, grA_14]
      · subst e
        rw [hs_at, if_pos rfl, hs_ne _ _ _ (by decide), O15, grA_15]
        by_cases e1 : b = h 0 8
        · rw [if_pos e1, if_neg (by omega), if_pos e1]
        · rw [if_neg e1, if_neg e1]
      · subst e
        rw [hs_ne _ _ _ (by decide), hs_at, if_pos rfl, O16, grA_16]
        by_cases e1 : b = h 0 8
        · rw [if_pos e1, if_neg (by omega), if_pos ⟨e1, hc⟩]
        · rw [if_neg e1, if_neg (fun k : b = h 0 8 ∧ h 15 (h 0 8) = 0 => e1 k.1)]
      · subst e
        rw [hs_ne _ _ _ (by decide), hs_ne _ _ _ (by decide), O17, grA_17, if_neg (fun k : h 15 (h 0 8) ≠ 0 ∧ b = _ => k.1 hc)]
      · rw [hs_ne _ _ _ (by omega), hs_ne _ _ _ (by omega), One a e, grA_ne (by omega)]
    · rw [if_neg h30, hs_ne _ _ _ (by omega), hs_ne _ _ _ (by omega), One a (by omega)]
  · rw [if_pos (by omega), Option.bind_some, if_neg (show ¬ wr 1 = 0 by decide), if_pos (by omega), if_pos hn2, if_pos hn2, hs_ne _ _ _ (show (15 : Nat) ≠ 17 by decide), O15, if_neg (by omega)]
    congr 2
    funext a b
    unfold grG
    by_cases h13 : a = 13
    · subst h13
      rw [hs_ne _ _ _ (by decide), hs_ne _ _ _ (by decide), if_pos rfl]
      exact O13 b
    rw [if_neg h13]
    by_cases h30 : a < 30
    · rw [if_pos h30]
      rcases (show a = 9 ∨ a = 10 ∨ a = 11 ∨ a = 12 ∨ a = 14 ∨ a = 15 ∨ a = 16 ∨ a = 17 ∨ ¬ (a = 9 ∨ a = 10 ∨ a = 11 ∨ a = 12 ∨ a = 13 ∨ a = 14 ∨ a = 15 ∨ a = 16 ∨ a = 17) by omega) with e | e | e | e | e | e | e | e | e
      · subst e
        rw [hs_ne _ _ _ (by decide), hs_ne _ _ _ (by decide)]
        show O 9 b = if b = 8 then h 9 8 + 1 else h 9 b
        by_cases hb : b = 8
        · rw [if_pos hb, hb, O9]
        · rw [if_neg hb, O9b b hb]
      · subst e; rw [hs_ne _ _ _ (by decide), hs_ne _ _ _ (by decide), O10, grA_10]
      · subst e; rw [hs_ne _ _ _ (by decide), hs_ne _ _ _ (by decide), O11, grA_11]
      · subst e; rw [hs_ne _ _ _ (by decide), hs_ne _ _ _ (by decide), O12, grA_12]
      · subst e; rw [hs_ne _ _ _ (by decide), hs_ne _ _ _ (by decide), O14, grA_14]
      · subst e
        rw [hs_at, if_pos rfl, hs_ne _ _ _ (by decide), O15, grA_15]
        by_cases e1 : b = h 0 8
        · rw [if_pos e1, if_neg (by omega), if_pos e1]
        · rw [if_neg e1, if_neg e1]
      · subst e
        rw [hs_ne _ _ _ (by decide), hs_ne _ _ _ (by decide), O16, grA_16, if_neg (fun k : b = h 0 8 ∧ h 15 (h 0 8) = 0 => hc k.2)]
      · subst e
        rw [hs_ne _ _ _ (by decide), hs_at, if_pos rfl, O17, grA_17]
        by_cases e1 : b = last
        · rw [if_pos e1, if_neg (by omega), if_pos ⟨hc, by rw [e1, hl2]⟩]
        · rw [if_neg e1, if_neg (fun k : h 15 (h 0 8) ≠ 0 ∧ b = kid h (h 0 8) ((h 15 (h 0 8)).toNat - 1) => e1 (by rw [k.2, hl2]))]
      · rw [hs_ne _ _ _ (by omega), hs_ne _ _ _ (by omega), One a e, grA_ne (by omega)]
    · rw [if_neg h30, hs_ne _ _ _ (by omega), hs_ne _ _ _ (by omega), One a (by omega)]
end ZFOLL
end
section
section ZPLAY
theorem stepDown_gen {H : HS} {p : Int} (hn : 1 ≤ H 9 8 ∧ H 9 8 ≤ 200) (hp : 0 ≤ p ∧ p < H 9 8) (h11 : 0 ≤ H 11 p ∧ H 11 p < 64) (h12 : 0 ≤ H 12 p ∧ H 12 p < 64) : fX5_stepDown p H = some (hs (hs (mvC (H 11 p) (H 12 p) H) 13 p (H 8 (H 12 p))) 0 8 p) := by
  have hz : zr p := by unfold zr; omega
  unfold fX5_stepDown fX4_from fX4_to fX4_keepTaken
  rw [pX4_row hz hn hp, pX4_row hz hn hp, Option.bind_some, Option.bind_some, ucX0_move h11 h12, Option.bind_some]
  have e9 : mvC (H 11 p) (H 12 p) H 9 8 = H 9 8 := by rw [mvC_at (by decide)]
  rw [pX4_has hz (by simp only [e9]; exact hn), if_pos (by simp only [e9]; exact hp), Option.bind_some, if_neg (show ¬ wr 1 = 0 by decide), if_pos (by omega), Option.bind_some]
abbrev mC (X T : HS) (p : Int) (h : HS) : Prop := (∀ (a : Nat) (b : Int), a < 30 → ¬ scr a b → ¬ (a = 8 ∨ (a = 0 ∧ b = 8)) → X a b = T a b) ∧ X 0 8 = p ∧ (∀ s : Int, 0 ≤ s → s < 64 → X 8 s = bd T p s) ∧ (∀ a : Nat, 30 ≤ a → X a = h a)
abbrev mM (Y T : HS) (p : Int) (g : HS) : Prop := (∀ (a : Nat) (b : Int), 30 ≤ a → ¬ scr a b → ¬ (a = 35 ∨ (a = 30 ∧ b = 9)) → Y a b = T a b) ∧ Y 30 9 = p ∧ (∀ s : Int, 0 ≤ s → s < 64 → Y 35 s = bd T p s) ∧ (∀ a : Nat, a < 30 → Y a = g a) ∧ Y 50 = g 50 ∧ Y 30 0 = g 30 0 ∧ Y 42 = g 42
def folT (f t : Int) (h : HS) : HS := if knV h f t = -1 then grA f t h else h
def folP (f t : Int) (h : HS) : Int := if knV h f t = -1 then h 9 8 else knV h f t
theorem followC {h : HS} (w : PsiC h) {f t : Int} (hf : 0 ≤ f ∧ f < 64) (ht : 0 ≤ t ∧ t < 64) (hs1 : ¬ (knV h f t = -1 ∧ 200 ≤ h 9 8)) : ∃ X, fX5_follow f t h = some (1, X) ∧ mC X (folT f t h) (folP f t h) h ∧ (X 24 = h 24 ∧ ∀ b : Int, b ≠ 8 → X 0 b = h 0 b) := by
  have n := w.P.n
  have n1 := w.R.n
  unfold fX5_follow fX5_follow_b48 fX4_size folT folP
  rw [knC w hf ht, Option.bind_some]
  by_cases hk : knV h f t = -1
  · have hN : h 9 8 < 200 := by
      rcases (show h 9 8 < 200 ∨ 200 ≤ h 9 8 by omega) with k | k
      · exact k
      · exact absurd ⟨hk, k⟩ hs1
    have G9 : grG f t h 9 8 = h 9 8 + 1 := rfl
    have G11 : grG f t h 11 (h 9 8) = f := by show (if h 9 8 = h 9 8 then f else _) = f; rw [if_pos rfl]
    have G12 : grG f t h 12 (h 9 8) = t := by show (if h 9 8 = h 9 8 then t else _) = t; rw [if_pos rfl]
    have es := stepDown_gen (H := grG f t h) (p := h 9 8) (by rw [G9]; omega) (by rw [G9]; omega) (by rw [G11]; exact hf) (by rw [G12]; exact ht)
    rw [G11, G12] at es
    rw [hk, if_pos (show wr (-1) = -1 by decide), Option.bind_some, wr_of (z := h 9 8) (by omega) (by omega), if_pos hN, growC w hN, Option.bind_some, es, Option.bind_some, if_pos rfl, if_pos rfl]
    have Gl : ∀ a : Nat, a ≠ 13 → a < 30 → grG f t h a = grA f t h a := fun a h13 h30 => by
      unfold grG
      rw [if_neg h13, if_pos h30]
    have Gg : ∀ a : Nat, 30 ≤ a → grG f t h a = h a := fun a h30 => by
      unfold grG
      rw [if_neg (by omega), if_neg (by omega)]
    have G8 : grG f t h 8 = h 8 := by rw [Gl 8 (by decide) (by decide), grA_ne (by decide)]
    refine ⟨_, rfl, ⟨fun a b h30 hn hm => ?_, by rw [hs_self], fun s s0 s1 => ?_, fun a h30 => ?_⟩, by rw [hs_ne _ _ _ (by decide), hs_ne _ _ _ (by decide), mvC_at (by decide), Gl 24 (by decide) (by decide), grA_ne (by decide)], fun b hb => by rw [hs_at, if_pos rfl, if_neg hb, hs_ne _ _ _ (by decide), mvC_at (by decide), Gl 0 (by decide) (by decide), grA_ne (by decide)]⟩
    · have a8 : a ≠ 8 := fun k => hm (Or.inl k)
      by_cases a0 : a = 0
      · subst a0
        rw [hs_at, if_pos rfl, if_neg (fun k => hm (Or.inr ⟨rfl, k⟩)), hs_ne _ _ _ (by decide), mvC_at (by decide), Gl 0 (by decide) (by decide)]
      · rw [hs_ne _ _ _ a0]
        by_cases a13 : a = 13
        · subst a13
          rw [hs_at, if_pos rfl, mvC_at (by decide), G8, grA_13]
          show (if b = h 9 8 then h 8 t else (if b = h 9 8 then -1 else h 13 b)) = _
          by_cases hb : b = h 9 8
          · rw [if_pos hb, if_pos hb]
          · rw [if_neg hb, if_neg hb, if_neg hb]
        · rw [hs_ne _ _ _ a13, mvC_at a8, Gl a a13 h30]
    · rw [hs_ne _ _ _ (by decide), hs_ne _ _ _ (by decide), mvC_8, G8, bd_grN w]
      unfold mv
      rw [w.P.b s s0 s1, w.P.b f hf.1 hf.2]
    · rw [hs_ne _ _ _ (by omega), hs_ne _ _ _ (by omega), mvC_at (by omega), Gg a h30]
  · obtain ⟨⟨k1, k2⟩, k3, k4, k5⟩ := knV_rg w hk
    have es := stepDown_at w k1 k2
    rw [k3, atN_self w] at es
    rw [wr_of (z := knV h f t) (by omega) (by omega), if_neg hk, es, Option.bind_some, if_neg hk, if_neg hk]
    refine ⟨_, rfl, ⟨fun a b h30 hn hm => ?_, atN_08, fun s s0 s1 => atN_8 ⟨s0, s1⟩, fun a h30 => atN_ne (by omega) (by omega)⟩, atN_ne (by decide) (by decide), fun b hb => atN_0 hb⟩
    by_cases a0 : a = 0
    · subst a0
      exact atN_0 (fun k => hm (Or.inr ⟨rfl, k⟩))
    · rw [atN_ne (fun k => hm (Or.inl k)) a0]
theorem followN {h : HS} (w : PsiC h) {f t : Int} (hf : 0 ≤ f ∧ f < 64) (ht : 0 ≤ t ∧ t < 64) (hs1 : knV h f t = -1 ∧ 200 ≤ h 9 8) : fX5_follow f t h = some (0, h) := by
  have n1 := w.R.n
  unfold fX5_follow fX4_size
  rw [knC w hf ht, Option.bind_some, hs1.1, if_pos (show wr (-1) = -1 by decide), Option.bind_some, wr_of (z := h 9 8) (by omega) (by omega), if_neg (by omega)]
theorem playOnB {h g : HS} (w : Psi h) (e : zqm g h) {f t p : Int} (hf : 0 ≤ f ∧ f < 64) (ht : 0 ≤ t ∧ t < 64) : fX6_playOn_b120 f t p g = some (mvM f t (hs g 30 9 p)) := by
  unfold fX6_playOn_b120
  rw [umX6_play hf ht, Option.bind_some]
theorem playOnK {h g : HS} (w : Psi h) (e : zqm g h) {f t : Int} (hk : ¬ knV h f t = -1) : mM (mvM f t (hs g 30 9 (knV h f t))) (folT f t h) (folP f t h) g := by
  obtain ⟨⟨k1, k2⟩, k3, k4, k5⟩ := knV_rg w.cc hk
  unfold folT folP
  rw [if_neg hk, if_neg hk]
  refine ⟨fun a b h30 hn hm => ?_, by rw [mvM_at (by decide), hs_self], fun s s0 s1 => ?_, fun a ha => by rw [mvM_at (by omega), hs_ne _ _ _ (by omega)], by rw [mvM_at (by decide), hs_ne _ _ _ (by decide)], by rw [mvM_at (by decide), hs_at, if_pos rfl, if_neg (by decide)], by rw [mvM_at (by decide), hs_ne _ _ _ (by decide)]⟩
  · rw [mvM_at (fun k => hm (Or.inl k))]
    by_cases a30 : a = 30
    · subst a30
      rw [hs_at, if_pos rfl, if_neg (fun k => hm (Or.inr ⟨rfl, k⟩))]
      exact e 30 b h30 hn
    · rw [hs_ne _ _ _ a30]
      exact e a b h30 hn
  · obtain ⟨a1, a2, a3, a4, a5, a6⟩ := w.P.t _ k1 k2
    rw [mvM_35, hs_ne _ _ _ (by decide), e.c (a := 35) (by decide), w.P.bs w.R k1 k2, k3, k4, k5]
    rw [k4] at a3
    unfold mv
    rw [(w.P.b s s0 s1).2, (w.P.b f a3.1 a3.2).2]
theorem playOnR {h g : HS} (w : Psi h) (e : zqm g h) {f t : Int} (hf : 0 ≤ f ∧ f < 64) (ht : 0 ≤ t ∧ t < 64) (hs1 : ¬ (knV h f t = -1 ∧ 200 ≤ h 9 8)) : ∃ Y, fX6_playOn f t g = some Y ∧ mM Y (folT f t h) (folP f t h) g := by
  have n := w.P.n
  have n1 := w.R.n
  have n2 := w.R.n2
  have c0 := (w.R.g (h 0 8) n.1.1 n.1.2).2.2.2.2
  have d0 := w.P.dp w.R (h 0 8) n.1.1 n.1.2
  have g8 : g 30 8 = h 9 8 := by rw [e.c30 (by decide), n2]
  have g9 : g 30 9 = h 0 8 := by rw [e.c30 (by decide), n.2]
  unfold fX6_playOn
  rw [knR w e hf ht, Option.bind_some]
  by_cases hk : knV h f t = -1
  · have hN : h 9 8 < 200 := by
      rcases (show h 9 8 < 200 ∨ 200 ≤ h 9 8 by omega) with k | k
      · exact k
      · exact absurd ⟨hk, k⟩ hs1
    rw [hk, if_pos (show wr (-1) = -1 by decide), if_pos (by omega), if_pos (by omega), if_pos (by omega)]
    have z1 : hz (hs g 30 8 (g 30 8 + 1)) 90 30 9 = h 0 8 := by rw [hz_ne _ (by decide), hs_at, if_pos rfl, if_neg (by decide), g9]
    rw [z1, g8]
    obtain ⟨S1, eS1⟩ : ∃ S1, S1 = hs (hs (hs (hz (hs g 30 8 (h 9 8 + 1)) 90) 90 0 (h 0 8)) 90 1 f) 90 2 t := ⟨_, rfl⟩
    rw [← eS1]
    have S1ne : ∀ a : Nat, a ≠ 90 → a ≠ 30 → S1 a = g a := fun a a1 a2 => by rw [eS1, hs_ne _ _ _ a1, hs_ne _ _ _ a1, hs_ne _ _ _ a1, hz_ne _ a1, hs_ne _ _ _ a2]
    have S130 : ∀ b, S1 30 b = if b = 8 then h 9 8 + 1 else g 30 b := fun b => by rw [eS1, hs_ne _ _ _ (by decide), hs_ne _ _ _ (by decide), hs_ne _ _ _ (by decide), hz_ne _ (by decide), hs_at, if_pos rfl]
    have e37 := e.c (a := 37) (by decide)
    have S19 : S1 30 9 = h 0 8 := by rw [S130, if_neg (by decide), g9]
    rw [S19, (pX6_get w (g := S1) (by rw [S1ne 37 (by decide) (by decide), e37]) n.1).2.2.2.1, Option.bind_some, if_pos (by omega), if_pos (by omega), if_pos (by omega)]
    obtain ⟨S2, eS2⟩ : ∃ S2, S2 = hcp (hs (hs S1 90 3 (h 14 (h 0 8) + 1)) 90 4 0) 90 0 37 (5 * h 9 8) 5 := ⟨_, rfl⟩
    rw [← eS2]
    have S2ne : ∀ a : Nat, a ≠ 90 → a ≠ 37 → S2 a = S1 a := fun a a1 a2 => by rw [eS2, hcp_ne _ _ _ _ _ a2, hs_ne _ _ _ a1, hs_ne _ _ _ a1]
    have S29 : S2 30 9 = h 0 8 := by rw [S2ne 30 (by decide) (by decide), S19]
    have S2_37 : ∀ x, S2 37 x = if 5 * h 9 8 ≤ x ∧ x < 5 * h 9 8 + 5 then (if x = 5 * h 9 8 then h 0 8 else if x = 5 * h 9 8 + 1 then f else if x = 5 * h 9 8 + 2 then t else if x = 5 * h 9 8 + 3 then h 14 (h 0 8) + 1 else 0) else h 37 x := fun x => by
      rw [eS2, hcp_eq]
      show (if _ then _ else _) = _
      by_cases hx : 5 * h 9 8 ≤ x ∧ x < 5 * h 9 8 + 5
      · rw [if_pos hx, if_pos hx, eS1]
        simp only [hs_at, if_pos, if_true]
        rcases (show x = 5 * h 9 8 ∨ x = 5 * h 9 8 + 1 ∨ x = 5 * h 9 8 + 2 ∨ x = 5 * h 9 8 + 3 ∨ x = 5 * h 9 8 + 4 by omega) with k | k | k | k | k
        · subst k
          rw [if_neg (by omega), if_neg (by omega), if_neg (by omega), if_neg (by omega), if_pos (by omega), if_pos rfl]
        · subst k
          rw [if_neg (by omega), if_neg (by omega), if_neg (by omega), if_pos (by omega), if_neg (by omega), if_pos rfl]
        · subst k
          rw [if_neg (by omega), if_neg (by omega), if_pos (by omega), if_neg (by omega), if_neg (by omega), if_pos rfl]
        · subst k
          rw [if_neg (by omega), if_pos (by omega), if_neg (by omega), if_neg (by omega), if_neg (by omega), if_pos rfl]
        · subst k
          rw [if_pos (by omega), if_neg (by omega), if_neg (by omega), if_neg (by omega), if_neg (by omega)]
      · rw [if_neg hx, if_neg hx, hs_ne _ _ _ (by decide), hs_ne _ _ _ (by decide), S1ne 37 (by decide) (by decide), e37]
    have S2g : fX6_get (S2 30 9) 4 S2 = some (h 15 (h 0 8)) := by
      unfold fX6_get
      rw [S29, if_pos (by omega), S2_37, if_neg (by omega), (w.R.f (h 0 8) n.1.1 n.1.2).2.2.2.2]
    rw [S2g, Option.bind_some, S29, if_pos (by omega)]
    obtain ⟨S3, eS3⟩ : ∃ S3, S3 = hs S2 38 (200 * h 0 8 + h 15 (h 0 8)) (h 9 8) := ⟨_, rfl⟩
    rw [← eS3]
    have S3ne : ∀ a : Nat, a ≠ 38 → S3 a = S2 a := fun a a1 => by rw [eS3, hs_ne _ _ _ a1]
    have S39 : S3 30 9 = h 0 8 := by rw [S3ne 30 (by decide), S29]
    have S3c : S3 37 (5 * h 0 8 + 4) = h 15 (h 0 8) := by rw [S3ne 37 (by decide), S2_37, if_neg (by omega), (w.R.f (h 0 8) n.1.1 n.1.2).2.2.2.2]
    rw [S39, if_pos (by omega), S3c]
    unfold fX6_playOn_b120
    rw [umX6_play hf ht, Option.bind_some]
    unfold folT folP
    rw [if_pos hk, if_pos hk]
    obtain ⟨S4, eS4⟩ : ∃ S4, S4 = hz (hs S3 37 (5 * h 0 8 + 4) (h 15 (h 0 8) + 1)) 90 := ⟨_, rfl⟩
    rw [← eS4]
    have S4ne : ∀ a : Nat, a ≠ 90 → a ≠ 37 → S4 a = S3 a := fun a a1 a2 => by rw [eS4, hz_ne _ a1, hs_ne _ _ _ a2]
    have S4o : ∀ a : Nat, a ≠ 90 → a ≠ 37 → a ≠ 38 → a ≠ 30 → S4 a = g a := fun a a1 a2 a3 a4 => by rw [S4ne a a1 a2, S3ne a a3, S2ne a a1 a2, S1ne a a1 a4]
    have S430 : ∀ b, S4 30 b = if b = 8 then h 9 8 + 1 else g 30 b := fun b => by rw [S4ne 30 (by decide) (by decide), S3ne 30 (by decide), S2ne 30 (by decide) (by decide), S130]
    refine ⟨mvM f t (hs S4 30 9 (h 9 8)), if_pos (by omega), fun a b h30 hn hm => ?_, by rw [mvM_at (by decide), hs_self], fun s s0 s1 => ?_, fun a ha => by rw [mvM_at (by omega), hs_ne _ _ _ (by omega), S4o a (by omega) (by omega) (by omega) (by omega)], by rw [mvM_at (by decide), hs_ne _ _ _ (by decide), S4o 50 (by decide) (by decide) (by decide) (by decide)], by rw [mvM_at (by decide), hs_at, if_pos rfl, if_neg (by decide), S430, if_neg (by decide)], by rw [mvM_at (by decide), hs_ne _ _ _ (by decide), S4o 42 (by decide) (by decide) (by decide) (by decide)]⟩
    · have a90 : a ≠ 90 := fun k => hn (Or.inl (by omega))
      rw [mvM_at (fun k => hm (Or.inl k))]
      by_cases a30 : a = 30
      · subst a30
        rw [hs_at, if_pos rfl, if_neg (fun k => hm (Or.inr ⟨rfl, k⟩)), S430, grA_30]
        by_cases hb : b = 8
        · rw [if_pos hb, if_pos hb]
        · rw [if_neg hb, if_neg hb]
          exact e 30 b h30 hn
      · rw [hs_ne _ _ _ a30]
        by_cases a37 : a = 37
        · subst a37
          rw [eS4, hz_ne _ (by decide), hs_at, if_pos rfl, S3ne 37 (by decide), S2_37, grA_37]
          by_cases hx : 5 * h 9 8 ≤ b ∧ b < 5 * h 9 8 + 5
          · rw [if_neg (by omega), if_pos hx]
            rcases (show b = 5 * h 9 8 ∨ b = 5 * h 9 8 + 1 ∨ b = 5 * h 9 8 + 2 ∨ b = 5 * h 9 8 + 3 ∨ b = 5 * h 9 8 + 4 by omega) with k | k | k | k | k
            · rw [if_pos k, if_pos k]
            · rw [if_neg (by omega), if_pos k, if_neg (by omega), if_pos k]
            · rw [if_neg (by omega), if_neg (by omega), if_pos k, if_neg (by omega), if_neg (by omega), if_pos k]
            · rw [if_neg (by omega), if_neg (by omega), if_neg (by omega), if_pos k, if_neg (by omega), if_neg (by omega), if_neg (by omega), if_pos k]
            · rw [if_neg (by omega), if_neg (by omega), if_neg (by omega), if_neg (by omega), if_neg (by omega), if_neg (by omega), if_neg (by omega), if_neg (by omega), if_pos k]
          · rw [if_neg hx, if_neg (show ¬ b = 5 * h 9 8 by omega), if_neg (show ¬ b = 5 * h 9 8 + 1 by omega), if_neg (show ¬ b = 5 * h 9 8 + 2 by omega), if_neg (show ¬ b = 5 * h 9 8 + 3 by omega), if_neg (show ¬ b = 5 * h 9 8 + 4 by omega)]
        · by_cases a38 : a = 38
          · subst a38
            rw [S4ne 38 (by decide) (by decide), eS3, hs_at, if_pos rfl, S2ne 38 (by decide) (by decide), S1ne 38 (by decide) (by decide), e.c (a := 38) (by decide), grA_38]
          · rw [S4o a a90 a37 a38 a30, grA_ne (by omega)]
            exact e a b h30 hn
    · rw [mvM_35, hs_ne _ _ _ (by decide), S4o 35 (by decide) (by decide) (by decide) (by decide), e.c (a := 35) (by decide), bd_grN w.cc]
      unfold mv
      rw [(w.P.b s s0 s1).2, (w.P.b f hf.1 hf.2).2]
  · obtain ⟨⟨k1, k2⟩, k3, k4, k5⟩ := knV_rg w.cc hk
    rw [wr_of (z := knV h f t) (by omega) (by omega), if_neg hk, playOnB w e hf ht]
    exact ⟨_, rfl, playOnK w e hk⟩
theorem folT_psi {h : HS} (w : Psi h) {f t : Int} (hf : 0 ≤ f ∧ f < 64) (ht : 0 ≤ t ∧ t < 64) (hb : 0 ≤ h 8 f) (hs1 : ¬ (knV h f t = -1 ∧ 200 ≤ h 9 8)) : Psi (folT f t h) ∧ 0 ≤ folP f t h ∧ folP f t h < folT f t h 9 8 := by
  have n := w.P.n.1
  unfold folT folP
  by_cases hk : knV h f t = -1
  · have hN : h 9 8 < 200 := by
      rcases (show h 9 8 < 200 ∨ 200 ≤ h 9 8 by omega) with k | k
      · exact k
      · exact absurd ⟨hk, k⟩ hs1
    rw [if_pos hk, if_pos hk]
    exact ⟨grA_psi w hN hf ht hb, by omega, by rw [grA_9]; omega⟩
  · obtain ⟨⟨k1, k2⟩, -⟩ := knV_rg w.cc hk
    rw [if_neg hk, if_neg hk]
    exact ⟨w, by omega, k2⟩
theorem fol_psi {T X Y o h g : HS} {p : Int} (wT : Psi T) (hp : 0 ≤ p ∧ p < T 9 8) (x : mC X T p h) (y : mM Y T p g) (o1 : ∀ (a : Nat) (b : Int), a < 30 → ¬ scr a b → o a b = X a b) (o2 : ∀ (a : Nat) (b : Int), 30 ≤ a → ¬ scr a b → o a b = Y a b) : Psi o := by
  refine wT.go hp (fun a b hn hm => ?_) ?_ ?_ (fun s s0 s1 => ?_) (fun s s0 s1 => ?_)
  · by_cases ha : a < 30
    · rw [o1 a b ha hn]
      exact x.1 a b ha hn (fun k => hm (by rcases k with k | k; exact Or.inl k; exact Or.inr (Or.inr (Or.inl k))))
    · rw [o2 a b (by omega) hn]
      exact y.1 a b (by omega) hn (fun k => hm (by rcases k with k | k; exact Or.inr (Or.inl k); exact Or.inr (Or.inr (Or.inr k))))
  · rw [o1 0 8 (by decide) (by decide), x.2.1]
  · rw [o2 30 9 (by decide) (by decide), y.2.1]
  · rw [o1 8 s (by decide) (by rintro (k | k | k) <;> omega), x.2.2.1 s s0 s1]
  · rw [o2 35 s (by decide) (by rintro (k | k | k) <;> omega), y.2.2.1 s s0 s1]
end ZPLAY
end
section
section ZCASE6
theorem whyV_0 {h : HS} (w : Psi h) {f t : Int} (hf : 0 ≤ f ∧ f < 64) (e : whyV h f t = 0) : 0 ≤ h 8 f := by
  obtain ⟨v1, v2⟩ := w.gg.2.1 f hf.1 hf.2
  rcases (show h 8 f = -1 ∨ 0 ≤ h 8 f by omega) with k | k
  · unfold whyV at e
    have t0 := trn_01 (h := h)
    rw [k, sdOf_m, if_neg (by omega)] at e
    omega
  · exact k
theorem fr36.qm {o h : HS} (e : fr36 o h) : zqm o h := e.sq.qm
theorem qc_6 {f t : Int} {h : HS} (hf0 : zr f) (ht0 : zr t) (w : Psi h) : ∃ o, fL_c6 f t h = some o ∧ Psi o := by
  have eg : fL_c6 f t h = gC (fL_play f t h) (fX6_play_ f t) := rfl
  have n1 := w.R.n
  have r0 := whyV_rg (h := h) (f := f) (t := t)
  rw [eg]
  unfold fL_play fX5_play fX5_play_b14
  rw [fX5_isSq hf0, fX5_isSq ht0]
  simp only [Option.bind_some]
  -- the reference up to why
  have ref0 : ∀ g : HS, zqm g h → (0 ≤ f ∧ f < 64) ∧ 0 ≤ t ∧ t < 64 → ∃ g7, fr36 g7 (hs g 30 0 0) ∧ fX6_play_ f t g = if whyV h f t = 0 then (if wr (g7 30 8) = (200 : Int) then (fX6_known f t g7).bind fun r7 => if wr r7 = ((-1) : Int) then fX6_play__b54 g7 else fX6_play__b60 f t g7 else fX6_play__b60 f t g7) else some (0, hs g7 30 0 2) := by
    intro g e hq
    have e2 : zqm (hs g 30 0 0) h := fun a b ha hn => by
      by_cases a30 : a = 30
      · subst a30
        rw [hs_at, if_pos rfl, if_neg (fun k => hn (Or.inr (Or.inr ⟨rfl, Or.inl k⟩)))]
        exact e 30 b ha hn
      · rw [hs_ne _ _ _ a30]
        exact e a b ha hn
    obtain ⟨g7, e7, f7⟩ := pX6_why w e2 hq.1 hq.2
    refine ⟨g7, f7, ?_⟩
    unfold fX6_play_
    rw [fX6_isSq hf0, fX6_isSq ht0]
    simp only [Option.bind_some]
    rw [if_pos hq.1, if_pos hq.2, if_neg (show ¬ wr 1 = 0 by decide), if_neg (show ¬ wr 1 = 0 by decide), e7, Option.bind_some, wr_of (z := whyV h f t) (by omega) (by omega)]
    by_cases hy : whyV h f t = 0
    · rw [if_pos hy, if_pos hy]
    · rw [if_neg hy, if_neg hy]
      unfold fX6_play__b54 fX6_fail
      rfl
  by_cases hq : (0 ≤ f ∧ f < 64) ∧ 0 ≤ t ∧ t < 64
  · rw [if_pos hq.1, if_pos hq.2, if_neg (show ¬ wr 1 = 0 by decide), if_neg (show ¬ wr 1 = 0 by decide), pX5_why w hq.1 hq.2, Option.bind_some, wr_of (z := whyV h f t) (by omega) (by omega)]
    by_cases hy : whyV h f t = 0
    · have hb := whyV_0 w hq.1 hy
      rw [if_pos hy]
      by_cases hs1 : knV h f t = -1 ∧ 200 ≤ h 9 8
      · rw [followN w.cc hq.1 hq.2 hs1, Option.bind_some, if_pos wr_0, Option.bind_some, if_neg (show ¬ (3 : Int) = 0 by decide), if_neg (show ¬ (3 : Int) = 1 by decide), if_pos rfl]
        obtain ⟨g7, f7, e7⟩ := ref0 h zqm.rf hq
        have q7 : zqm g7 h := f7.qm.tr (zsq.rf.h30 0).qm
        have e8 : fX6_play_ f t h = some (0, hs g7 30 0 2) := by
          rw [e7, if_pos hy, q7.c30 (b := 8) (by decide), w.R.n2, wr_of (z := h 9 8) (by omega) (by omega), if_pos (by omega), knR w q7 hq.1 hq.2, Option.bind_some, hs1.1, if_pos (show wr (-1) = -1 by decide)]
          rfl
        exact ⟨_, gC_thr e8 ⟨by unfold zr; omega, by decide⟩ (by simp [hs_at]), w.sq ((f7.sq.tr (zsq.rf.h30 0)).h30 2)⟩
      · obtain ⟨X, eX, x, -⟩ := followC w.cc hq.1 hq.2 hs1
        obtain ⟨wT, p0, p1⟩ := folT_psi w hq.1 hq.2 hb hs1
        have nT := wT.R.n
        rw [eX, Option.bind_some, if_neg (show ¬ wr 1 = 0 by decide)]
        dsimp only
        rw [x.2.1, Option.bind_some, if_pos rfl]
        have qg : zqm (hs X 50 0 (wr (folP f t h))) h := fun a b ha hn => by
          rw [hs_ne _ _ _ (fun k => hn (Or.inl (by omega))), x.2.2.2 a ha]
        obtain ⟨g7, f7, e7⟩ := ref0 _ qg hq
        have q7 : zqm g7 h := f7.qm.tr (fun a b ha hn => by
          by_cases a30 : a = 30
          · subst a30
            rw [hs_at, if_pos rfl, if_neg (fun k => hn (Or.inr (Or.inr ⟨rfl, Or.inl k⟩)))]
            exact qg 30 b ha hn
          · rw [hs_ne _ _ _ a30]
            exact qg a b ha hn)
        obtain ⟨Y, eY, y⟩ := playOnR w q7 hq.1 hq.2 hs1
        have eb : fX6_play__b60 f t g7 = some (folP f t h, Y) := by
          unfold fX6_play__b60
          rw [eY, Option.bind_some, y.2.1]
        have ek : fX6_play_ f t (hs X 50 0 (wr (folP f t h))) = some (folP f t h, Y) := by
          rw [e7, if_pos hy, eb, knR w q7 hq.1 hq.2, Option.bind_some, q7.c30 (b := 8) (by decide), w.R.n2, wr_of (z := h 9 8) (by omega) (by omega)]
          by_cases h200 : h 9 8 = 200
          · have hk : ¬ knV h f t = -1 := fun k => hs1 ⟨k, by omega⟩
            obtain ⟨⟨k1, k2⟩, -⟩ := knV_rg w.cc hk
            rw [if_pos h200, wr_of (z := knV h f t) (by omega) (by omega), if_neg hk]
          · rw [if_neg h200]
        refine ⟨Y, gC_ok ek (by show zr (folP f t h); unfold zr; omega) rfl ?_ ?_, fol_psi wT ⟨p0, p1⟩ x y (fun a b ha hn => ?_) (fun a b _ _ => rfl)⟩
        · rw [y.2.2.2.2.2.1, f7 30 (by decide), hs_self]
        · rw [y.2.2.2.2.1, f7 50 (by decide), hs_ne _ _ _ (by decide), hs_self]
        · rw [y.2.2.2.1 a ha, f7 a (by omega), hs_ne _ _ _ (by omega), hs_ne _ _ _ (by omega)]
    · rw [if_neg hy, Option.bind_some, if_neg (show ¬ (3 : Int) = 0 by decide), if_neg (show ¬ (3 : Int) = 1 by decide), if_pos rfl]
      obtain ⟨g7, f7, e7⟩ := ref0 h zqm.rf hq
      rw [if_neg hy] at e7
      exact ⟨_, gC_thr e7 ⟨by unfold zr; omega, by decide⟩ (by simp [hs_at]), w.sq ((f7.sq.tr (zsq.rf.h30 0)).h30 2)⟩
  · have e5 : (if wr (if 0 ≤ f ∧ f < 64 then 1 else 0) = 0 then some ((1, 0, h) : Int × Int × HS) else if wr (if 0 ≤ t ∧ t < 64 then 1 else 0) = 0 then some (1, 0, h) else (fX5_reasonAgainst f t h).bind fun r3 => if wr r3.1 = 0 then (fX5_follow f t r3.2).bind fun r4 => if wr r4.1 = 0 then some (3, 0, r4.2) else some (0, r4.2 0 8, r4.2) else some (3, 0, r3.2)) = some (1, 0, h) := by
      by_cases h1 : 0 ≤ f ∧ f < 64
      · rw [if_pos h1, if_neg (show ¬ wr 1 = 0 by decide), if_neg (show ¬ (0 ≤ t ∧ t < 64) from fun k => hq ⟨h1, k⟩), if_pos wr_0]
      · rw [if_neg h1, if_pos wr_0]
    rw [e5, Option.bind_some, if_neg (show ¬ (1 : Int) = 0 by decide), if_pos rfl]
    refine ⟨_, gC_thr (v1 := 0) (h2 := hs (hs h 30 0 0) 30 0 1) ?_ ⟨by unfold zr; omega, by decide⟩ (by simp [hs_at]), w.sq ((zsq.rf.h30 _).h30 _)⟩
    show fX6_play_ f t h = _
    unfold fX6_play_ fX6_play__b19 fX6_fail
    rw [fX6_isSq hf0, fX6_isSq ht0]
    simp only [Option.bind_some]
    by_cases h1 : 0 ≤ f ∧ f < 64
    · rw [if_pos h1, if_neg (show ¬ wr 1 = 0 by decide), if_neg (show ¬ (0 ≤ t ∧ t < 64) from fun k => hq ⟨h1, k⟩), if_pos wr_0]
    · rw [if_neg h1, if_pos wr_0]
/-! all nodes but the first are taken away -/
theorem clr_psi {h o : HS} (w : Psi h) (e : ∀ (a : Nat) (b : Int), ¬ scr a b → ¬ (a = 8 ∨ (9 ≤ a ∧ a ≤ 17) ∨ a = 35 ∨ a = 37 ∨ (a = 0 ∧ b = 8) ∨ (a = 30 ∧ (b = 8 ∨ b = 9))) → o a b = h a b) (e98 : o 9 8 = 1) (e08 : o 0 8 = 0) (e308 : o 30 8 = 1) (e309 : o 30 9 = 0) (z : o 10 0 = -1 ∧ o 11 0 = -1 ∧ o 12 0 = -1 ∧ o 14 0 = 0 ∧ o 15 0 = 0) (z37 : o 37 0 = -1 ∧ o 37 1 = -1 ∧ o 37 2 = -1 ∧ o 37 3 = 0 ∧ o 37 4 = 0) (e8 : ∀ s : Int, 0 ≤ s → s < 64 → o 8 s = h 34 s ∧ o 35 s = h 34 s) : Psi o := by
  have ne : ∀ a : Nat, ¬ (a = 50 ∨ a = 18 ∨ a = 21 ∨ a = 22 ∨ a = 23 ∨ a = 24 ∨ a = 36 ∨ a = 40 ∨ a = 41 ∨ a = 42 ∨ a = 90 ∨ a = 91 ∨ a = 0 ∨ a = 30 ∨ a = 8 ∨ (9 ≤ a ∧ a ≤ 17) ∨ a = 35 ∨ a = 37) → o a = h a := fun a hn => by
    funext b
    exact e a b (fun k => hn (by rcases k with k | k | k <;> omega)) (by omega)
  have n0 : ∀ b : Int, ¬ (b = 8 ∨ b = 9 ∨ b = 10 ∨ b = 11 ∨ b = 12) → o 0 b = h 0 b := fun b hb => e 0 b (fun k => by rcases k with k | k | k <;> omega) (by omega)
  have n30 : ∀ b : Int, ¬ (b = 0 ∨ b = 8 ∨ b = 9 ∨ 17 ≤ b) → o 30 b = h 30 b := fun b hb => e 30 b (fun k => by rcases k with k | k | k <;> omega) (by omega)
  obtain ⟨z1, z2, z3, z4, z5⟩ := z
  refine ⟨w.T.cg (by rw [ne 19 (by decide)]) (n30 _ (by decide)) (fun i => by rw [ne 39 (by decide)]) (fun i => by rw [ne 20 (by decide)]),
   w.E.cg (fun b b0 b1 => n0 _ (by omega)) (fun b b0 b1 => n30 _ (by omega)),
   ⟨by rw [ne 1 (by decide)]; exact w.B.nk, by rw [ne 1 (by decide), n30 _ (by decide)]; exact w.B.nk2, fun s s0 s1 => ?_⟩,
   w.K.cg (by rw [ne 1 (by decide)]) (n30 _ (by decide)) (fun i => by rw [ne 31 (by decide)]) (fun i => by rw [ne 2 (by decide)]),
   w.S.cg (fun i => by rw [ne 32 (by decide)]) (fun i => by rw [ne 3 (by decide)]) (fun i => by rw [ne 33 (by decide)]) (fun i => by rw [ne 4 (by decide)]) (fun i => by rw [ne 5 (by decide)]) (fun i => by rw [ne 6 (by decide)]),
   ⟨by omega, by rw [e98, e308], fun i i0 i1 => ?_, fun i i0 i1 => ?_⟩,
   ⟨fun i i0 i1 j hj => ?_, fun i i0 i1 j j2 hj hj2 _ => ?_⟩, fun p p0 p1 => by omega,
   ⟨by omega, ⟨z1, z2, z3, z4⟩, fun p p0 p1 => by omega, fun s s0 s1 => ?_, fun s s0 s1 => by rw [ne 34 (by decide), ne 1 (by decide)]; exact w.P.f s s0 s1⟩⟩
  · obtain ⟨a1, a2⟩ := e8 s s0 s1
    rw [a1, a2, ne 1 (by decide)]
    exact ⟨rfl, w.P.f s s0 s1⟩
  · obtain rfl : i = 0 := by omega
    rw [Int.mul_zero, Int.zero_add, Int.zero_add, Int.zero_add, Int.zero_add, z1, z2, z3, z4, z5]
    exact z37
  · obtain rfl : i = 0 := by omega
    omega
  · obtain rfl : i = 0 := by omega
    omega
  · obtain rfl : i = 0 := by omega
    omega
  · rw [e08, bd_0 z4, ne 34 (by decide)]
    exact e8 s s0 s1
theorem clearC {h : HS} (w : PsiC h) : ∃ X, fX5_beginAnew h = some X ∧ (∀ (a : Nat) (b : Int), a < 30 → ¬ scr a b → ¬ (a = 8 ∨ (9 ≤ a ∧ a ≤ 17) ∨ (a = 0 ∧ b = 8)) → X a b = h a b) ∧ X 9 8 = 1 ∧ X 0 8 = 0 ∧ (X 10 0 = -1 ∧ X 11 0 = -1 ∧ X 12 0 = -1 ∧ X 14 0 = 0 ∧ X 15 0 = 0) ∧ (∀ s : Int, 0 ≤ s → s < 64 → X 8 s = h 34 s) ∧ (∀ a : Nat, 30 ≤ a → X a = h a) := by
  have n := w.P.n
  have n1 := w.R.n
  obtain ⟨v, ev⟩ := visit_at w (p := 0) (by omega) (by omega) n.1 n.2
  rw [atN_self w] at ev
  unfold fX5_beginAnew fX4_cutToRoot
  rw [ev, Option.bind_some]
  obtain ⟨A, eA⟩ : ∃ A, A = hs (atN (h23 h v) 0) 9 8 0 := ⟨_, rfl⟩
  have A9 : A 9 8 = 0 := by rw [eA, hs_self]
  rw [← eA, pX4_occupy (by omega), Option.bind_some, Option.bind_some]
  have Ane : ∀ a : Nat, a ≠ 9 → a ≠ 8 → a ≠ 0 → a ≠ 23 → A a = h a := fun a h1 h2 h3 h4 => by rw [eA, hs_ne _ _ _ h1, atN_ne h2 h3, h23_ne h4]
  have One : ∀ a : Nat, ¬ (9 ≤ a ∧ a ≤ 17) → occ (-1) (-1) (-1) 0 A a = A a := fun a hn => by
    unfold occ
    rw [hs_ne _ _ _ (by omega), hs_ne _ _ _ (by omega), hs_ne _ _ _ (by omega), hs_ne _ _ _ (by omega), hs_ne _ _ _ (by omega), hs_ne _ _ _ (by omega), hs_ne _ _ _ (by omega), hs_ne _ _ _ (by omega), hs_ne _ _ _ (by omega)]
  refine ⟨_, rfl, fun a b ha hn hm => ?_, by show occ (-1) (-1) (-1) 0 A 9 8 = 1; unfold occ; rw [hs_self, A9]; rfl, ?_, ⟨?_, ?_, ?_, ?_, ?_⟩, fun s s0 s1 => ?_, fun a ha => ?_⟩
  · show occ (-1) (-1) (-1) 0 A a b = h a b
    rw [One a (by omega)]
    by_cases a0 : a = 0
    · subst a0
      rw [eA, hs_ne _ _ _ (by decide), atN_0 (fun k => hm (Or.inr (Or.inr ⟨rfl, k⟩))), h23_ne (by decide)]
    · rw [Ane a (by omega) (by omega) a0 (fun k => hn (Or.inl (by omega)))]
  · show occ (-1) (-1) (-1) 0 A 0 8 = 0
    rw [One 0 (by decide), eA, hs_ne _ _ _ (by decide), atN_08]
  · show occ (-1) (-1) (-1) 0 A 10 0 = -1
    unfold occ; simp [hs_at, A9]
  · show occ (-1) (-1) (-1) 0 A 11 0 = -1
    unfold occ; simp [hs_at, A9]
  · show occ (-1) (-1) (-1) 0 A 12 0 = -1
    unfold occ; simp [hs_at, A9]
  · show occ (-1) (-1) (-1) 0 A 14 0 = 0
    unfold occ; simp [hs_at, A9]
  · show occ (-1) (-1) (-1) 0 A 15 0 = 0
    unfold occ; simp [hs_at, A9]
  · show occ (-1) (-1) (-1) 0 A 8 s = h 34 s
    rw [One 8 (by decide), eA, hs_ne _ _ _ (by decide), atN_8 ⟨s0, s1⟩, bd_sq h23_sq, bd_0 w.P.z.2.2.2]
  · show occ (-1) (-1) (-1) 0 A a = h a
    rw [One a (by omega), Ane a (by omega) (by omega) (by omega) (by omega)]
theorem clearR {h g : HS} (w : Psi h) (e : zqm g h) : ∃ Y, fX6_clearNodes g = some Y ∧ (∀ (a : Nat) (b : Int), 30 ≤ a → ¬ scr a b → ¬ (a = 35 ∨ a = 37 ∨ (a = 30 ∧ (b = 8 ∨ b = 9))) → Y a b = h a b) ∧ Y 30 8 = 1 ∧ Y 30 9 = 0 ∧ (Y 37 0 = -1 ∧ Y 37 1 = -1 ∧ Y 37 2 = -1 ∧ Y 37 3 = 0 ∧ Y 37 4 = 0) ∧ (∀ s : Int, 0 ≤ s → s < 64 → Y 35 s = h 34 s) ∧ (∀ a : Nat, a < 30 → Y a = g a) ∧ Y 50 = g 50 ∧ Y 30 0 = g 30 0 := by
  have n1 := w.R.n
  obtain ⟨f0, f1, f2, f3, f4⟩ := w.R.f 0 (by omega) (by omega)
  obtain ⟨z1, z2, z3, z4⟩ := w.P.z
  unfold fX6_clearNodes fX6_set
  rw [if_pos (by omega), if_pos (by omega)]
  obtain ⟨A, eA⟩ : ∃ A, A = hs (hs (hs g 30 8 1) 37 4 0) 30 9 0 := ⟨_, rfl⟩
  rw [← eA]
  have e19 : fX6_set_L19 zF 0 0 (hcp A 34 0 35 0 64) = some (hcp A 34 0 35 0 64) := by
    show fX6_set_L19 (4999 + 1) 0 0 _ = _
    rw [fX6_set_L19]
    rw [if_pos (by decide)]
    show fX6_set_L47 (4999 + 1) (0 - 1) _ = _
    rw [fX6_set_L47]
    rw [if_pos (by decide)]
  rw [e19, Option.bind_some]
  have Ane : ∀ a : Nat, a ≠ 30 → a ≠ 37 → A a = g a := fun a h1 h2 => by rw [eA, hs_ne _ _ _ h1, hs_ne _ _ _ h2, hs_ne _ _ _ h1]
  have cne : ∀ a : Nat, a ≠ 35 → hcp A 34 0 35 0 64 a = A a := fun a ha => hcp_ne _ _ _ _ _ ha
  have A37 : ∀ x, x ≠ 4 → A 37 x = h 37 x := fun x hx => by rw [eA, hs_ne _ _ _ (by decide), hs_at, if_pos rfl, if_neg hx, hs_ne _ _ _ (by decide), e.c (a := 37) (by decide)]
  refine ⟨_, rfl, fun a b ha hn hm => ?_, ?_, ?_, ⟨?_, ?_, ?_, ?_, ?_⟩, fun s s0 s1 => ?_, fun a ha => by rw [cne a (by omega), Ane a (by omega) (by omega)], by rw [cne 50 (by decide), Ane 50 (by decide) (by decide)], ?_⟩
  · rw [cne a (fun k => hm (Or.inl k))]
    by_cases a30 : a = 30
    · subst a30
      rw [eA, hs_at, if_pos rfl, if_neg (fun k => hm (Or.inr (Or.inr ⟨rfl, Or.inr k⟩))), hs_ne _ _ _ (by decide), hs_at, if_pos rfl, if_neg (fun k => hm (Or.inr (Or.inr ⟨rfl, Or.inl k⟩)))]
      exact e 30 b ha hn
    · rw [Ane a a30 (fun k => hm (Or.inr (Or.inl k)))]
      exact e a b ha hn
  · rw [cne 30 (by decide), eA]; simp [hs_at]
  · rw [cne 30 (by decide), eA]; simp [hs_at]
  · rw [cne 37 (by decide), A37 0 (by decide)]
    rw [Int.mul_zero] at f0
    rw [f0, z1]
  · rw [cne 37 (by decide), A37 1 (by decide)]
    rw [Int.mul_zero, Int.zero_add] at f1
    rw [f1, z2]
  · rw [cne 37 (by decide), A37 2 (by decide)]
    rw [Int.mul_zero, Int.zero_add] at f2
    rw [f2, z3]
  · rw [cne 37 (by decide), A37 3 (by decide)]
    rw [Int.mul_zero, Int.zero_add] at f3
    rw [f3, z4]
  · rw [cne 37 (by decide), eA]; simp [hs_at]
  · rw [hcp_eq]
    show (if _ then _ else _) = _
    rw [if_pos (by omega), Ane 34 (by decide) (by decide), e.c (a := 34) (by decide), show (0 : Int) + (s - 0) = s by omega]
  · rw [cne 30 (by decide), eA]; simp [hs_at]
theorem qc_19 {h : HS} (w : Psi h) : ∃ o, fL_c19 h = some o ∧ Psi o := by
  have n1 := w.R.n
  obtain ⟨X, eX, x1, x2, x3, x4, x5, x6⟩ := clearC w.cc
  have qX : zqm X h := fun a b ha _ => by rw [x6 a ha]
  have qX0 : zqm (hs X 30 0 0) h := fun a b ha hn => by
    by_cases a30 : a = 30
    · subst a30
      rw [hs_at, if_pos rfl, if_neg (fun k => hn (Or.inr (Or.inr ⟨rfl, Or.inl k⟩)))]
      exact qX 30 b ha hn
    · rw [hs_ne _ _ _ a30]
      exact qX a b ha hn
  obtain ⟨Y, eY, y1, y2, y3, y4, y5, y6, y7, y8⟩ := clearR w qX0
  unfold fL_c19 fX5_clear fX6_clear fX4_size
  rw [Option.bind_some, eX, Option.bind_some, Option.bind_some, eY, Option.bind_some, Option.bind_some]
  have e8 : hs X 30 0 0 30 8 = h 9 8 := by rw [qX0.c30 (by decide), w.R.n2]
  refine ⟨Y, if_pos (by rw [e8]), clr_psi w (fun a b hn hm => ?_) ?_ ?_ y2 y3 ?_ y4 (fun s s0 s1 => ⟨?_, y5 s s0 s1⟩)⟩
  · by_cases ha : a < 30
    · rw [y6 a ha, hs_ne _ _ _ (by omega)]
      exact x1 a b ha hn (by omega)
    · exact y1 a b (by omega) hn (by omega)
  · rw [y6 9 (by decide), hs_ne _ _ _ (by decide), x2]
  · rw [y6 0 (by decide), hs_ne _ _ _ (by decide), x3]
  · rw [y6 10 (by decide), y6 11 (by decide), y6 12 (by decide), y6 14 (by decide), y6 15 (by decide), hs_ne _ _ _ (by decide), hs_ne _ _ _ (by decide), hs_ne _ _ _ (by decide), hs_ne _ _ _ (by decide), hs_ne _ _ _ (by decide)]
    exact x4
  · rw [y6 8 (by decide), hs_ne _ _ _ (by decide), x5 s s0 s1]
end ZCASE6
end
section
section ZTEXT
/-! texts as lists of bytes; the short form of a move -/
def txt (n : Int) (a : Int → Int) (w : List Int) : Prop := n = (w.length : Int) ∧ ∀ i : Nat, i < w.length → w[i]? = some (a (i : Int))
theorem txt_nil {a : Int → Int} : txt 0 a [] := ⟨rfl, fun i hi => absurd hi (Nat.not_lt_zero i)⟩
theorem txt_app {n : Int} {a a2 : Int → Int} {w : List Int} {v : Int} (h : txt n a w) (e : ∀ i : Int, 0 ≤ i → i < n → a2 i = a i) (ev : a2 n = v) : txt (n + 1) a2 (w ++ [v]) := by
  refine ⟨by rw [List.length_append, h.1]; simp, fun i hi => ?_⟩
  rw [List.length_append] at hi
  simp only [List.length_singleton] at hi
  by_cases hw : i < w.length
  · rw [List.getElem?_append_left hw, h.2 i hw, e (i : Int) (by omega) (by rw [h.1]; omega)]
  · have ei : i = w.length := by omega
    rw [List.getElem?_append_right (by omega), ei, Nat.sub_self, ← h.1, ev]
    rfl
theorem txt_cg {n : Int} {a a2 : Int → Int} {w : List Int} (h : txt n a w) (e : ∀ i : Int, 0 ≤ i → i < n → a2 i = a i) : txt n a2 w := ⟨h.1, fun i hi => by rw [h.2 i hi, e (i : Int) (by omega) (by rw [h.1]; omega)]⟩
theorem txt_eq {n n2 : Int} {a a2 : Int → Int} {w : List Int} (h : txt n a w) (h2 : txt n2 a2 w) : n2 = n ∧ ∀ i : Int, 0 ≤ i → i < n → a2 i = a i := by
  refine ⟨by rw [h.1, h2.1], fun i i0 i1 => ?_⟩
  rw [h.1] at i1
  have e1 := h.2 i.toNat (by omega)
  have e2 := h2.2 i.toNat (by omega)
  rw [e1] at e2
  rw [Int.toNat_of_nonneg i0] at e2
  exact (Option.some.inj e2).symm
theorem txt_mem {n : Int} {a : Int → Int} {w : List Int} (h : txt n a w) {i : Int} (i0 : 0 ≤ i) (i1 : i < n) : a i ∈ w := by
  rw [h.1] at i1
  have e1 := h.2 i.toNat (by omega)
  rw [Int.toNat_of_nonneg i0] at e1
  exact List.mem_of_getElem? e1
def otP (K : KT) (b : Int → Int) (f t : Int) (s : Nat) : Bool := decide (¬ (s : Int) = f) && (decide (b s = b f) && (hit K b s t && lgl K b s t))
def otF (K : KT) (b : Int → Int) (f t : Int) (s : Nat) : Bool := otP K b f t s && decide ((s : Int) % 8 = f % 8)
def otR (K : KT) (b : Int → Int) (f t : Int) (s : Nat) : Bool := otP K b f t s && decide ((s : Int) / 8 = f / 8)
def org (o sf sr : Bool) (f : Int) : List Int := (if (o && (!sf || sr)) = true then [97 + f % 8] else []) ++ (if sf = true then [49 + f / 8] else [])
def tgt (K : KT) (b : Int → Int) (f t : Int) : List Int := [97 + t % 8, 49 + t / 8] ++ (if sgn K b f t = -1 then [] else [sgn K b f t])
def mvB (K : KT) (L : Int → Int) (b : Int → Int) (f t : Int) : List Int := [L (b f / 2)] ++ (org (exB (otP K b f t) 64 0) (exB (otF K b f t) 64 0) (exB (otR K b f t) 64 0) f ++ ((if b t = -1 then [] else [120]) ++ tgt K b f t))
theorem org_len {o sf sr : Bool} {f : Int} : (org o sf sr f).length ≤ 2 := by
  unfold org
  split <;> split <;> simp
theorem tgt_len {K : KT} {b : Int → Int} {f t : Int} : (tgt K b f t).length ≤ 3 := by
  unfold tgt
  split <;> simp
theorem mvB_len {K : KT} {L b : Int → Int} {f t : Int} : (mvB K L b f t).length ≤ 7 := by
  have h1 := org_len (o := exB (otP K b f t) 64 0) (sf := exB (otF K b f t) 64 0) (sr := exB (otR K b f t) 64 0) (f := f)
  have h2 := tgt_len (K := K) (b := b) (f := f) (t := t)
  unfold mvB
  rw [List.length_append, List.length_append, List.length_append]
  split
  · simp only [List.length_cons, List.length_nil]; omega
  · simp only [List.length_cons, List.length_nil]; omega
theorem sgn_v {K : KT} {b : Int → Int} {f t : Int} : sgn K b f t = -1 ∨ sgn K b f t = 43 ∨ sgn K b f t = 35 := by
  unfold sgn
  split
  · split
    · exact Or.inr (Or.inl rfl)
    · exact Or.inr (Or.inr rfl)
  · exact Or.inl rfl
theorem mvB_rg {K : KT} {L b : Int → Int} {f t : Int} (hL : 65 ≤ L (b f / 2) ∧ L (b f / 2) ≤ 90) (hf : 0 ≤ f ∧ f < 64) (ht : 0 ≤ t ∧ t < 64) : ∀ v ∈ mvB K L b f t, 35 ≤ v ∧ v ≤ 120 ∧ v ≠ 40 ∧ v ≠ 41 := by
  intro v hv
  have hs := sgn_v (K := K) (b := b) (f := f) (t := t)
  unfold mvB org tgt at hv
  rw [List.mem_append, List.mem_append, List.mem_append, List.mem_append, List.mem_append] at hv
  rcases hv with h | (h | h) | h | h | h
  · rw [List.mem_singleton] at h; omega
  · split at h
    · rw [List.mem_singleton] at h; omega
    · exact absurd h List.not_mem_nil
  · split at h
    · rw [List.mem_singleton] at h; omega
    · exact absurd h List.not_mem_nil
  · split at h
    · exact absurd h List.not_mem_nil
    · rw [List.mem_singleton] at h; omega
  · rcases List.mem_cons.mp h with h | h
    · omega
    · rw [List.mem_singleton] at h; omega
  · split at h
    · exact absurd h List.not_mem_nil
    · rw [List.mem_singleton] at h; omega
def b2i (x : Bool) : Int := if x = true then 1 else 0
theorem b2i_0 {x : Bool} : wr (b2i x) = 0 ↔ x = false := by cases x <;> decide
theorem zor_b {x y : Bool} : zor (b2i x) (b2i y) = b2i (x || y) := by cases x <;> cases y <;> decide
end ZTEXT
end
section
section ZWRITE1
/-! the class writes a move (cells 19, 20) -/
def apT2 (p : Int) (h : HS) : HS := hs (hs h 20 (h 19 1) p) 19 1 (h 19 1 + 1)
def alT2 : List Int → HS → HS
  | [], h => h
  | v :: u, h => alT2 u (apT2 v h)
theorem alT2_app : ∀ (u v : List Int) (h : HS), alT2 (u ++ v) h = alT2 v (alT2 u h)
  | [], v, h => rfl
  | x :: u, v, h => by
    show alT2 (u ++ v) (apT2 x h) = alT2 v (alT2 u (apT2 x h))
    rw [alT2_app u v]
theorem apT2_ne {p : Int} {h : HS} {a : Nat} (ha : a ≠ 19) (hb : a ≠ 20) : apT2 p h a = h a := by
  unfold apT2
  rw [hs_ne _ _ _ ha, hs_ne _ _ _ hb]
theorem alT2_ne {a : Nat} (ha : a ≠ 19) (hb : a ≠ 20) : ∀ (u : List Int) (h : HS), alT2 u h a = h a
  | [], h => rfl
  | v :: u, h => by
    show alT2 u (apT2 v h) a = h a
    rw [alT2_ne ha hb u, apT2_ne ha hb]
theorem apT2_o {p : Int} {h : HS} {b : Int} (hb : b ≠ 1) : apT2 p h 19 b = h 19 b := by
  unfold apT2
  rw [hs_at, if_pos rfl, if_neg hb, hs_ne _ _ _ (by decide)]
theorem alT2_o {b : Int} (hb : b ≠ 1) : ∀ (u : List Int) (h : HS), alT2 u h 19 b = h 19 b
  | [], h => rfl
  | v :: u, h => by
    show alT2 u (apT2 v h) 19 b = h 19 b
    rw [alT2_o hb u, apT2_o hb]
theorem apT2_txt {p : Int} {h : HS} {w : List Int} (t : txt (h 19 1) (h 20) w) : txt (apT2 p h 19 1) (apT2 p h 20) (w ++ [p]) := by
  have e1 : apT2 p h 19 1 = h 19 1 + 1 := by unfold apT2; rw [hs_self]
  have e2 : ∀ i, apT2 p h 20 i = if i = h 19 1 then p else h 20 i := fun i => by unfold apT2; rw [hs_ne _ _ _ (by decide), hs_at, if_pos rfl]
  rw [e1]
  refine txt_app t (fun i i0 i1 => by rw [e2, if_neg (by omega)]) (by rw [e2, if_pos rfl])
theorem alT2_txt : ∀ (u : List Int) {h : HS} {w : List Int}, txt (h 19 1) (h 20) w → txt (alT2 u h 19 1) (alT2 u h 20) (w ++ u)
  | [], h, w, t => by
    rw [List.append_nil]
    exact t
  | v :: u, h, w, t => by
    have e := alT2_txt u (apT2_txt (p := v) t)
    rw [List.append_assoc] at e
    exact e
theorem pX3_appT2 {p : Int} {h : HS} (hn : 0 ≤ h 19 1 ∧ h 19 1 < 2000) : fX3_append p h = some (apT2 p h) := by
  unfold fX3_append apT2
  have e : hs h 20 (h 19 1) p 19 1 = h 19 1 := by simp [hs_at]
  rw [wr_of (z := h 19 1) (by omega) (by omega), if_neg (by omega), if_pos (by omega), e]
theorem apT2_sz {p : Int} {h : HS} : apT2 p h 19 1 = h 19 1 + 1 := by unfold apT2; rw [hs_self]
theorem alT2_sz : ∀ (u : List Int) (h : HS), alT2 u h 19 1 = h 19 1 + u.length
  | [], h => by show h 19 1 = h 19 1 + ((0 : Nat) : Int); omega
  | v :: u, h => by
    show alT2 u (apT2 v h) 19 1 = h 19 1 + (((v :: u).length : Nat) : Int)
    rw [alT2_sz u, apT2_sz, List.length_cons]
    omega
theorem cSt_alT2 {K : KT} {n : Int} {b : Int → Int} {h : HS} (c : cSt K n b h) (u : List Int) : cSt K n b (alT2 u h) := by
  refine ⟨by rw [alT2_ne (by decide) (by decide)]; exact c.1, fun s s0 s1 => by rw [alT2_ne (by decide) (by decide)]; exact c.2.1 s s0 s1, fun i i0 i1 => by rw [alT2_ne (by decide) (by decide)]; exact c.2.2.1 i i0 i1, fun i j i0 i1 j0 j1 => by rw [alT2_ne (by decide) (by decide), alT2_ne (by decide) (by decide), alT2_ne (by decide) (by decide)]; exact c.2.2.2 i j i0 i1 j0 j1⟩
theorem woT2_end {o sf sr : Bool} {f : Int} {h : HS} (hf : 0 ≤ f ∧ f < 64) (hsf : sf = true → o = true) (hn : 0 ≤ h 19 1 ∧ h 19 1 + 2 ≤ 2000) : (if wr (b2i o) = 0 then fX5_writeOrigin_b145 f (b2i sf) h else if wr (b2i sf) = 0 then fX5_writeOrigin_b134 f (b2i sf) h else if wr (b2i sr) = 0 then fX5_writeOrigin_b145 f (b2i sf) h else fX5_writeOrigin_b134 f (b2i sf) h) = some (alT2 (org o sf sr f) h) := by
  have f0 : 0 ≤ f ∧ f < 2147483648 := by omega
  have e145 : ∀ g : HS, 0 ≤ g 19 1 ∧ g 19 1 < 2000 → fX5_writeOrigin_b145 f (b2i sf) g = some (alT2 (if sf = true then [49 + f / 8] else []) g) := fun g hg => by
    unfold fX5_writeOrigin_b145
    cases sf
    · rw [if_pos (b2i_0.mpr rfl)]
      rfl
    · rw [if_neg (fun k => absurd (b2i_0.mp k) (by decide)), if_pos f0, pX3_appT2 hg, Option.bind_some]
      rfl
  have e134 : fX5_writeOrigin_b134 f (b2i sf) h = some (alT2 ([97 + f % 8] ++ (if sf = true then [49 + f / 8] else [])) h) := by
    unfold fX5_writeOrigin_b134
    rw [if_pos f0, pX3_appT2 ⟨hn.1, by omega⟩, Option.bind_some, e145 _ (by rw [apT2_sz]; omega)]
    rfl
  rw [e134, e145 h ⟨hn.1, by omega⟩]
  unfold org
  cases o
  · have es : sf = false := by
      cases sf
      · rfl
      · exact absurd (hsf rfl) (by decide)
    subst es
    rw [if_pos (b2i_0.mpr rfl)]
    rfl
  · rw [if_neg (fun k => absurd (b2i_0.mp k) (by decide))]
    cases sf
    · rw [if_pos (b2i_0.mpr rfl)]
      rfl
    · rw [if_neg (fun k => absurd (b2i_0.mp k) (by decide))]
      cases sr
      · rw [if_pos (b2i_0.mpr rfl)]
        rfl
      · rw [if_neg (fun k => absurd (b2i_0.mp k) (by decide))]
        rfl
theorem woT2_L {K : KT} {n : Int} {b : Int → Int} {h : HS} (g : gd K n b) (c : cSt K n b h) {f t : Int} (hf : 0 ≤ f ∧ f < 64) (ht : 0 ≤ t ∧ t < 64) (hb : 0 ≤ b f) (hn : 0 ≤ h 19 1 ∧ h 19 1 + 2 ≤ 2000) : ∀ (nf j : Nat) (o sf sr : Bool), (sf = true → o = true) → j ≤ 64 → 64 - j < nf → fX5_writeOrigin_L12 nf (b f) f t (b2i o) (b2i sf) (b2i sr) (j : Int) h = some (alT2 (org (o || exB (otP K b f t) (64 - j) j) (sf || exB (otF K b f t) (64 - j) j) (sr || exB (otR K b f t) (64 - j) j) f) h)
  | 0, j, o, sf, sr, hs1, h1, h2 => by omega
  | nf + 1, j, o, sf, sr, hs1, h1, h2 => by
    have n0 := g.1
    rw [fX5_writeOrigin_L12]
    unfold fX5_writeOrigin_b113 fX5_writeOrigin_b88 fX5_writeOrigin_b110 fX5_writeOrigin_b113
    rw [wr_of (z := (j : Int)) (by omega) (by omega), wr_of (z := f) (by omega) (by omega)]
    by_cases hj : (64 : Int) ≤ (j : Int)
    · rw [if_pos hj, exB_end (by omega), exB_end (by omega), exB_end (by omega), Bool.or_false, Bool.or_false, Bool.or_false]
      exact woT2_end hf hs1 hn
    · obtain ⟨v1, v2⟩ := g.2.1 (j : Int) (by omega) (by omega)
      obtain ⟨u1, u2⟩ := g.2.1 f hf.1 hf.2
      have ih := fun o2 sf2 sr2 (k : sf2 = true → o2 = true) => woT2_L g c hf ht hb hn nf (j + 1) o2 sf2 sr2 k (by omega) (by omega)
      have ej : (j : Int) + 1 = ((j + 1 : Nat) : Int) := by omega
      rw [if_neg hj, exB_64 (p := otP K b f t) (j := j) (by omega), exB_64 (p := otF K b f t) (j := j) (by omega), exB_64 (p := otR K b f t) (j := j) (by omega), ej]
      have skip : otP K b f t j = false → fX5_writeOrigin_L12 nf (b f) f t (b2i o) (b2i sf) (b2i sr) ((j + 1 : Nat) : Int) h = some (alT2 (org (o || (otP K b f t j || exB (otP K b f t) (64 - (j + 1)) (j + 1))) (sf || (otF K b f t j || exB (otF K b f t) (64 - (j + 1)) (j + 1))) (sr || (otR K b f t j || exB (otR K b f t) (64 - (j + 1)) (j + 1))) f) h) := fun e => by
        have e2 : otF K b f t j = false := by unfold otF; rw [e]; rfl
        have e3 : otR K b f t j = false := by unfold otR; rw [e]; rfl
        rw [e, e2, e3, Bool.false_or, Bool.false_or, Bool.false_or]
        exact ih o sf sr hs1
      by_cases q1 : (j : Int) = f
      · rw [if_pos q1]
        exact skip (by unfold otP; rw [decide_eq_false (fun k => k q1)]; rfl)
      · rw [if_neg q1, cX0_piece (by omega), Option.bind_some, c.2.1 (j : Int) (by omega) (by omega), wr_of (z := b j) (by omega) (by omega), wr_of (z := b f) (by omega) (by omega)]
        by_cases q2 : b j = b f
        · have hbj : 0 ≤ b j := by omega
          rw [if_pos q2, ucX0_reaches g c (by omega) hbj ht, Option.bind_some]
          by_cases q3 : hit K b j t = true
          · rw [if_pos q3, if_neg (show ¬ wr 1 = 0 by decide), cX0_safe g c (by omega) ht hbj, Option.bind_some]
            by_cases q4 : lgl K b j t = true
            · have e : otP K b f t j = true := by unfold otP; rw [decide_eq_true q1, decide_eq_true q2, q3, q4]; rfl
              have e2 : otF K b f t j = decide ((j : Int) % 8 = f % 8) := by unfold otF; rw [e]; rfl
              have e3 : otR K b f t j = decide ((j : Int) / 8 = f / 8) := by unfold otR; rw [e]; rfl
              have ih2 := ih true (sf || otF K b f t j) (sr || otR K b f t j) (fun _ => rfl)
              rw [Bool.or_assoc, Bool.or_assoc] at ih2
              simp only [if_pos q4, if_neg (show ¬ wr 1 = 0 by decide)]
              rw [if_pos (by omega), if_pos (by omega), wr_of (z := (j : Int) % 8) (by omega) (by omega), wr_of (z := f % 8) (by omega) (by omega), wr_of (z := (j : Int) / 8) (by omega) (by omega), wr_of (z := f / 8) (by omega) (by omega), e, Bool.true_or, Bool.or_true]
              rw [Bool.true_or] at ih2
              have hj2 : 0 ≤ (j : Int) ∧ (j : Int) < 2147483648 := by omega
              have hf2 : 0 ≤ f ∧ f < 2147483648 := by omega
              simp only [if_pos hj2, if_pos hf2]
              by_cases q5 : (j : Int) % 8 = f % 8
              · by_cases q6 : (j : Int) / 8 = f / 8
                · rw [if_pos q5, if_pos q6]
                  rw [e2, e3, decide_eq_true q5, decide_eq_true q6] at ih2 ⊢
                  rw [← zor_b, ← zor_b] at ih2
                  exact ih2
                · rw [if_pos q5, if_neg q6]
                  rw [e2, e3, decide_eq_true q5, decide_eq_false q6] at ih2 ⊢
                  rw [← zor_b, ← zor_b] at ih2
                  exact ih2
              · by_cases q6 : (j : Int) / 8 = f / 8
                · rw [if_neg q5, if_pos q6]
                  rw [e2, e3, decide_eq_false q5, decide_eq_true q6] at ih2 ⊢
                  rw [← zor_b, ← zor_b] at ih2
                  exact ih2
                · rw [if_neg q5, if_neg q6]
                  rw [e2, e3, decide_eq_false q5, decide_eq_false q6] at ih2 ⊢
                  rw [← zor_b, ← zor_b] at ih2
                  exact ih2
            · simp only [if_neg q4, if_pos wr_0]
              exact skip (by unfold otP; rw [Bool.eq_false_iff.mpr q4, Bool.and_false, Bool.and_false, Bool.and_false])
          · rw [if_neg q3, if_pos wr_0]
            exact skip (by unfold otP; rw [Bool.eq_false_iff.mpr q3, Bool.false_and, Bool.and_false, Bool.and_false])
        · rw [if_neg q2]
          exact skip (by unfold otP; rw [decide_eq_false q2, Bool.false_and, Bool.and_false])
theorem wmT2 {K : KT} {n : Int} {b : Int → Int} {h : HS} (g : gd K n b) (c : cSt K n b h) {f t : Int} (hf : 0 ≤ f ∧ f < 64) (ht : 0 ≤ t ∧ t < 64) (hb : 0 ≤ b f) (hn : 0 ≤ h 19 1 ∧ h 19 1 + 7 ≤ 2000) : fX5_writeMove f t h = some (alT2 (mvB K (h 2) b f t) h) := by
  have n0 := g.1
  obtain ⟨u1, u2⟩ := g.2.1 f hf.1 hf.2
  obtain ⟨v1, v2⟩ := g.2.1 t ht.1 ht.2
  have t0 : 0 ≤ t ∧ t < 2147483648 := by omega
  have el : fX1_letter (b f / 2) h = some (h 2 (b f / 2)) := by
    unfold fX1_letter fX1_has
    rw [c.1, wr_of (z := b f / 2) (by omega) (by omega), wr_of (z := n) (by omega) (by omega), if_neg (by omega), if_neg (by omega), Option.bind_some, if_neg (show ¬ wr 1 = 0 by decide), if_pos (by omega)]
  have eo : fX5_writeOrigin (b f) f t (apT2 (h 2 (b f / 2)) h) = some (alT2 (org (exB (otP K b f t) 64 0) (exB (otF K b f t) 64 0) (exB (otR K b f t) 64 0) f) (apT2 (h 2 (b f / 2)) h)) := by
    have e := woT2_L g (cSt_alT2 c [h 2 (b f / 2)]) hf ht hb (by rw [alT2_sz]; show 0 ≤ h 19 1 + ((1 : Nat) : Int) ∧ h 19 1 + ((1 : Nat) : Int) + 2 ≤ 2000; omega) zF 0 false false false (fun k => absurd k (by decide)) (by omega) (by unfold zF; omega)
    rw [Bool.false_or, Bool.false_or, Bool.false_or] at e
    exact e
  obtain ⟨u, eu⟩ : ∃ u, u = [h 2 (b f / 2)] ++ org (exB (otP K b f t) 64 0) (exB (otF K b f t) 64 0) (exB (otR K b f t) 64 0) f := ⟨_, rfl⟩
  have ul : u.length ≤ 3 := by
    have := org_len (o := exB (otP K b f t) 64 0) (sf := exB (otF K b f t) 64 0) (sr := exB (otR K b f t) 64 0) (f := f)
    rw [eu, List.length_append]
    simp only [List.length_cons, List.length_nil]
    omega
  have eo2 : fX5_writeOrigin (b f) f t (apT2 (h 2 (b f / 2)) h) = some (alT2 u h) := by
    rw [eo, eu, alT2_app]
    rfl
  have e51 : ∀ x : List Int, x.length ≤ 4 → fX5_writeMove_b51 f t (alT2 x h) = some (alT2 (tgt K b f t) (alT2 x h)) := fun x hx => by
    have sz := alT2_sz x h
    unfold fX5_writeMove_b51
    have s1 : fX3_append (97 + t % 8) (alT2 x h) = some (alT2 [97 + t % 8] (alT2 x h)) := pX3_appT2 (by omega)
    have s2 : fX3_append (49 + t / 8) (alT2 [97 + t % 8] (alT2 x h)) = some (alT2 [97 + t % 8, 49 + t / 8] (alT2 x h)) := pX3_appT2 (by rw [alT2_sz, sz]; show 0 ≤ h 19 1 + x.length + ((1 : Nat) : Int) ∧ h 19 1 + x.length + ((1 : Nat) : Int) < 2000; omega)
    have hsv := sgn_v (K := K) (b := b) (f := f) (t := t)
    rw [if_pos t0, s1, Option.bind_some, if_pos t0, s2, Option.bind_some, cX0_sign g (cSt_alT2 (cSt_alT2 c x) _) hf ht hb, Option.bind_some]
    unfold tgt
    dsimp only
    rw [wr_of (z := sgn K b f t) (by omega) (by omega)]
    by_cases q : sgn K b f t = -1
    · rw [if_pos q, if_pos q, List.append_nil]
    · rw [if_neg q, if_neg q, alT2_app]
      have s3 : fX3_append (sgn K b f t) (alT2 [97 + t % 8, 49 + t / 8] (alT2 x h)) = some (alT2 [sgn K b f t] (alT2 [97 + t % 8, 49 + t / 8] (alT2 x h))) := pX3_appT2 (by rw [alT2_sz, sz]; show 0 ≤ h 19 1 + x.length + ((2 : Nat) : Int) ∧ h 19 1 + x.length + ((2 : Nat) : Int) < 2000; omega)
      rw [s3, Option.bind_some]
  unfold fX5_writeMove
  rw [cX0_piece hf, c.2.1 f hf.1 hf.2, Option.bind_some, if_pos (by omega), el, Option.bind_some, pX3_appT2 ⟨hn.1, by omega⟩, Option.bind_some, eo2, Option.bind_some]
  unfold fX0_isTaken
  have c2 := cSt_alT2 c u
  rw [cX0_piece ht, c2.2.1 t ht.1 ht.2, Option.bind_some, wr_of (z := b t) (by omega) (by omega)]
  unfold mvB
  rw [← List.append_assoc, ← eu, alT2_app, alT2_app]
  by_cases q : b t = -1
  · rw [if_pos q, if_pos q, Option.bind_some, if_pos wr_0, e51 u (by omega)]
    rfl
  · have s4 : fX3_append 120 (alT2 u h) = some (alT2 (u ++ [120]) h) := by
      rw [alT2_app]
      exact pX3_appT2 (by rw [alT2_sz]; omega)
    rw [if_neg q, if_neg q, Option.bind_some, if_neg (show ¬ wr 1 = 0 by decide), s4, Option.bind_some, e51 _ (by rw [List.length_append]; simp only [List.length_cons, List.length_nil]; omega), alT2_app]
end ZWRITE1
end
section
section ZWRITE2
/-! the class writes a move (cells 21, 22) -/
def apD2 (p : Int) (h : HS) : HS := hs (hs h 22 (h 21 1) p) 21 1 (h 21 1 + 1)
def alD2 : List Int → HS → HS
  | [], h => h
  | v :: u, h => alD2 u (apD2 v h)
theorem alD2_app : ∀ (u v : List Int) (h : HS), alD2 (u ++ v) h = alD2 v (alD2 u h)
  | [], v, h => rfl
  | x :: u, v, h => by
    show alD2 (u ++ v) (apD2 x h) = alD2 v (alD2 u (apD2 x h))
    rw [alD2_app u v]
theorem apD2_ne {p : Int} {h : HS} {a : Nat} (ha : a ≠ 21) (hb : a ≠ 22) : apD2 p h a = h a := by
  unfold apD2
  rw [hs_ne _ _ _ ha, hs_ne _ _ _ hb]
theorem alD2_ne {a : Nat} (ha : a ≠ 21) (hb : a ≠ 22) : ∀ (u : List Int) (h : HS), alD2 u h a = h a
  | [], h => rfl
  | v :: u, h => by
    show alD2 u (apD2 v h) a = h a
    rw [alD2_ne ha hb u, apD2_ne ha hb]
theorem apD2_o {p : Int} {h : HS} {b : Int} (hb : b ≠ 1) : apD2 p h 21 b = h 21 b := by
  unfold apD2
  rw [hs_at, if_pos rfl, if_neg hb, hs_ne _ _ _ (by decide)]
theorem alD2_o {b : Int} (hb : b ≠ 1) : ∀ (u : List Int) (h : HS), alD2 u h 21 b = h 21 b
  | [], h => rfl
  | v :: u, h => by
    show alD2 u (apD2 v h) 21 b = h 21 b
    rw [alD2_o hb u, apD2_o hb]
theorem apD2_txt {p : Int} {h : HS} {w : List Int} (t : txt (h 21 1) (h 22) w) : txt (apD2 p h 21 1) (apD2 p h 22) (w ++ [p]) := by
  have e1 : apD2 p h 21 1 = h 21 1 + 1 := by unfold apD2; rw [hs_self]
  have e2 : ∀ i, apD2 p h 22 i = if i = h 21 1 then p else h 22 i := fun i => by unfold apD2; rw [hs_ne _ _ _ (by decide), hs_at, if_pos rfl]
  rw [e1]
  refine txt_app t (fun i i0 i1 => by rw [e2, if_neg (by omega)]) (by rw [e2, if_pos rfl])
theorem alD2_txt : ∀ (u : List Int) {h : HS} {w : List Int}, txt (h 21 1) (h 22) w → txt (alD2 u h 21 1) (alD2 u h 22) (w ++ u)
  | [], h, w, t => by
    rw [List.append_nil]
    exact t
  | v :: u, h, w, t => by
    have e := alD2_txt u (apD2_txt (p := v) t)
    rw [List.append_assoc] at e
    exact e
theorem pX3_appD2 {p : Int} {h : HS} (hn : 0 ≤ h 21 1 ∧ h 21 1 < 2000) : fX3_append_d p h = some (apD2 p h) := by
  unfold fX3_append_d apD2
  have e : hs h 22 (h 21 1) p 21 1 = h 21 1 := by simp [hs_at]
  rw [wr_of (z := h 21 1) (by omega) (by omega), if_neg (by omega), if_pos (by omega), e]
theorem apD2_sz {p : Int} {h : HS} : apD2 p h 21 1 = h 21 1 + 1 := by unfold apD2; rw [hs_self]
theorem alD2_sz : ∀ (u : List Int) (h : HS), alD2 u h 21 1 = h 21 1 + u.length
  | [], h => by show h 21 1 = h 21 1 + ((0 : Nat) : Int); omega
  | v :: u, h => by
    show alD2 u (apD2 v h) 21 1 = h 21 1 + (((v :: u).length : Nat) : Int)
    rw [alD2_sz u, apD2_sz, List.length_cons]
    omega
theorem cSt_alD2 {K : KT} {n : Int} {b : Int → Int} {h : HS} (c : cSt K n b h) (u : List Int) : cSt K n b (alD2 u h) := by
  refine ⟨by rw [alD2_ne (by decide) (by decide)]; exact c.1, fun s s0 s1 => by rw [alD2_ne (by decide) (by decide)]; exact c.2.1 s s0 s1, fun i i0 i1 => by rw [alD2_ne (by decide) (by decide)]; exact c.2.2.1 i i0 i1, fun i j i0 i1 j0 j1 => by rw [alD2_ne (by decide) (by decide), alD2_ne (by decide) (by decide), alD2_ne (by decide) (by decide)]; exact c.2.2.2 i j i0 i1 j0 j1⟩
theorem woD2_end {o sf sr : Bool} {f : Int} {h : HS} (hf : 0 ≤ f ∧ f < 64) (hsf : sf = true → o = true) (hn : 0 ≤ h 21 1 ∧ h 21 1 + 2 ≤ 2000) : (if wr (b2i o) = 0 then fX5_writeOrigin_d_b145 f (b2i sf) h else if wr (b2i sf) = 0 then fX5_writeOrigin_d_b134 f (b2i sf) h else if wr (b2i sr) = 0 then fX5_writeOrigin_d_b145 f (b2i sf) h else fX5_writeOrigin_d_b134 f (b2i sf) h) = some (alD2 (org o sf sr f) h) := by
  have f0 : 0 ≤ f ∧ f < 2147483648 := by omega
  have e145 : ∀ g : HS, 0 ≤ g 21 1 ∧ g 21 1 < 2000 → fX5_writeOrigin_d_b145 f (b2i sf) g = some (alD2 (if sf = true then [49 + f / 8] else []) g) := fun g hg => by
    unfold fX5_writeOrigin_d_b145
    cases sf
    · rw [if_pos (b2i_0.mpr rfl)]
      rfl
    · rw [if_neg (fun k => absurd (b2i_0.mp k) (by decide)), if_pos f0, pX3_appD2 hg, Option.bind_some]
      rfl
  have e134 : fX5_writeOrigin_d_b134 f (b2i sf) h = some (alD2 ([97 + f % 8] ++ (if sf = true then [49 + f / 8] else [])) h) := by
    unfold fX5_writeOrigin_d_b134
    rw [if_pos f0, pX3_appD2 ⟨hn.1, by omega⟩, Option.bind_some, e145 _ (by rw [apD2_sz]; omega)]
    rfl
  rw [e134, e145 h ⟨hn.1, by omega⟩]
  unfold org
  cases o
  · have es : sf = false := by
      cases sf
      · rfl
      · exact absurd (hsf rfl) (by decide)
    subst es
    rw [if_pos (b2i_0.mpr rfl)]
    rfl
  · rw [if_neg (fun k => absurd (b2i_0.mp k) (by decide))]
    cases sf
    · rw [if_pos (b2i_0.mpr rfl)]
      rfl
    · rw [if_neg (fun k => absurd (b2i_0.mp k) (by decide))]
      cases sr
      · rw [if_pos (b2i_0.mpr rfl)]
        rfl
      · rw [if_neg (fun k => absurd (b2i_0.mp k) (by decide))]
        rfl
theorem woD2_L {K : KT} {n : Int} {b : Int → Int} {h : HS} (g : gd K n b) (c : cSt K n b h) {f t : Int} (hf : 0 ≤ f ∧ f < 64) (ht : 0 ≤ t ∧ t < 64) (hb : 0 ≤ b f) (hn : 0 ≤ h 21 1 ∧ h 21 1 + 2 ≤ 2000) : ∀ (nf j : Nat) (o sf sr : Bool), (sf = true → o = true) → j ≤ 64 → 64 - j < nf → fX5_writeOrigin_d_L12 nf (b f) f t (b2i o) (b2i sf) (b2i sr) (j : Int) h = some (alD2 (org (o || exB (otP K b f t) (64 - j) j) (sf || exB (otF K b f t) (64 - j) j) (sr || exB (otR K b f t) (64 - j) j) f) h)
  | 0, j, o, sf, sr, hs1, h1, h2 => by omega
  | nf + 1, j, o, sf, sr, hs1, h1, h2 => by
    have n0 := g.1
    rw [fX5_writeOrigin_d_L12]
    unfold fX5_writeOrigin_d_b113 fX5_writeOrigin_d_b88 fX5_writeOrigin_d_b110 fX5_writeOrigin_d_b113
    rw [wr_of (z := (j : Int)) (by omega) (by omega), wr_of (z := f) (by omega) (by omega)]
    by_cases hj : (64 : Int) ≤ (j : Int)
    · rw [if_pos hj, exB_end (by omega), exB_end (by omega), exB_end (by omega), Bool.or_false, Bool.or_false, Bool.or_false]
      exact woD2_end hf hs1 hn
    · obtain ⟨v1, v2⟩ := g.2.1 (j : Int) (by omega) (by omega)
      obtain ⟨u1, u2⟩ := g.2.1 f hf.1 hf.2
      have ih := fun o2 sf2 sr2 (k : sf2 = true → o2 = true) => woD2_L g c hf ht hb hn nf (j + 1) o2 sf2 sr2 k (by omega) (by omega)
      have ej : (j : Int) + 1 = ((j + 1 : Nat) : Int) := by omega
      rw [if_neg hj, exB_64 (p := otP K b f t) (j := j) (by omega), exB_64 (p := otF K b f t) (j := j) (by omega), exB_64 (p := otR K b f t) (j := j) (by omega), ej]
      have skip : otP K b f t j = false → fX5_writeOrigin_d_L12 nf (b f) f t (b2i o) (b2i sf) (b2i sr) ((j + 1 : Nat) : Int) h = some (alD2 (org (o || (otP K b f t j || exB (otP K b f t) (64 - (j + 1)) (j + 1))) (sf || (otF K b f t j || exB (otF K b f t) (64 - (j + 1)) (j + 1))) (sr || (otR K b f t j || exB (otR K b f t) (64 - (j + 1)) (j + 1))) f) h) := fun e => by
        have e2 : otF K b f t j = false := by unfold otF; rw [e]; rfl
        have e3 : otR K b f t j = false := by unfold otR; rw [e]; rfl
        rw [e, e2, e3, Bool.false_or, Bool.false_or, Bool.false_or]
        exact ih o sf sr hs1
      by_cases q1 : (j : Int) = f
      · rw [if_pos q1]
        exact skip (by unfold otP; rw [decide_eq_false (fun k => k q1)]; rfl)
      · rw [if_neg q1, cX0_piece (by omega), Option.bind_some, c.2.1 (j : Int) (by omega) (by omega), wr_of (z := b j) (by omega) (by omega), wr_of (z := b f) (by omega) (by omega)]
        by_cases q2 : b j = b f
        · have hbj : 0 ≤ b j := by omega
          rw [if_pos q2, ucX0_reaches g c (by omega) hbj ht, Option.bind_some]
          by_cases q3 : hit K b j t = true
          · rw [if_pos q3, if_neg (show ¬ wr 1 = 0 by decide), cX0_safe g c (by omega) ht hbj, Option.bind_some]
            by_cases q4 : lgl K b j t = true
            · have e : otP K b f t j = true := by unfold otP; rw [decide_eq_true q1, decide_eq_true q2, q3, q4]; rfl
              have e2 : otF K b f t j = decide ((j : Int) % 8 = f % 8) := by unfold otF; rw [e]; rfl
              have e3 : otR K b f t j = decide ((j : Int) / 8 = f / 8) := by unfold otR; rw [e]; rfl
              have ih2 := ih true (sf || otF K b f t j) (sr || otR K b f t j) (fun _ => rfl)
              rw [Bool.or_assoc, Bool.or_assoc] at ih2
              simp only [if_pos q4, if_neg (show ¬ wr 1 = 0 by decide)]
              rw [if_pos (by omega), if_pos (by omega), wr_of (z := (j : Int) % 8) (by omega) (by omega), wr_of (z := f % 8) (by omega) (by omega), wr_of (z := (j : Int) / 8) (by omega) (by omega), wr_of (z := f / 8) (by omega) (by omega), e, Bool.true_or, Bool.or_true]
              rw [Bool.true_or] at ih2
              have hj2 : 0 ≤ (j : Int) ∧ (j : Int) < 2147483648 := by omega
              have hf2 : 0 ≤ f ∧ f < 2147483648 := by omega
              simp only [if_pos hj2, if_pos hf2]
              by_cases q5 : (j : Int) % 8 = f % 8
              · by_cases q6 : (j : Int) / 8 = f / 8
                · rw [if_pos q5, if_pos q6]
                  rw [e2, e3, decide_eq_true q5, decide_eq_true q6] at ih2 ⊢
                  rw [← zor_b, ← zor_b] at ih2
                  exact ih2
                · rw [if_pos q5, if_neg q6]
                  rw [e2, e3, decide_eq_true q5, decide_eq_false q6] at ih2 ⊢
                  rw [← zor_b, ← zor_b] at ih2
                  exact ih2
              · by_cases q6 : (j : Int) / 8 = f / 8
                · rw [if_neg q5, if_pos q6]
                  rw [e2, e3, decide_eq_false q5, decide_eq_true q6] at ih2 ⊢
                  rw [← zor_b, ← zor_b] at ih2
                  exact ih2
                · rw [if_neg q5, if_neg q6]
                  rw [e2, e3, decide_eq_false q5, decide_eq_false q6] at ih2 ⊢
                  rw [← zor_b, ← zor_b] at ih2
                  exact ih2
            · simp only [if_neg q4, if_pos wr_0]
              exact skip (by unfold otP; rw [Bool.eq_false_iff.mpr q4, Bool.and_false, Bool.and_false, Bool.and_false])
          · rw [if_neg q3, if_pos wr_0]
            exact skip (by unfold otP; rw [Bool.eq_false_iff.mpr q3, Bool.false_and, Bool.and_false, Bool.and_false])
        · rw [if_neg q2]
          exact skip (by unfold otP; rw [decide_eq_false q2, Bool.false_and, Bool.and_false])
theorem wmD2 {K : KT} {n : Int} {b : Int → Int} {h : HS} (g : gd K n b) (c : cSt K n b h) {f t : Int} (hf : 0 ≤ f ∧ f < 64) (ht : 0 ≤ t ∧ t < 64) (hb : 0 ≤ b f) (hn : 0 ≤ h 21 1 ∧ h 21 1 + 7 ≤ 2000) : fX5_writeMove_d f t h = some (alD2 (mvB K (h 2) b f t) h) := by
  have n0 := g.1
  obtain ⟨u1, u2⟩ := g.2.1 f hf.1 hf.2
  obtain ⟨v1, v2⟩ := g.2.1 t ht.1 ht.2
  have t0 : 0 ≤ t ∧ t < 2147483648 := by omega
  have el : fX1_letter (b f / 2) h = some (h 2 (b f / 2)) := by
    unfold fX1_letter fX1_has
    rw [c.1, wr_of (z := b f / 2) (by omega) (by omega), wr_of (z := n) (by omega) (by omega), if_neg (by omega), if_neg (by omega), Option.bind_some, if_neg (show ¬ wr 1 = 0 by decide), if_pos (by omega)]
  have eo : fX5_writeOrigin_d (b f) f t (apD2 (h 2 (b f / 2)) h) = some (alD2 (org (exB (otP K b f t) 64 0) (exB (otF K b f t) 64 0) (exB (otR K b f t) 64 0) f) (apD2 (h 2 (b f / 2)) h)) := by
    have e := woD2_L g (cSt_alD2 c [h 2 (b f / 2)]) hf ht hb (by rw [alD2_sz]; show 0 ≤ h 21 1 + ((1 : Nat) : Int) ∧ h 21 1 + ((1 : Nat) : Int) + 2 ≤ 2000; omega) zF 0 false false false (fun k => absurd k (by decide)) (by omega) (by unfold zF; omega)
    rw [Bool.false_or, Bool.false_or, Bool.false_or] at e
    exact e
  obtain ⟨u, eu⟩ : ∃ u, u = [h 2 (b f / 2)] ++ org (exB (otP K b f t) 64 0) (exB (otF K b f t) 64 0) (exB (otR K b f t) 64 0) f := ⟨_, rfl⟩
  have ul : u.length ≤ 3 := by
    have := org_len (o := exB (otP K b f t) 64 0) (sf := exB (otF K b f t) 64 0) (sr := exB (otR K b f t) 64 0) (f := f)
    rw [eu, List.length_append]
    simp only [List.length_cons, List.length_nil]
    omega
  have eo2 : fX5_writeOrigin_d (b f) f t (apD2 (h 2 (b f / 2)) h) = some (alD2 u h) := by
    rw [eo, eu, alD2_app]
    rfl
  have e51 : ∀ x : List Int, x.length ≤ 4 → fX5_writeMove_d_b51 f t (alD2 x h) = some (alD2 (tgt K b f t) (alD2 x h)) := fun x hx => by
    have sz := alD2_sz x h
    unfold fX5_writeMove_d_b51
    have s1 : fX3_append_d (97 + t % 8) (alD2 x h) = some (alD2 [97 + t % 8] (alD2 x h)) := pX3_appD2 (by omega)
    have s2 : fX3_append_d (49 + t / 8) (alD2 [97 + t % 8] (alD2 x h)) = some (alD2 [97 + t % 8, 49 + t / 8] (alD2 x h)) := pX3_appD2 (by rw [alD2_sz, sz]; show 0 ≤ h 21 1 + x.length + ((1 : Nat) : Int) ∧ h 21 1 + x.length + ((1 : Nat) : Int) < 2000; omega)
    have hsv := sgn_v (K := K) (b := b) (f := f) (t := t)
    rw [if_pos t0, s1, Option.bind_some, if_pos t0, s2, Option.bind_some, cX0_sign g (cSt_alD2 (cSt_alD2 c x) _) hf ht hb, Option.bind_some]
    unfold tgt
    dsimp only
    rw [wr_of (z := sgn K b f t) (by omega) (by omega)]
    by_cases q : sgn K b f t = -1
    · rw [if_pos q, if_pos q, List.append_nil]
    · rw [if_neg q, if_neg q, alD2_app]
      have s3 : fX3_append_d (sgn K b f t) (alD2 [97 + t % 8, 49 + t / 8] (alD2 x h)) = some (alD2 [sgn K b f t] (alD2 [97 + t % 8, 49 + t / 8] (alD2 x h))) := pX3_appD2 (by rw [alD2_sz, sz]; show 0 ≤ h 21 1 + x.length + ((2 : Nat) : Int) ∧ h 21 1 + x.length + ((2 : Nat) : Int) < 2000; omega)
      rw [s3, Option.bind_some]
  unfold fX5_writeMove_d
  rw [cX0_piece hf, c.2.1 f hf.1 hf.2, Option.bind_some, if_pos (by omega), el, Option.bind_some, pX3_appD2 ⟨hn.1, by omega⟩, Option.bind_some, eo2, Option.bind_some]
  unfold fX0_isTaken
  have c2 := cSt_alD2 c u
  rw [cX0_piece ht, c2.2.1 t ht.1 ht.2, Option.bind_some, wr_of (z := b t) (by omega) (by omega)]
  unfold mvB
  rw [← List.append_assoc, ← eu, alD2_app, alD2_app]
  by_cases q : b t = -1
  · rw [if_pos q, if_pos q, Option.bind_some, if_pos wr_0, e51 u (by omega)]
    rfl
  · have s4 : fX3_append_d 120 (alD2 u h) = some (alD2 (u ++ [120]) h) := by
      rw [alD2_app]
      exact pX3_appD2 (by rw [alD2_sz]; omega)
    rw [if_neg q, if_neg q, Option.bind_some, if_neg (show ¬ wr 1 = 0 by decide), s4, Option.bind_some, e51 _ (by rw [List.length_append]; simp only [List.length_cons, List.length_nil]; omega), alD2_app]
end ZWRITE2
end
section
section ZPUT
/-! the reference writes a move -/
abbrev MT (w : List Int) (g : HS) : Prop := g 30 24 = 0 ∧ txt (g 30 23) (g 41) w
abbrev frP (g1 g : HS) : Prop := (∀ a : Nat, a ≠ 36 → a ≠ 41 → a ≠ 30 → g1 a = g a) ∧ (∀ b : Int, b ≠ 23 → b ≠ 24 → g1 30 b = g 30 b)
theorem frP_rf {g : HS} : frP g g := ⟨fun _ _ _ _ => rfl, fun _ _ _ => rfl⟩
theorem frP_tr {g2 g1 g : HS} (a : frP g2 g1) (b : frP g1 g) : frP g2 g := ⟨fun i h1 h2 h3 => by rw [a.1 i h1 h2 h3, b.1 i h1 h2 h3], fun i h1 h2 => by rw [a.2 i h1 h2, b.2 i h1 h2]⟩
theorem fr36.P {g1 g : HS} (f : fr36 g1 g) : frP g1 g := ⟨fun a h1 _ _ => f a h1, fun b _ _ => by rw [f 30 (by decide)]⟩
theorem MT_fr {w : List Int} {g1 g : HS} (m : MT w g) (f : fr36 g1 g) : MT w g1 := ⟨by rw [f 30 (by decide)]; exact m.1, by rw [f 30 (by decide), f 41 (by decide)]; exact m.2⟩
theorem mSt_P {K : KT} {b : Int → Int} {g g1 : HS} (w : mSt 35 K b g) (f : frP g1 g) : mSt 35 K b g1 :=
  ⟨fun s s0 s1 => by rw [f.1 35 (by decide) (by decide) (by decide)]; exact w.1 s s0 s1, fun i i0 i1 => by rw [f.1 32 (by decide) (by decide) (by decide)]; exact w.2.1 i i0 i1, fun i j i0 i1 j0 j1 => by rw [f.1 33 (by decide) (by decide) (by decide)]; exact w.2.2 i j i0 i1 j0 j1⟩
theorem mPut {w : List Int} {g : HS} (m : MT w g) (hl : w.length < 2000) (v : Int) : ∃ g1, fX6_put_ v g = some g1 ∧ MT (w ++ [v]) g1 ∧ frP g1 g := by
  obtain ⟨m1, m2⟩ := m
  have sz := m2.1
  have z24 : hs g 30 24 0 30 24 = 0 := hs_self
  have z23 : hs g 30 24 0 30 23 = g 30 23 := by rw [hs_at, if_pos rfl, if_neg (by decide)]
  have z23b : hs (hs g 30 24 0) 41 (g 30 23) v 30 23 = g 30 23 := by rw [hs_ne _ _ _ (by decide), z23]
  refine ⟨hs (hs (hs g 30 24 0) 41 (g 30 23) v) 30 23 (g 30 23 + 1), ?_, ⟨?_, ?_⟩, ⟨fun a h1 h2 h3 => by rw [hs_ne _ _ _ h3, hs_ne _ _ _ h2, hs_ne _ _ _ h3], fun b h1 h2 => by rw [hs_at, if_pos rfl, if_neg h1, hs_ne _ _ _ (by decide), hs_at, if_pos rfl, if_neg h2]⟩⟩
  · unfold fX6_put_ fX6_put__b18 fX6_put__b23
    rw [m1, if_pos wr_0, wr_of (z := g 30 23) (by omega) (by omega), if_neg (by omega), if_pos (Or.inl rfl), z24, if_pos wr_0, z23, if_pos (by omega), z23b]
  · rw [hs_at, if_pos rfl, if_neg (by decide), hs_ne _ _ _ (by decide), z24]
  · rw [hs_self, hs_ne _ _ _ (by decide)]
    refine txt_app m2 (fun i i0 i1 => ?_) ?_
    · rw [hs_at, if_pos rfl, if_neg (by omega), hs_ne _ _ _ (by decide)]
    · rw [hs_self]
theorem m202 {K : KT} {n : Int} {b : Int → Int} (g0 : gd K n b) {f t : Int} (hf : 0 ≤ f ∧ f < 64) (ht : 0 ≤ t ∧ t < 64) (hb : 0 ≤ b f) {w : List Int} {g : HS} (s : mSt 35 K b g) (m : MT w g) (hl : w.length + 3 ≤ 2000) : ∃ g1, fX6_putMove_b202 f t g = some g1 ∧ MT (w ++ tgt K b f t) g1 ∧ frP g1 g := by
  have t0 : 0 ≤ t ∧ t < 2147483648 := by omega
  have hsv := sgn_v (K := K) (b := b) (f := f) (t := t)
  obtain ⟨g1, e1, m1, f1⟩ := mPut m (by omega) (97 + t % 8)
  obtain ⟨g2, e2, m2, f2⟩ := mPut m1 (by rw [List.length_append]; simp only [List.length_cons, List.length_nil]; omega) (49 + t / 8)
  have f20 := frP_tr f2 f1
  obtain ⟨g3, e3, f3⟩ := umX6_sign g0 (mSt_P s f20) hf ht hb
  have m3 := MT_fr m2 f3
  have f30 := frP_tr f3.P f20
  unfold fX6_putMove_b202 tgt
  rw [if_pos t0, e1, Option.bind_some, if_pos t0, e2, Option.bind_some, e3, Option.bind_some]
  dsimp only
  rw [wr_of (z := sgn K b f t) (by omega) (by omega)]
  by_cases q : sgn K b f t = -1
  · rw [if_pos q, if_pos q, List.append_nil]
    refine ⟨g3, rfl, ?_, f30⟩
    rw [List.append_assoc] at m3
    exact m3
  · obtain ⟨g4, e4, m4, f4⟩ := mPut m3 (by rw [List.length_append, List.length_append]; simp only [List.length_cons, List.length_nil]; omega) (sgn K b f t)
    rw [if_neg q, if_neg q, e4, Option.bind_some]
    refine ⟨g4, rfl, ?_, frP_tr f4 f30⟩
    rw [List.append_assoc, List.append_assoc] at m4
    exact m4
theorem m186 {K : KT} {n : Int} {b : Int → Int} (g0 : gd K n b) {f t : Int} (hf : 0 ≤ f ∧ f < 64) (ht : 0 ≤ t ∧ t < 64) (hb : 0 ≤ b f) {w : List Int} {g : HS} (s : mSt 35 K b g) (m : MT w g) (hl : w.length + 4 ≤ 2000) : ∃ g1, fX6_putMove_b186 f t g = some g1 ∧ MT (w ++ ((if b t = -1 then [] else [120]) ++ tgt K b f t)) g1 ∧ frP g1 g := by
  have n0 := g0.1
  obtain ⟨v1, v2⟩ := g0.2.1 t ht.1 ht.2
  unfold fX6_putMove_b186
  rw [if_pos ht, s.1 t ht.1 ht.2, wr_of (z := b t) (by omega) (by omega)]
  by_cases q : b t = -1
  · rw [if_pos q, if_pos q, List.nil_append]
    exact m202 g0 hf ht hb s m (by omega)
  · obtain ⟨g1, e1, m1, f1⟩ := mPut m (by omega) 120
    obtain ⟨g2, e2, m2, f2⟩ := m202 g0 hf ht hb (mSt_P s f1) m1 (by rw [List.length_append]; simp only [List.length_cons, List.length_nil]; omega)
    rw [if_neg q, if_neg q, e1, Option.bind_some, e2]
    refine ⟨g2, rfl, ?_, frP_tr f2 f1⟩
    rw [List.append_assoc] at m2
    exact m2
theorem m165 {K : KT} {n : Int} {b : Int → Int} (g0 : gd K n b) {f t : Int} (hf : 0 ≤ f ∧ f < 64) (ht : 0 ≤ t ∧ t < 64) (hb : 0 ≤ b f) {w : List Int} {g : HS} (s : mSt 35 K b g) (m : MT w g) (hl : w.length + 5 ≤ 2000) {o sf : Bool} (hs1 : sf = true → o = true) : ∃ g1, fX6_putMove_b165 f t (b2i o) (b2i sf) g = some g1 ∧ MT (w ++ ((if sf = true then [49 + f / 8] else []) ++ ((if b t = -1 then [] else [120]) ++ tgt K b f t))) g1 ∧ frP g1 g := by
  have f0 : 0 ≤ f ∧ f < 2147483648 := by omega
  unfold fX6_putMove_b165
  cases sf
  · have e : (if wr (b2i o) = 0 then fX6_putMove_b186 f t g else if wr (b2i false) = 0 then fX6_putMove_b186 f t g else if 0 ≤ f ∧ f < 2147483648 then (fX6_put_ (49 + f / 8) g).bind fun r6 => fX6_putMove_b186 f t r6 else none) = fX6_putMove_b186 f t g := by
      rw [if_pos (b2i_0.mpr (rfl : false = false)), ite_self]
    rw [e, if_neg (by decide), List.nil_append]
    exact m186 g0 hf ht hb s m (by omega)
  · have ho := hs1 rfl
    subst ho
    obtain ⟨g1, e1, m1, f1⟩ := mPut m (by omega) (49 + f / 8)
    obtain ⟨g2, e2, m2, f2⟩ := m186 g0 hf ht hb (mSt_P s f1) m1 (by rw [List.length_append]; simp only [List.length_cons, List.length_nil]; omega)
    rw [if_neg (fun k => absurd (b2i_0.mp k) (by decide)), if_neg (fun k => absurd (b2i_0.mp k) (by decide)), if_pos f0, e1, Option.bind_some, e2, if_pos rfl]
    refine ⟨g2, rfl, ?_, frP_tr f2 f1⟩
    rw [List.append_assoc] at m2
    exact m2
theorem m154 {K : KT} {n : Int} {b : Int → Int} (g0 : gd K n b) {f t : Int} (hf : 0 ≤ f ∧ f < 64) (ht : 0 ≤ t ∧ t < 64) (hb : 0 ≤ b f) {w : List Int} {g : HS} (s : mSt 35 K b g) (m : MT w g) (hl : w.length + 6 ≤ 2000) {o sf : Bool} (hs1 : sf = true → o = true) : ∃ g1, fX6_putMove_b154 f t (b2i o) (b2i sf) g = some g1 ∧ MT (w ++ ([97 + f % 8] ++ ((if sf = true then [49 + f / 8] else []) ++ ((if b t = -1 then [] else [120]) ++ tgt K b f t)))) g1 ∧ frP g1 g := by
  have f0 : 0 ≤ f ∧ f < 2147483648 := by omega
  obtain ⟨g1, e1, m1, f1⟩ := mPut m (by omega) (97 + f % 8)
  obtain ⟨g2, e2, m2, f2⟩ := m165 g0 hf ht hb (mSt_P s f1) m1 (by rw [List.length_append]; simp only [List.length_cons, List.length_nil]; omega) hs1
  unfold fX6_putMove_b154
  rw [if_pos f0, e1, Option.bind_some, e2]
  refine ⟨g2, rfl, ?_, frP_tr f2 f1⟩
  rw [List.append_assoc] at m2
  exact m2
theorem mEnd {K : KT} {n : Int} {b : Int → Int} (g0 : gd K n b) {f t : Int} (hf : 0 ≤ f ∧ f < 64) (ht : 0 ≤ t ∧ t < 64) (hb : 0 ≤ b f) {w : List Int} {g : HS} (s : mSt 35 K b g) (m : MT w g) (hl : w.length + 6 ≤ 2000) {o sf sr : Bool} (hs1 : sf = true → o = true) : ∃ g1, (if wr (b2i o) = 0 then fX6_putMove_b165 f t (b2i o) (b2i sf) g else if wr (b2i sf) = 0 then fX6_putMove_b154 f t (b2i o) (b2i sf) g else if wr (b2i sr) = 0 then fX6_putMove_b165 f t (b2i o) (b2i sf) g else fX6_putMove_b154 f t (b2i o) (b2i sf) g) = some g1 ∧ MT (w ++ (org o sf sr f ++ ((if b t = -1 then [] else [120]) ++ tgt K b f t))) g1 ∧ frP g1 g := by
  have a := m165 g0 hf ht hb s m (by omega) hs1
  have c := m154 g0 hf ht hb s m hl hs1
  unfold org
  cases o
  · rw [if_pos (b2i_0.mpr (rfl : false = false))]
    rw [Bool.false_and, if_neg (show ¬ false = true by decide), List.nil_append]
    exact a
  · rw [if_neg (fun k => absurd (b2i_0.mp k) (by decide))]
    cases sf
    · rw [if_pos (b2i_0.mpr (rfl : false = false)), if_pos (show (true && (!false || sr)) = true by cases sr <;> rfl), List.append_assoc]
      exact c
    · rw [if_neg (fun k => absurd (b2i_0.mp k) (by decide))]
      cases sr
      · rw [if_pos (b2i_0.mpr (rfl : false = false)), if_neg (show ¬ (true && (!true || false)) = true by decide), List.nil_append]
        exact a
      · rw [if_neg (fun k => absurd (b2i_0.mp k) (by decide)), if_pos (show (true && (!true || true)) = true by decide), List.append_assoc]
        exact c
theorem mLoop {K : KT} {n : Int} {b : Int → Int} (g0 : gd K n b) {f t : Int} (hf : 0 ≤ f ∧ f < 64) (ht : 0 ≤ t ∧ t < 64) (hb : 0 ≤ b f) {w : List Int} (hl : w.length + 6 ≤ 2000) : ∀ (nf j : Nat) (o sf sr : Bool) (g : HS), mSt 35 K b g → MT w g → (sf = true → o = true) → j ≤ 64 → 64 - j < nf → ∃ g1, fX6_putMove_L31 nf f t (b f) (b2i o) (b2i sf) (b2i sr) (j : Int) g = some g1 ∧ MT (w ++ (org (o || exB (otP K b f t) (64 - j) j) (sf || exB (otF K b f t) (64 - j) j) (sr || exB (otR K b f t) (64 - j) j) f ++ ((if b t = -1 then [] else [120]) ++ tgt K b f t))) g1 ∧ frP g1 g
  | 0, j, o, sf, sr, g, s, m, hs1, h1, h2 => by omega
  | nf + 1, j, o, sf, sr, g, s, m, hs1, h1, h2 => by
    have n0 := g0.1
    rw [fX6_putMove_L31]
    unfold fX6_putMove_b133 fX6_putMove_b102 fX6_putMove_b107 fX6_putMove_b126 fX6_putMove_b131 fX6_putMove_b133
    rw [wr_of (z := (j : Int)) (by omega) (by omega), wr_of (z := f) (by omega) (by omega)]
    by_cases hj : (64 : Int) ≤ (j : Int)
    · rw [if_pos hj, exB_end (by omega), exB_end (by omega), exB_end (by omega), Bool.or_false, Bool.or_false, Bool.or_false]
      exact mEnd g0 hf ht hb s m hl hs1
    · obtain ⟨v1, v2⟩ := g0.2.1 (j : Int) (by omega) (by omega)
      obtain ⟨u1, u2⟩ := g0.2.1 f hf.1 hf.2
      have ih := fun o2 sf2 sr2 g2 (k1 : mSt 35 K b g2) (k2 : MT w g2) (k : sf2 = true → o2 = true) => mLoop g0 hf ht hb hl nf (j + 1) o2 sf2 sr2 g2 k1 k2 k (by omega) (by omega)
      have ej : (j : Int) + 1 = ((j + 1 : Nat) : Int) := by omega
      rw [if_neg hj, exB_64 (p := otP K b f t) (j := j) (by omega), exB_64 (p := otF K b f t) (j := j) (by omega), exB_64 (p := otR K b f t) (j := j) (by omega), ej]
      have skip : ∀ g2, fr36 g2 g → otP K b f t j = false → ∃ g1, fX6_putMove_L31 nf f t (b f) (b2i o) (b2i sf) (b2i sr) ((j + 1 : Nat) : Int) g2 = some g1 ∧ MT (w ++ (org (o || (otP K b f t j || exB (otP K b f t) (64 - (j + 1)) (j + 1))) (sf || (otF K b f t j || exB (otF K b f t) (64 - (j + 1)) (j + 1))) (sr || (otR K b f t j || exB (otR K b f t) (64 - (j + 1)) (j + 1))) f ++ ((if b t = -1 then [] else [120]) ++ tgt K b f t))) g1 ∧ frP g1 g := fun g2 fr e => by
        have e2 : otF K b f t j = false := by unfold otF; rw [e]; rfl
        have e3 : otR K b f t j = false := by unfold otR; rw [e]; rfl
        rw [e, e2, e3, Bool.false_or, Bool.false_or, Bool.false_or]
        obtain ⟨g1, a1, a2, a3⟩ := ih o sf sr g2 (mSt_fr s fr) (MT_fr m fr) hs1
        exact ⟨g1, a1, a2, frP_tr a3 fr.P⟩
      by_cases q1 : (j : Int) = f
      · rw [if_pos q1]
        exact skip g (fun _ _ => rfl) (by unfold otP; rw [decide_eq_false (fun k => k q1)]; rfl)
      · rw [if_neg q1, if_pos (by omega), s.1 (j : Int) (by omega) (by omega), wr_of (z := b j) (by omega) (by omega), wr_of (z := b f) (by omega) (by omega)]
        by_cases q2 : b j = b f
        · have hbj : 0 ≤ b j := by omega
          rw [if_pos q2, umX6_reaches g0 s (by omega) ht hbj, Option.bind_some]
          by_cases q3 : hit K b j t = true
          · obtain ⟨g2, e4, fr⟩ := mX6_legal g0 s (f := (j : Int)) (t := t) (by omega) ht hbj
            rw [if_pos q3, if_neg (show ¬ wr 1 = 0 by decide), e4, Option.bind_some]
            by_cases q4 : lgl K b j t = true
            · have e : otP K b f t j = true := by unfold otP; rw [decide_eq_true q1, decide_eq_true q2, q3, q4]; rfl
              have e2 : otF K b f t j = decide ((j : Int) % 8 = f % 8) := by unfold otF; rw [e]; rfl
              have e3 : otR K b f t j = decide ((j : Int) / 8 = f / 8) := by unfold otR; rw [e]; rfl
              obtain ⟨g1, a1, a2, a3⟩ := ih true (sf || otF K b f t j) (sr || otR K b f t j) g2 (mSt_fr s fr) (MT_fr m fr) (fun _ => rfl)
              rw [Bool.or_assoc, Bool.or_assoc, Bool.true_or] at a2
              have hj2 : 0 ≤ (j : Int) ∧ (j : Int) < 2147483648 := by omega
              have hf2 : 0 ≤ f ∧ f < 2147483648 := by omega
              simp only [if_pos q4, if_neg (show ¬ wr 1 = 0 by decide), if_pos hj2, if_pos hf2]
              rw [wr_of (z := (j : Int) % 8) (by omega) (by omega), wr_of (z := f % 8) (by omega) (by omega), wr_of (z := (j : Int) / 8) (by omega) (by omega), wr_of (z := f / 8) (by omega) (by omega), e, Bool.true_or, Bool.or_true]
              have b1 : b2i true = 1 := rfl
              have b0 : b2i false = 0 := rfl
              refine ⟨g1, ?_, a2, frP_tr a3 fr.P⟩
              rw [e2, e3] at a1
              rw [← a1]
              by_cases q5 : (j : Int) % 8 = f % 8
              · rw [if_pos q5, decide_eq_true q5, Bool.or_true]
                by_cases q6 : (j : Int) / 8 = f / 8
                · rw [if_pos q6, decide_eq_true q6, Bool.or_true]
                  rw [b1]
                  simp only [ite_self]
                · rw [if_neg q6, decide_eq_false q6, Bool.or_false, b1]
                  cases sf <;> cases sr <;> rfl
              · rw [if_neg q5, decide_eq_false q5, Bool.or_false]
                by_cases q6 : (j : Int) / 8 = f / 8
                · rw [decide_eq_true q6, Bool.or_true]
                  simp only [if_pos q6]
                  cases sf <;> cases sr <;> rfl
                · rw [decide_eq_false q6, Bool.or_false]
                  simp only [if_neg q6]
                  cases sf <;> cases sr <;> rfl
            · simp only [if_neg q4, if_pos wr_0]
              exact skip g2 fr (by unfold otP; rw [Bool.eq_false_iff.mpr q4, Bool.and_false, Bool.and_false, Bool.and_false])
          · rw [if_neg q3, if_pos wr_0]
            exact skip g (fun _ _ => rfl) (by unfold otP; rw [Bool.eq_false_iff.mpr q3, Bool.false_and, Bool.and_false, Bool.and_false])
        · rw [if_neg q2]
          exact skip g (fun _ _ => rfl) (by unfold otP; rw [decide_eq_false q2, Bool.false_and, Bool.and_false])
theorem mMove {K : KT} {n : Int} {b : Int → Int} (g0 : gd K n b) {f t : Int} (hf : 0 ≤ f ∧ f < 64) (ht : 0 ≤ t ∧ t < 64) (hb : 0 ≤ b f) {L : Int → Int} {w : List Int} (hl : w.length + 7 ≤ 2000) {g : HS} (s : mSt 35 K b g) (m : MT w g) (hL : g 31 (b f / 2) = L (b f / 2)) : ∃ g1, fX6_putMove f t g = some g1 ∧ MT (w ++ mvB K L b f t) g1 ∧ frP g1 g := by
  have n0 := g0.1
  obtain ⟨u1, u2⟩ := g0.2.1 f hf.1 hf.2
  obtain ⟨g1, e1, m1, f1⟩ := mPut m (by omega) (L (b f / 2))
  obtain ⟨g2, e2, m2, f2⟩ := mLoop g0 hf ht hb (w := w ++ [L (b f / 2)]) (by rw [List.length_append]; simp only [List.length_cons, List.length_nil]; omega) zF 0 false false false g1 (mSt_P s f1) m1 (fun k => absurd k (by decide)) (by omega) (by unfold zF; omega)
  rw [Bool.false_or, Bool.false_or, Bool.false_or, List.append_assoc] at m2
  unfold fX6_putMove
  rw [if_pos hf, s.1 f hf.1 hf.2, if_pos (by omega), if_pos (by omega), hL, e1, Option.bind_some]
  exact ⟨g2, e2, m2, frP_tr f2 f1⟩
end ZPUT
end
section
section ZCASE11
theorem Psi.tape2 {o h : HS} (w : Psi h) (t : PsT o) (e : ∀ (a : Nat) (b : Int), ¬ scr a b → ¬ (a = 19 ∨ a = 20 ∨ a = 39 ∨ (a = 30 ∧ b = 13)) → o a b = h a b) : Psi o := by
  have sq : zsq o (fun a => if a = 19 ∨ a = 20 ∨ a = 39 then o a else if a = 30 then (fun b => if b = 13 then o 30 13 else h 30 b) else h a) := fun a b hn => by
    show o a b = (if a = 19 ∨ a = 20 ∨ a = 39 then o a else if a = 30 then (fun b => if b = 13 then o 30 13 else h 30 b) else h a) b
    by_cases h1 : a = 19 ∨ a = 20 ∨ a = 39
    · rw [if_pos h1]
    · rw [if_neg h1]
      by_cases h2 : a = 30
      · subst h2
        rw [if_pos rfl]
        show o 30 b = if b = 13 then o 30 13 else h 30 b
        by_cases h3 : b = 13
        · rw [if_pos h3, h3]
        · rw [if_neg h3]
          exact e 30 b hn (by omega)
      · rw [if_neg h2]
        exact e a b hn (by omega)
  refine Psi.sq ?_ sq
  refine w.tape (t.cg rfl rfl (fun _ => rfl) (fun _ => rfl)) (fun a hn => ?_) (fun b hb => ?_)
  · show (if _ then _ else _) = _
    rw [if_neg (by omega), if_neg (by omega)]
  · show (if b = 13 then _ else _) = _
    rw [if_neg hb]
theorem PsT_of {o : HS} {u : List Int} (t1 : txt (o 19 1) (o 20) u) (t2 : txt (o 30 13) (o 39) u) (hl : u.length ≤ 2000) (hr : ∀ v ∈ u, 0 ≤ v ∧ v ≤ 255) : PsT o := by
  obtain ⟨e1, e2⟩ := txt_eq t1 t2
  have sz := t1.1
  refine ⟨by omega, e1, fun i i0 i1 => ⟨e2 i i0 i1, hr _ (txt_mem t1 i0 i1)⟩⟩
theorem toTape_at {g : HS} {u : List Int} (m : MT u g) (hl : u.length ≤ 2000) : fX6_toTape g = some ((u.length : Int), hs (hcp g 41 0 39 0 (g 30 23)) 30 13 (g 30 23)) ∧ txt (hs (hcp g 41 0 39 0 (g 30 23)) 30 13 (g 30 23) 30 13) (hs (hcp g 41 0 39 0 (g 30 23)) 30 13 (g 30 23) 39) u ∧ (∀ (a : Nat) (b : Int), a ≠ 39 → ¬ (a = 30 ∧ b = 13) → hs (hcp g 41 0 39 0 (g 30 23)) 30 13 (g 30 23) a b = g a b) := by
  have sz := m.2.1
  have e23 : hcp g 41 0 39 0 (g 30 23) 30 23 = g 30 23 := by rw [hcp_ne _ _ _ _ _ (by decide)]
  refine ⟨?_, ?_, fun a b h1 h2 => ?_⟩
  · unfold fX6_toTape
    rw [if_pos (by omega), e23, hs_self, sz]
  · rw [hs_self, hs_ne _ _ _ (by decide)]
    refine txt_cg m.2 (fun i i0 i1 => ?_)
    rw [hcp_eq]
    show (if _ then _ else _) = _
    rw [if_pos (by omega), show (0 : Int) + (i - 0) = i by omega]
  · rw [hs_at]
    by_cases ha : a = 30
    · subst ha
      rw [if_pos rfl, if_neg (fun k => h2 ⟨rfl, k⟩), hcp_ne _ _ _ _ _ (by decide)]
    · rw [if_neg ha, hcp_ne _ _ _ _ _ h1]
theorem zqm.h30 {o h : HS} (e : zqm o h) (v : Int) : zqm (hs o 30 0 v) h := fun a b ha hn => by
  by_cases a30 : a = 30
  · subst a30
    rw [hs_at, if_pos rfl, if_neg (fun k => hn (Or.inr (Or.inr ⟨rfl, Or.inl k⟩)))]
    exact e 30 b ha hn
  · rw [hs_ne _ _ _ a30]
    exact e a b ha hn
theorem frP.qm {g1 g : HS} (f : frP g1 g) : zqm g1 g := fun a b ha hn => by
  by_cases a30 : a = 30
  · subst a30
    exact f.2 b (fun k => hn (Or.inr (Or.inr ⟨rfl, by omega⟩))) (fun k => hn (Or.inr (Or.inr ⟨rfl, by omega⟩)))
  · rw [f.1 a (fun k => hn (Or.inl (by omega))) (fun k => hn (Or.inl (by omega))) a30]
theorem qc_11 {f t : Int} {h : HS} (hf0 : zr f) (ht0 : zr t) (w : Psi h) : ∃ o, fL_c11 f t h = some o ∧ Psi o := by
  have eg : fL_c11 f t h = gC (fL_write f t h) (fX6_write f t) := rfl
  have r0 := whyV_rg (h := h) (f := f) (t := t)
  rw [eg]
  unfold fL_write fX5_write fX5_write_b14 fX3_wipe fX3_size
  rw [fX5_isSq hf0, fX5_isSq ht0]
  simp only [Option.bind_some]
  have ref0 : ∀ g : HS, zqm g h → (0 ≤ f ∧ f < 64) ∧ 0 ≤ t ∧ t < 64 → ∃ g7, fr36 g7 (hs g 30 0 0) ∧ fX6_write f t g = if whyV h f t = 0 then (fX6_putMove f t (hs (hs g7 30 23 0) 30 24 0)).bind fun r5 => (fX6_toTape r5).bind fun r6 => some (r6.1, r6.2) else some (0, hs g7 30 0 2) := by
    intro g e hq
    obtain ⟨g7, e7, f7⟩ := pX6_why w (e.h30 0) hq.1 hq.2
    refine ⟨g7, f7, ?_⟩
    unfold fX6_write fX6_fail
    rw [fX6_isSq hf0, fX6_isSq ht0]
    simp only [Option.bind_some]
    rw [if_pos hq.1, if_pos hq.2, if_neg (show ¬ wr 1 = 0 by decide), if_neg (show ¬ wr 1 = 0 by decide), e7, Option.bind_some, wr_of (z := whyV h f t) (by omega) (by omega)]
    by_cases hy : whyV h f t = 0
    · rw [if_pos hy, if_pos hy, if_pos (Or.inl trivial)]
    · rw [if_neg hy, if_neg hy]
  by_cases hq : (0 ≤ f ∧ f < 64) ∧ 0 ≤ t ∧ t < 64
  · rw [if_pos hq.1, if_pos hq.2, if_neg (show ¬ wr 1 = 0 by decide), if_neg (show ¬ wr 1 = 0 by decide), pX5_why w hq.1 hq.2, Option.bind_some, wr_of (z := whyV h f t) (by omega) (by omega)]
    by_cases hy : whyV h f t = 0
    · have hb := whyV_0 w hq.1 hy
      rw [if_pos hy, if_pos (Or.inl trivial), Option.bind_some]
      dsimp only
      obtain ⟨H, eH⟩ : ∃ H, H = hs (hs h 19 1 0) 19 2 0 := ⟨_, rfl⟩
      have Hne : ∀ a : Nat, a ≠ 19 → H a = h a := fun a ha => by rw [eH, hs_ne _ _ _ ha, hs_ne _ _ _ ha]
      have H1 : H 19 1 = 0 := by rw [eH, hs_at, if_pos rfl, if_neg (by decide), hs_self]
      have c0 : cSt (kOf h) (h 1 5) (h 8) H := ⟨by rw [Hne 1 (by decide)], fun s _ _ => by rw [Hne 8 (by decide)], fun i _ _ => by rw [Hne 3 (by decide)]; rfl, fun i j _ _ _ _ => by rw [Hne 4 (by decide), Hne 5 (by decide), Hne 6 (by decide)]; exact ⟨rfl, rfl, rfl⟩⟩
      have ew := wmT2 w.gg c0 hq.1 hq.2 hb (by rw [H1]; omega)
      rw [Hne 2 (by decide)] at ew
      obtain ⟨u, eu⟩ : ∃ u, u = mvB (kOf h) (h 2) (h 8) f t := ⟨_, rfl⟩
      have ul := mvB_len (K := kOf h) (L := h 2) (b := h 8) (f := f) (t := t)
      obtain ⟨v1, v2⟩ := w.gg.2.1 f hq.1.1 hq.1.2
      have ur := mvB_rg (K := kOf h) (L := h 2) (b := h 8) (f := f) (t := t) (w.K.le (h 8 f / 2) (by omega) (by omega)).2 hq.1 hq.2
      rw [← eu] at ew ul ur
      obtain ⟨X, eX⟩ : ∃ X, X = alT2 u H := ⟨_, rfl⟩
      have Xs : X 19 1 = (u.length : Int) := by rw [eX, alT2_sz, H1]; omega
      have Xt : txt (X 19 1) (X 20) u := by
        have e := alT2_txt u (h := H) (w := []) (by rw [H1]; exact txt_nil)
        rw [List.nil_append] at e
        rw [eX]
        exact e
      have Xne : ∀ a : Nat, a ≠ 19 → a ≠ 20 → X a = h a := fun a h1 h2 => by rw [eX, alT2_ne h1 h2, Hne a h1]
      rw [← eH, ew, Option.bind_some, ← eX, Xs, Option.bind_some, if_pos rfl]
      have qg : zqm (hs X 50 0 (wr (u.length : Int))) h := fun a b ha hn => by
        rw [hs_ne _ _ _ (fun k => hn (Or.inl (by omega))), Xne a (by omega) (by omega)]
      obtain ⟨g7, f7, e7⟩ := ref0 _ qg hq
      have q7 : zqm g7 h := f7.qm.tr (qg.h30 0)
      obtain ⟨P, eP⟩ : ∃ P, P = hs (hs g7 30 23 0) 30 24 0 := ⟨_, rfl⟩
      have Pne : ∀ a : Nat, a ≠ 30 → P a = g7 a := fun a ha => by rw [eP, hs_ne _ _ _ ha, hs_ne _ _ _ ha]
      have Pb : ∀ b : Int, b ≠ 23 → b ≠ 24 → P 30 b = g7 30 b := fun b h1 h2 => by rw [eP, hs_at, if_pos rfl, if_neg h2, hs_at, if_pos rfl, if_neg h1]
      have qP : zqm P h := (show zqm P g7 from fun a b ha hn => by
        by_cases a30 : a = 30
        · subst a30
          exact Pb b (fun k => hn (Or.inr (Or.inr ⟨rfl, by omega⟩))) (fun k => hn (Or.inr (Or.inr ⟨rfl, by omega⟩)))
        · rw [Pne a a30]).tr q7
      have mP : MT [] P := ⟨by rw [eP, hs_self], by rw [eP, hs_at, if_pos rfl, if_neg (by decide), hs_self]; exact txt_nil⟩
      obtain ⟨g8, e8, m8, f8⟩ := mMove w.gg hq.1 hq.2 hb (L := h 2) (w := []) (by simp) (w.ms qP) mP (by rw [qP.c (a := 31) (by decide)]; exact (w.K.le (h 8 f / 2) (by omega) (by omega)).1)
      rw [List.nil_append, ← eu] at m8
      obtain ⟨t1, t2, t3⟩ := toTape_at m8 (by omega)
      have ek : fX6_write f t (hs X 50 0 (wr (u.length : Int))) = some ((u.length : Int), hs (hcp g8 41 0 39 0 (g8 30 23)) 30 13 (g8 30 23)) := by
        rw [e7, if_pos hy, ← eP, e8, Option.bind_some, t1, Option.bind_some]
      obtain ⟨Y, eY⟩ : ∃ Y, Y = hs (hcp g8 41 0 39 0 (g8 30 23)) 30 13 (g8 30 23) := ⟨_, rfl⟩
      rw [← eY] at ek t2 t3
      have Yc : ∀ a : Nat, a < 30 → Y a = X a := fun a ha => by
        funext b
        rw [t3 a b (by omega) (by omega), f8.1 a (by omega) (by omega) (by omega), Pne a (by omega), f7 a (by omega), hs_ne _ _ _ (by omega), hs_ne _ _ _ (by omega)]
      refine ⟨Y, gC_ok ek (by show zr (u.length : Int); unfold zr; omega) rfl ?_ ?_, w.tape2 (PsT_of (u := u) (by rw [Yc 19 (by decide), Yc 20 (by decide)]; exact Xt) t2 (by omega) (fun v hv => by have := ur v hv; omega)) (fun a b hn hm => ?_)⟩
      · rw [t3 30 0 (by decide) (by decide), f8.2 0 (by decide) (by decide), Pb 0 (by decide) (by decide), f7 30 (by decide), hs_self]
      · rw [t3 50 0 (by decide) (by decide), f8.1 50 (by decide) (by decide) (by decide), Pne 50 (by decide), f7 50 (by decide), hs_ne _ _ _ (by decide), hs_self]
      · by_cases ha : a < 30
        · rw [Yc a ha, Xne a (by omega) (by omega)]
        · rw [t3 a b (by omega) (by omega)]
          exact (f8.qm.tr qP) a b (by omega) hn
    · rw [if_neg hy, Option.bind_some, if_neg (show ¬ (3 : Int) = 0 by decide), if_neg (show ¬ (3 : Int) = 1 by decide), if_pos rfl]
      obtain ⟨g7, f7, e7⟩ := ref0 h zqm.rf hq
      rw [if_neg hy] at e7
      exact ⟨_, gC_thr e7 ⟨by unfold zr; omega, by decide⟩ (by simp [hs_at]), w.sq ((f7.sq.tr (zsq.rf.h30 0)).h30 2)⟩
  · have e5 : ∀ B : Option (Int × Int × HS), (if wr (if 0 ≤ f ∧ f < 64 then 1 else 0) = 0 then some ((1, 0, h) : Int × Int × HS) else if wr (if 0 ≤ t ∧ t < 64 then 1 else 0) = 0 then some (1, 0, h) else B) = some (1, 0, h) := fun B => by
      by_cases h1 : 0 ≤ f ∧ f < 64
      · rw [if_pos h1, if_neg (show ¬ wr 1 = 0 by decide), if_neg (show ¬ (0 ≤ t ∧ t < 64) from fun k => hq ⟨h1, k⟩), if_pos wr_0]
      · rw [if_neg h1, if_pos wr_0]
    rw [e5, Option.bind_some, if_neg (show ¬ (1 : Int) = 0 by decide), if_pos rfl]
    refine ⟨_, gC_thr (v1 := 0) (h2 := hs (hs h 30 0 0) 30 0 1) ?_ ⟨by unfold zr; omega, by decide⟩ (by simp [hs_at]), w.sq ((zsq.rf.h30 _).h30 _)⟩
    show fX6_write f t h = _
    unfold fX6_write fX6_write_b19 fX6_fail
    rw [fX6_isSq hf0, fX6_isSq ht0]
    simp only [Option.bind_some]
    by_cases h1 : 0 ≤ f ∧ f < 64
    · rw [if_pos h1, if_neg (show ¬ wr 1 = 0 by decide), if_neg (show ¬ (0 ≤ t ∧ t < 64) from fun k => hq ⟨h1, k⟩), if_pos wr_0]
    · rw [if_neg h1, if_pos wr_0]
end ZCASE11
end
section
section ZFORM
/-! short forms: the reference's sixteen rows against the class's states -/
def frm (i : Nat) : List Nat := [[0, 1], [0, 0, 1], [1, 0, 1], [0, 1, 0, 1], [2, 0, 1], [0, 2, 0, 1], [1, 2, 0, 1], [0, 1, 2, 0, 1], [0, 1, 3], [0, 0, 1, 3], [1, 0, 1, 3], [0, 1, 0, 1, 3], [2, 0, 1, 3], [0, 2, 0, 1, 3], [1, 2, 0, 1, 3], [0, 1, 2, 0, 1, 3]].getD i []
def cls (v : Int) : Nat := if 97 ≤ v ∧ v ≤ 104 then 0 else if 49 ≤ v ∧ v ≤ 56 then 1 else if v = 120 then 2 else if v = 43 ∨ v = 35 then 3 else 4
theorem cls_lt (v : Int) : cls v < 5 := by
  unfold cls
  split
  · omega
  · split
    · omega
    · split
      · omega
      · split <;> omega
def fitN : List Nat → List Nat → Nat
  | f :: F, c :: C => if f = c then fitN F C + 1 else 0
  | [], _ => 0
  | _ :: _, [] => 0
theorem fitN_nil {C : List Nat} : fitN [] C = 0 := by cases C <;> rfl
theorem fitN_end {F : List Nat} : fitN F [] = 0 := by cases F <;> rfl
theorem fitN_ext : ∀ {F v C : List Nat}, fitN F v < v.length → fitN F (v ++ C) = fitN F v
  | [], v, C, _ => by rw [fitN_nil, fitN_nil]
  | f :: F, [], C, h => absurd h (by simp)
  | f :: F, c :: v, C, h => by
    show (if f = c then fitN F (v ++ C) + 1 else 0) = if f = c then fitN F v + 1 else 0
    by_cases e : f = c
    · rw [if_pos e, if_pos e, fitN_ext]
      have h2 : (if f = c then fitN F v + 1 else 0) < v.length + 1 := h
      rw [if_pos e] at h2
      omega
    · rw [if_neg e, if_neg e]
def gF (cl : List Nat) : Nat → Nat → Int → Nat → Int × Nat
  | 0, _, fo, mx => (fo, mx)
  | n + 1, k, fo, mx => gF cl n (k + 1) (if fitN (frm k) cl = (frm k).length ∧ (frm k).length = cl.length then (k : Int) else fo) (max mx (fitN (frm k) cl))
def rsF (cl : List Nat) : Int × Nat := gF cl 16 0 (-1) 0
theorem gF_ext {v C : List Nat} : ∀ (n k : Nat) (fo : Int) (mx : Nat), (∀ i, k ≤ i → i < k + n → fitN (frm i) v < v.length) → gF (v ++ C) n k fo mx = gF v n k fo mx
  | 0, k, fo, mx, h => rfl
  | n + 1, k, fo, mx, h => by
    have h0 := h k (Nat.le_refl _) (by omega)
    show gF (v ++ C) n (k + 1) _ _ = gF v n (k + 1) _ _
    rw [fitN_ext h0, if_neg (by rw [List.length_append]; omega), if_neg (by omega)]
    exact gF_ext n (k + 1) _ _ (fun i h1 h2 => h i (by omega) (by omega))
def dl (st c : Nat) : Nat :=
  if st = 1 then (if c = 0 then 2 else if c = 1 then 3 else if c = 2 then 5 else 0)
  else if st = 2 then (if c = 1 then 4 else if c = 0 then 6 else if c = 2 then 5 else 0)
  else if st = 3 then (if c = 0 then 6 else if c = 2 then 5 else 0)
  else if st = 4 then (if c = 3 then 8 else if c = 0 then 6 else if c = 2 then 5 else 0)
  else if st = 5 then (if c = 0 then 6 else 0)
  else if st = 6 then (if c = 1 then 7 else 0)
  else if st = 7 then (if c = 3 then 8 else 0)
  else 0
abbrev okS (st : Nat) : Prop := st = 4 ∨ st = 7 ∨ st = 8
def dr : Nat → List Nat → Int → Option Int
  | st, [], p => if okS st then none else some p
  | st, c :: C, p => if dl st c = 0 then some p else dr (dl st c) C (p + 1)
theorem dr_add : ∀ (C : List Nat) (st : Nat) (p q : Int), dr st C (p + q) = (dr st C p).map (fun x => x + q)
  | [], st, p, q => by
    show (if okS st then none else some (p + q)) = (if okS st then none else some p).map _
    by_cases h : okS st
    · rw [if_pos h, if_pos h]; rfl
    · rw [if_neg h, if_neg h]; rfl
  | c :: C, st, p, q => by
    show (if dl st c = 0 then some (p + q) else dr (dl st c) C (p + q + 1)) = (if dl st c = 0 then some p else dr (dl st c) C (p + 1)).map _
    by_cases h : dl st c = 0
    · rw [if_pos h, if_pos h]; rfl
    · rw [if_neg h, if_neg h, ← dr_add C _ (p + 1) q, show p + q + 1 = p + 1 + q by omega]
def chkE (w : List Nat) (st : Nat) : Bool := if okS st then decide (0 ≤ (rsF w).1 ∧ (rsF w).1 < 16 ∧ frm (rsF w).1.toNat = w) else decide (rsF w = (-1, w.length))
def chkD (w : List Nat) (c : Nat) : Bool := decide (rsF (w ++ [c]) = (-1, w.length)) && decide (∀ i : Fin 16, fitN (frm i.val) (w ++ [c]) < (w ++ [c]).length)
def chkT : Nat → List Nat → Nat → Bool
  | 0, _, _ => false
  | n + 1, w, st => chkE w st && decide (∀ c : Fin 5, (if dl st c.val = 0 then chkD w c.val else chkT n (w ++ [c.val]) (dl st c.val)) = true)
theorem chkT_all : chkT 8 [] 1 = true := by decide +kernel
theorem chkT_use : ∀ (n : Nat) (w : List Nat) (st : Nat), chkT n w st = true → ∀ C : List Nat, (∀ c ∈ C, c < 5) → (dr st C w.length = none → 0 ≤ (rsF (w ++ C)).1 ∧ (rsF (w ++ C)).1 < 16 ∧ frm (rsF (w ++ C)).1.toNat = w ++ C) ∧ (∀ i : Int, dr st C w.length = some i → (rsF (w ++ C)).1 = -1 ∧ ((rsF (w ++ C)).2 : Int) = i)
  | 0, w, st, h, C, hC => absurd h (by simp [chkT])
  | n + 1, w, st, h, [], hC => by
    have h1 : chkE w st = true := by
      unfold chkT at h
      rw [Bool.and_eq_true] at h
      exact h.1
    unfold chkE at h1
    rw [List.append_nil]
    show ((if okS st then none else some (w.length : Int)) = none → _) ∧ ∀ i, (if okS st then none else some (w.length : Int)) = some i → _
    by_cases ho : okS st
    · rw [if_pos ho] at h1 ⊢
      exact ⟨fun _ => of_decide_eq_true h1, fun i e => absurd e (by simp)⟩
    · rw [if_neg ho] at h1 ⊢
      have e := of_decide_eq_true h1
      refine ⟨fun k => absurd k (by simp), fun i k => ?_⟩
      rw [e]
      exact ⟨rfl, Option.some.inj k⟩
  | n + 1, w, st, h, c :: C, hC => by
    have h1 : ∀ c : Fin 5, (if dl st c.val = 0 then chkD w c.val else chkT n (w ++ [c.val]) (dl st c.val)) = true := by
      unfold chkT at h
      rw [Bool.and_eq_true] at h
      exact of_decide_eq_true h.2
    have h2 := h1 ⟨c, hC c (List.mem_cons_self)⟩
    dsimp only at h2
    show ((if dl st c = 0 then some (w.length : Int) else dr (dl st c) C ((w.length : Int) + 1)) = none → _) ∧ ∀ i, (if dl st c = 0 then some (w.length : Int) else dr (dl st c) C ((w.length : Int) + 1)) = some i → _
    by_cases hd : dl st c = 0
    · rw [if_pos hd] at h2 ⊢
      unfold chkD at h2
      rw [Bool.and_eq_true] at h2
      have e1 := of_decide_eq_true h2.1
      have e2 := of_decide_eq_true h2.2
      have e3 : rsF (w ++ c :: C) = rsF (w ++ [c]) := by
        have := gF_ext (v := w ++ [c]) (C := C) 16 0 (-1) 0 (fun i _ hi => e2 ⟨i, by omega⟩)
        rw [List.append_assoc] at this
        exact this
      refine ⟨fun k => absurd k (by simp), fun i k => ?_⟩
      rw [e3, e1]
      exact ⟨rfl, Option.some.inj k⟩
    · rw [if_neg hd] at h2 ⊢
      have ih := chkT_use n (w ++ [c]) (dl st c) h2 C (fun x hx => hC x (List.mem_cons_of_mem _ hx))
      rw [List.append_assoc, List.length_append] at ih
      simp only [List.length_cons, List.length_nil, Int.natCast_add] at ih
      exact ih
theorem form_ok {C : List Nat} (hC : ∀ c ∈ C, c < 5) (h : dr 1 C 0 = none) : 0 ≤ (rsF C).1 ∧ (rsF C).1 < 16 ∧ frm (rsF C).1.toNat = C := by
  have e := (chkT_use 8 [] 1 chkT_all C hC).1
  rw [List.nil_append] at e
  exact e h
theorem form_bad {C : List Nat} (hC : ∀ c ∈ C, c < 5) {i : Int} (h : dr 1 C 0 = some i) : (rsF C).1 = -1 ∧ ((rsF C).2 : Int) = i := by
  have e := (chkT_use 8 [] 1 chkT_all C hC).2 i
  rw [List.nil_append] at e
  exact e h
/-! the reference's strings -/
def cd (c : Nat) : Int := if c = 0 then 102 else if c = 1 then 114 else if c = 2 then 120 else 115
theorem cat_z : ∀ k : Fin 16, ∀ j : Fin 6, j.val < (frm k.val).length → fJ0_charAt_5068e k.val (j.val : Int) z0 = some (cd ((frm k.val).getD j.val 9)) := by decide +kernel
theorem cat_h {i : Nat} {p : Int} {h : HS} : fJ0_charAt_5068e i p h = fJ0_charAt_5068e i p z0 := rfl
theorem len_z : ∀ k : Fin 16, fJ0_length_8abf5 k.val z0 = some ((frm k.val).length : Int) := by decide +kernel
theorem len_h {i : Nat} {h : HS} : fJ0_length_8abf5 i h = fJ0_length_8abf5 i z0 := rfl
theorem l18_h {h : HS} : ∀ (nf i : Nat) (x y : Int), fJ1_lastIndexOf_7d655_L18 nf i x y h = fJ1_lastIndexOf_7d655_L18 nf i x y z0
  | 0, i, x, y => rfl
  | nf + 1, i, x, y => by
    rw [fJ1_lastIndexOf_7d655_L18, fJ1_lastIndexOf_7d655_L18, l18_h nf]
theorem l7_h {h : HS} : ∀ (nf i : Nat) (x y z : Int), fJ1_indexOfChar_4cfef_L7 nf i x y z h = fJ1_indexOfChar_4cfef_L7 nf i x y z z0
  | 0, i, x, y, z => rfl
  | nf + 1, i, x, y, z => by
    rw [fJ1_indexOfChar_4cfef_L7, fJ1_indexOfChar_4cfef_L7, l7_h nf]
theorem lix_h {i : Nat} {c : Int} {h : HS} : fJ0_lastIndexOf_0f7a4 i c h = fJ0_lastIndexOf_0f7a4 i c z0 := by
  unfold fJ0_lastIndexOf_0f7a4 fJ0_lastIndexOf_7cf53 fJ1_lastIndexOf_7d655
  simp only [l18_h (h := h)]
  rfl
theorem fix_h {i : Nat} {c : Int} {h : HS} : fJ0_indexOf_0f7a4 i c h = fJ0_indexOf_0f7a4 i c z0 := by
  unfold fJ0_indexOf_0f7a4 fJ0_indexOf_7cf53 fJ1_indexOf_4cfef fJ1_indexOfChar_4cfef
  simp only [l7_h (h := h)]
  rfl
def tFf : List Int := [0, 0, 1, 0, 1, 0, 2, 0, 0, 0, 1, 0, 1, 0, 2, 0]
def tLf : List Int := [0, 1, 1, 2, 1, 2, 2, 3, 0, 1, 1, 2, 1, 2, 2, 3]
def tFr : List Int := [1, 2, 0, 1, 2, 3, 0, 1, 1, 2, 0, 1, 2, 3, 0, 1]
def tLr : List Int := [1, 2, 2, 3, 2, 3, 3, 4, 1, 2, 2, 3, 2, 3, 3, 4]
def tLx : List Int := [-1, -1, -1, -1, 0, 1, 1, 2, -1, -1, -1, -1, 0, 1, 1, 2]
def tLs : List Int := [-1, -1, -1, -1, -1, -1, -1, -1, 2, 3, 3, 4, 3, 4, 4, 5]
theorem ix_z : ∀ k : Fin 16, fJ0_indexOf_0f7a4 k.val 102 z0 = some (tFf.getD k.val 0) ∧ fJ0_lastIndexOf_0f7a4 k.val 102 z0 = some (tLf.getD k.val 0) ∧ fJ0_indexOf_0f7a4 k.val 114 z0 = some (tFr.getD k.val 0) ∧ fJ0_lastIndexOf_0f7a4 k.val 114 z0 = some (tLr.getD k.val 0) ∧ fJ0_lastIndexOf_0f7a4 k.val 120 z0 = some (tLx.getD k.val 0) ∧ fJ0_lastIndexOf_0f7a4 k.val 115 z0 = some (tLs.getD k.val 0) := by decide +kernel
end ZFORM
end
section
section ZFLD
/-! what the class keeps of a text that fits, and what the reference finds in it -/
def up (F : Int → Int) (k v : Int) : Int → Int := fun j => if j = k then v else F j
def kp (F : Int → Int) (b : Int) : Int → Int := if cls b = 0 then up (up F 2 (F 4)) 4 (b - 97) else if cls b = 1 then up (up F 3 (F 5)) 5 (b - 49) else if cls b = 3 then up F 6 b else if cls b = 2 then up F 7 1 else up F 1 b
def kpL : (Int → Int) → List Int → Int → Int
  | F, [] => F
  | F, b :: r => kpL (kp F b) r
theorem cls_0 {v : Int} (h : cls v = 0) : 97 ≤ v ∧ v ≤ 104 := by
  unfold cls at h
  by_cases e : 97 ≤ v ∧ v ≤ 104
  · exact e
  · rw [if_neg e] at h
    split at h
    · omega
    · split at h
      · omega
      · split at h <;> omega
theorem cls_1 {v : Int} (h : cls v = 1) : 49 ≤ v ∧ v ≤ 56 := by
  unfold cls at h
  by_cases e : 97 ≤ v ∧ v ≤ 104
  · rw [if_pos e] at h; omega
  · rw [if_neg e] at h
    by_cases e2 : 49 ≤ v ∧ v ≤ 56
    · exact e2
    · rw [if_neg e2] at h
      split at h
      · omega
      · split at h <;> omega
theorem cls_3 {v : Int} (h : cls v = 3) : v = 43 ∨ v = 35 := by
  unfold cls at h
  by_cases e : 97 ≤ v ∧ v ≤ 104
  · rw [if_pos e] at h; omega
  · rw [if_neg e] at h
    by_cases e2 : 49 ≤ v ∧ v ≤ 56
    · rw [if_pos e2] at h; omega
    · rw [if_neg e2] at h
      by_cases e3 : v = 120
      · rw [if_pos e3] at h; omega
      · rw [if_neg e3] at h
        by_cases e4 : v = 43 ∨ v = 35
        · exact e4
        · rw [if_neg e4] at h; omega
theorem cls_e0 {v : Int} : cls v = 0 ↔ 97 ≤ v ∧ v ≤ 104 := ⟨cls_0, fun h => by unfold cls; rw [if_pos h]⟩
theorem cls_e1 {v : Int} : cls v = 1 ↔ 49 ≤ v ∧ v ≤ 56 := ⟨cls_1, fun h => by unfold cls; rw [if_neg (by omega), if_pos h]⟩
theorem cls_e3 {v : Int} : cls v = 3 ↔ v = 43 ∨ v = 35 := ⟨cls_3, fun h => by unfold cls; rw [if_neg (by omega), if_neg (by omega), if_neg (by omega), if_pos h]⟩
theorem cls_e2 {v : Int} : cls v = 2 ↔ v = 120 := by
  constructor
  · intro h
    unfold cls at h
    by_cases e : 97 ≤ v ∧ v ≤ 104
    · rw [if_pos e] at h; omega
    · rw [if_neg e] at h
      by_cases e2 : 49 ≤ v ∧ v ≤ 56
      · rw [if_pos e2] at h; omega
      · rw [if_neg e2] at h
        by_cases e3 : v = 120
        · exact e3
        · rw [if_neg e3] at h
          split at h <;> omega
  · intro h
    unfold cls
    rw [if_neg (by omega), if_neg (by omega), if_pos h]
abbrev fldOk (F : Int → Int) (r : List Int) (k : Nat) : Prop := (r[(tLf.getD k 0).toNat]? = some (F 4 + 97) ∧ r[(tLr.getD k 0).toNat]? = some (F 5 + 49)) ∧ (if tFf.getD k 0 = tLf.getD k 0 then F 2 = -1 else F 2 ≠ -1 ∧ r[(tFf.getD k 0).toNat]? = some (F 2 + 97)) ∧ (if tFr.getD k 0 = tLr.getD k 0 then F 3 = -1 else F 3 ≠ -1 ∧ r[(tFr.getD k 0).toNat]? = some (F 3 + 49)) ∧ (if tLx.getD k 0 = -1 then F 7 = 0 else F 7 = 1) ∧ (if tLs.getD k 0 = -1 then F 6 = -1 else r[(tLs.getD k 0).toNat]? = some (F 6)) ∧ (0 ≤ F 4 ∧ F 4 ≤ 7) ∧ (0 ≤ F 5 ∧ F 5 ≤ 7) ∧ (-1 ≤ F 2 ∧ F 2 ≤ 7) ∧ (-1 ≤ F 3 ∧ F 3 ≤ 7) ∧ (F 6 = -1 ∨ F 6 = 43 ∨ F 6 = 35)
theorem map_c {f : Int → Nat} {r : List Int} {c : Nat} {C : List Nat} (h : r.map f = c :: C) : ∃ a s, r = a :: s ∧ f a = c ∧ s.map f = C := by
  cases r with
  | nil => exact absurd h (by simp)
  | cons a s =>
    rw [List.map_cons] at h
    exact ⟨a, s, rfl, (List.cons.inj h).1, (List.cons.inj h).2⟩
theorem map_n {f : Int → Nat} {r : List Int} (h : r.map f = []) : r = [] := List.map_eq_nil_iff.mp h
abbrev fld0 (F : Int → Int) : Prop := F 2 = -1 ∧ F 3 = -1 ∧ F 4 = -1 ∧ F 5 = -1 ∧ F 6 = -1 ∧ F 7 = 0
theorem fld_0 {F : Int → Int} (h0 : fld0 F) {r : List Int} (h : r.map cls = frm 0) : fldOk (kpL F r) r 0 := by
  obtain ⟨i2, i3, i4, i5, i6, i7⟩ := h0
  have h : r.map cls = [0, 1] := h
  obtain ⟨a0, t0, rfl, e0, h⟩ := map_c h
  obtain ⟨a1, t1, rfl, e1, h⟩ := map_c h
  obtain rfl := map_n h
  have b0 := cls_0 e0
  have b1 := cls_1 e1
  have f2 : kpL F [a0, a1] 2 = -1 := by simp [kpL, kp, up, e0, e1, i2, i3, i4, i5, i6, i7]
  have f3 : kpL F [a0, a1] 3 = -1 := by simp [kpL, kp, up, e0, e1, i2, i3, i4, i5, i6, i7]
  have f4 : kpL F [a0, a1] 4 = a0 - 97 := by simp [kpL, kp, up, e0, e1, i2, i3, i4, i5, i6, i7]
  have f5 : kpL F [a0, a1] 5 = a1 - 49 := by simp [kpL, kp, up, e0, e1, i2, i3, i4, i5, i6, i7]
  have f6 : kpL F [a0, a1] 6 = -1 := by simp [kpL, kp, up, e0, e1, i2, i3, i4, i5, i6, i7]
  have f7 : kpL F [a0, a1] 7 = 0 := by simp [kpL, kp, up, e0, e1, i2, i3, i4, i5, i6, i7]
  unfold fldOk
  rw [f2, f3, f4, f5, f6, f7]
  simp only [tLf, tLr, tFf, tFr, tLx, tLs, List.getD_cons_succ, List.getD_cons_zero]
  refine ⟨⟨?_, ?_⟩, ?_, ?_, ?_, ?_, ?_, ?_, ?_, ?_, ?_⟩ <;> (first | omega | (simp; try omega))
theorem fld_1 {F : Int → Int} (h0 : fld0 F) {r : List Int} (h : r.map cls = frm 1) : fldOk (kpL F r) r 1 := by
  obtain ⟨i2, i3, i4, i5, i6, i7⟩ := h0
  have h : r.map cls = [0, 0, 1] := h
  obtain ⟨a0, t0, rfl, e0, h⟩ := map_c h
  obtain ⟨a1, t1, rfl, e1, h⟩ := map_c h
  obtain ⟨a2, t2, rfl, e2, h⟩ := map_c h
  obtain rfl := map_n h
  have b0 := cls_0 e0
  have b1 := cls_0 e1
  have b2 := cls_1 e2
  have f2 : kpL F [a0, a1, a2] 2 = a0 - 97 := by simp [kpL, kp, up, e0, e1, e2, i2, i3, i4, i5, i6, i7]
  have f3 : kpL F [a0, a1, a2] 3 = -1 := by simp [kpL, kp, up, e0, e1, e2, i2, i3, i4, i5, i6, i7]
  have f4 : kpL F [a0, a1, a2] 4 = a1 - 97 := by simp [kpL, kp, up, e0, e1, e2, i2, i3, i4, i5, i6, i7]
  have f5 : kpL F [a0, a1, a2] 5 = a2 - 49 := by simp [kpL, kp, up, e0, e1, e2, i2, i3, i4, i5, i6, i7]
  have f6 : kpL F [a0, a1, a2] 6 = -1 := by simp [kpL, kp, up, e0, e1, e2, i2, i3, i4, i5, i6, i7]
  have f7 : kpL F [a0, a1, a2] 7 = 0 := by simp [kpL, kp, up, e0, e1, e2, i2, i3, i4, i5, i6, i7]
  unfold fldOk
  rw [f2, f3, f4, f5, f6, f7]
  simp only [tLf, tLr, tFf, tFr, tLx, tLs, List.getD_cons_succ, List.getD_cons_zero]
  refine ⟨⟨?_, ?_⟩, ?_, ?_, ?_, ?_, ?_, ?_, ?_, ?_, ?_⟩ <;> (first | omega | (simp; try omega))
theorem fld_2 {F : Int → Int} (h0 : fld0 F) {r : List Int} (h : r.map cls = frm 2) : fldOk (kpL F r) r 2 := by
  obtain ⟨i2, i3, i4, i5, i6, i7⟩ := h0
  have h : r.map cls = [1, 0, 1] := h
  obtain ⟨a0, t0, rfl, e0, h⟩ := map_c h
  obtain ⟨a1, t1, rfl, e1, h⟩ := map_c h
  obtain ⟨a2, t2, rfl, e2, h⟩ := map_c h
  obtain rfl := map_n h
  have b0 := cls_1 e0
  have b1 := cls_0 e1
  have b2 := cls_1 e2
  have f2 : kpL F [a0, a1, a2] 2 = -1 := by simp [kpL, kp, up, e0, e1, e2, i2, i3, i4, i5, i6, i7]
  have f3 : kpL F [a0, a1, a2] 3 = a0 - 49 := by simp [kpL, kp, up, e0, e1, e2, i2, i3, i4, i5, i6, i7]
  have f4 : kpL F [a0, a1, a2] 4 = a1 - 97 := by simp [kpL, kp, up, e0, e1, e2, i2, i3, i4, i5, i6, i7]
  have f5 : kpL F [a0, a1, a2] 5 = a2 - 49 := by simp [kpL, kp, up, e0, e1, e2, i2, i3, i4, i5, i6, i7]
  have f6 : kpL F [a0, a1, a2] 6 = -1 := by simp [kpL, kp, up, e0, e1, e2, i2, i3, i4, i5, i6, i7]
  have f7 : kpL F [a0, a1, a2] 7 = 0 := by simp [kpL, kp, up, e0, e1, e2, i2, i3, i4, i5, i6, i7]
  unfold fldOk
  rw [f2, f3, f4, f5, f6, f7]
  simp only [tLf, tLr, tFf, tFr, tLx, tLs, List.getD_cons_succ, List.getD_cons_zero]
  refine ⟨⟨?_, ?_⟩, ?_, ?_, ?_, ?_, ?_, ?_, ?_, ?_, ?_⟩ <;> (first | omega | (simp; try omega))
theorem fld_3 {F : Int → Int} (h0 : fld0 F) {r : List Int} (h : r.map cls = frm 3) : fldOk (kpL F r) r 3 := by
  obtain ⟨i2, i3, i4, i5, i6, i7⟩ := h0
  have h : r.map cls = [0, 1, 0, 1] := h
  obtain ⟨a0, t0, rfl, e0, h⟩ := map_c h
  obtain ⟨a1, t1, rfl, e1, h⟩ := map_c h
  obtain ⟨a2, t2, rfl, e2, h⟩ := map_c h
  obtain ⟨a3, t3, rfl, e3, h⟩ := map_c h
  obtain rfl := map_n h
  have b0 := cls_0 e0
  have b1 := cls_1 e1
  have b2 := cls_0 e2
  have b3 := cls_1 e3
  have f2 : kpL F [a0, a1, a2, a3] 2 = a0 - 97 := by simp [kpL, kp, up, e0, e1, e2, e3, i2, i3, i4, i5, i6, i7]
  have f3 : kpL F [a0, a1, a2, a3] 3 = a1 - 49 := by simp [kpL, kp, up, e0, e1, e2, e3, i2, i3, i4, i5, i6, i7]
  have f4 : kpL F [a0, a1, a2, a3] 4 = a2 - 97 := by simp [kpL, kp, up, e0, e1, e2, e3, i2, i3, i4, i5, i6, i7]
  have f5 : kpL F [a0, a1, a2, a3] 5 = a3 - 49 := by simp [kpL, kp, up, e0, e1, e2, e3, i2, i3, i4, i5, i6, i7]
  have f6 : kpL F [a0, a1, a2, a3] 6 = -1 := by simp [kpL, kp, up, e0, e1, e2, e3, i2, i3, i4, i5, i6, i7]
  have f7 : kpL F [a0, a1, a2, a3] 7 = 0 := by simp [kpL, kp, up, e0, e1, e2, e3, i2, i3, i4, i5, i6, i7]
  unfold fldOk
  rw [f2, f3, f4, f5, f6, f7]
  simp only [tLf, tLr, tFf, tFr, tLx, tLs, List.getD_cons_succ, List.getD_cons_zero]
  refine ⟨⟨?_, ?_⟩, ?_, ?_, ?_, ?_, ?_, ?_, ?_, ?_, ?_⟩ <;> (first | omega | (simp; try omega))
theorem fld_4 {F : Int → Int} (h0 : fld0 F) {r : List Int} (h : r.map cls = frm 4) : fldOk (kpL F r) r 4 := by
  obtain ⟨i2, i3, i4, i5, i6, i7⟩ := h0
  have h : r.map cls = [2, 0, 1] := h
  obtain ⟨a0, t0, rfl, e0, h⟩ := map_c h
  obtain ⟨a1, t1, rfl, e1, h⟩ := map_c h
  obtain ⟨a2, t2, rfl, e2, h⟩ := map_c h
  obtain rfl := map_n h
  have b1 := cls_0 e1
  have b2 := cls_1 e2
  have f2 : kpL F [a0, a1, a2] 2 = -1 := by simp [kpL, kp, up, e0, e1, e2, i2, i3, i4, i5, i6, i7]
  have f3 : kpL F [a0, a1, a2] 3 = -1 := by simp [kpL, kp, up, e0, e1, e2, i2, i3, i4, i5, i6, i7]
  have f4 : kpL F [a0, a1, a2] 4 = a1 - 97 := by simp [kpL, kp, up, e0, e1, e2, i2, i3, i4, i5, i6, i7]
  have f5 : kpL F [a0, a1, a2] 5 = a2 - 49 := by simp [kpL, kp, up, e0, e1, e2, i2, i3, i4, i5, i6, i7]
  have f6 : kpL F [a0, a1, a2] 6 = -1 := by simp [kpL, kp, up, e0, e1, e2, i2, i3, i4, i5, i6, i7]
  have f7 : kpL F [a0, a1, a2] 7 = 1 := by simp [kpL, kp, up, e0, e1, e2, i2, i3, i4, i5, i6, i7]
  unfold fldOk
  rw [f2, f3, f4, f5, f6, f7]
  simp only [tLf, tLr, tFf, tFr, tLx, tLs, List.getD_cons_succ, List.getD_cons_zero]
  refine ⟨⟨?_, ?_⟩, ?_, ?_, ?_, ?_, ?_, ?_, ?_, ?_, ?_⟩ <;> (first | omega | (simp; try omega))
theorem fld_5 {F : Int → Int} (h0 : fld0 F) {r : List Int} (h : r.map cls = frm 5) : fldOk (kpL F r) r 5 := by
  obtain ⟨i2, i3, i4, i5, i6, i7⟩ := h0
  have h : r.map cls = [0, 2, 0, 1] := h
  obtain ⟨a0, t0, rfl, e0, h⟩ := map_c h
  obtain ⟨a1, t1, rfl, e1, h⟩ := map_c h
  obtain ⟨a2, t2, rfl, e2, h⟩ := map_c h
  obtain ⟨a3, t3, rfl, e3, h⟩ := map_c h
  obtain rfl := map_n h
  have b0 := cls_0 e0
  have b2 := cls_0 e2
  have b3 := cls_1 e3
  have f2 : kpL F [a0, a1, a2, a3] 2 = a0 - 97 := by simp [kpL, kp, up, e0, e1, e2, e3, i2, i3, i4, i5, i6, i7]
  have f3 : kpL F [a0, a1, a2, a3] 3 = -1 := by simp [kpL, kp, up, e0, e1, e2, e3, i2, i3, i4, i5, i6, i7]
  have f4 : kpL F [a0, a1, a2, a3] 4 = a2 - 97 := by simp [kpL, kp, up, e0, e1, e2, e3, i2, i3, i4, i5, i6, i7]
  have f5 : kpL F [a0, a1, a2, a3] 5 = a3 - 49 := by simp [kpL, kp, up, e0, e1, e2, e3, i2, i3, i4, i5, i6, i7]
  have f6 : kpL F [a0, a1, a2, a3] 6 = -1 := by simp [kpL, kp, up, e0, e1, e2, e3, i2, i3, i4, i5, i6, i7]
  have f7 : kpL F [a0, a1, a2, a3] 7 = 1 := by simp [kpL, kp, up, e0, e1, e2, e3, i2, i3, i4, i5, i6, i7]
  unfold fldOk
  rw [f2, f3, f4, f5, f6, f7]
  simp only [tLf, tLr, tFf, tFr, tLx, tLs, List.getD_cons_succ, List.getD_cons_zero]
  refine ⟨⟨?_, ?_⟩, ?_, ?_, ?_, ?_, ?_, ?_, ?_, ?_, ?_⟩ <;> (first | omega | (simp; try omega))
theorem fld_6 {F : Int → Int} (h0 : fld0 F) {r : List Int} (h : r.map cls = frm 6) : fldOk (kpL F r) r 6 := by
  obtain ⟨i2, i3, i4, i5, i6, i7⟩ := h0
  have h : r.map cls = [1, 2, 0, 1] := h
  obtain ⟨a0, t0, rfl, e0, h⟩ := map_c h
  obtain ⟨a1, t1, rfl, e1, h⟩ := map_c h
  obtain ⟨a2, t2, rfl, e2, h⟩ := map_c h
  obtain ⟨a3, t3, rfl, e3, h⟩ := map_c h
  obtain rfl := map_n h
  have b0 := cls_1 e0
  have b2 := cls_0 e2
  have b3 := cls_1 e3
  have f2 : kpL F [a0, a1, a2, a3] 2 = -1 := by simp [kpL, kp, up, e0, e1, e2, e3, i2, i3, i4, i5, i6, i7]
  have f3 : kpL F [a0, a1, a2, a3] 3 = a0 - 49 := by simp [kpL, kp, up, e0, e1, e2, e3, i2, i3, i4, i5, i6, i7]
  have f4 : kpL F [a0, a1, a2, a3] 4 = a2 - 97 := by simp [kpL, kp, up, e0, e1, e2, e3, i2, i3, i4, i5, i6, i7]
  have f5 : kpL F [a0, a1, a2, a3] 5 = a3 - 49 := by simp [kpL, kp, up, e0, e1, e2, e3, i2, i3, i4, i5, i6, i7]
  have f6 : kpL F [a0, a1, a2, a3] 6 = -1 := by simp [kpL, kp, up, e0, e1, e2, e3, i2, i3, i4, i5, i6, i7]
  have f7 : kpL F [a0, a1, a2, a3] 7 = 1 := by simp [kpL, kp, up, e0, e1, e2, e3, i2, i3, i4, i5, i6, i7]
  unfold fldOk
  rw [f2, f3, f4, f5, f6, f7]
  simp only [tLf, tLr, tFf, tFr, tLx, tLs, List.getD_cons_succ, List.getD_cons_zero]
  refine ⟨⟨?_, ?_⟩, ?_, ?_, ?_, ?_, ?_, ?_, ?_, ?_, ?_⟩ <;> (first | omega | (simp; try omega))
theorem fld_7 {F : Int → Int} (h0 : fld0 F) {r : List Int} (h : r.map cls = frm 7) : fldOk (kpL F r) r 7 := by
  obtain ⟨i2, i3, i4, i5, i6, i7⟩ := h0
  have h : r.map cls = [0, 1, 2, 0, 1] := h
  obtain ⟨a0, t0, rfl, e0, h⟩ := map_c h
  obtain ⟨a1, t1, rfl, e1, h⟩ := map_c h
  obtain ⟨a2, t2, rfl, e2, h⟩ := map_c h
  obtain ⟨a3, t3, rfl, e3, h⟩ := map_c h
  obtain ⟨a4, t4, rfl, e4, h⟩ := map_c h
  obtain rfl := map_n h
  have b0 := cls_0 e0
  have b1 := cls_1 e1
  have b3 := cls_0 e3
  have b4 := cls_1 e4
  have f2 : kpL F [a0, a1, a2, a3, a4] 2 = a0 - 97 := by simp [kpL, kp, up, e0, e1, e2, e3, e4, i2, i3, i4, i5, i6, i7]
  have f3 : kpL F [a0, a1, a2, a3, a4] 3 = a1 - 49 := by simp [kpL, kp, up, e0, e1, e2, e3, e4, i2, i3, i4, i5, i6, i7]
  have f4 : kpL F [a0, a1, a2, a3, a4] 4 = a3 - 97 := by simp [kpL, kp, up, e0, e1, e2, e3, e4, i2, i3, i4, i5, i6, i7]
  have f5 : kpL F [a0, a1, a2, a3, a4] 5 = a4 - 49 := by simp [kpL, kp, up, e0, e1, e2, e3, e4, i2, i3, i4, i5, i6, i7]
  have f6 : kpL F [a0, a1, a2, a3, a4] 6 = -1 := by simp [kpL, kp, up, e0, e1, e2, e3, e4, i2, i3, i4, i5, i6, i7]
  have f7 : kpL F [a0, a1, a2, a3, a4] 7 = 1 := by simp [kpL, kp, up, e0, e1, e2, e3, e4, i2, i3, i4, i5, i6, i7]
  unfold fldOk
  rw [f2, f3, f4, f5, f6, f7]
  simp only [tLf, tLr, tFf, tFr, tLx, tLs, List.getD_cons_succ, List.getD_cons_zero]
  refine ⟨⟨?_, ?_⟩, ?_, ?_, ?_, ?_, ?_, ?_, ?_, ?_, ?_⟩ <;> (first | omega | (simp; try omega))
theorem fld_8 {F : Int → Int} (h0 : fld0 F) {r : List Int} (h : r.map cls = frm 8) : fldOk (kpL F r) r 8 := by
  obtain ⟨i2, i3, i4, i5, i6, i7⟩ := h0
  have h : r.map cls = [0, 1, 3] := h
  obtain ⟨a0, t0, rfl, e0, h⟩ := map_c h
  obtain ⟨a1, t1, rfl, e1, h⟩ := map_c h
  obtain ⟨a2, t2, rfl, e2, h⟩ := map_c h
  obtain rfl := map_n h
  have b0 := cls_0 e0
  have b1 := cls_1 e1
  have b2 := cls_3 e2
  have f2 : kpL F [a0, a1, a2] 2 = -1 := by simp [kpL, kp, up, e0, e1, e2, i2, i3, i4, i5, i6, i7]
  have f3 : kpL F [a0, a1, a2] 3 = -1 := by simp [kpL, kp, up, e0, e1, e2, i2, i3, i4, i5, i6, i7]
  have f4 : kpL F [a0, a1, a2] 4 = a0 - 97 := by simp [kpL, kp, up, e0, e1, e2, i2, i3, i4, i5, i6, i7]
  have f5 : kpL F [a0, a1, a2] 5 = a1 - 49 := by simp [kpL, kp, up, e0, e1, e2, i2, i3, i4, i5, i6, i7]
  have f6 : kpL F [a0, a1, a2] 6 = a2 := by simp [kpL, kp, up, e0, e1, e2, i2, i3, i4, i5, i6, i7]
  have f7 : kpL F [a0, a1, a2] 7 = 0 := by simp [kpL, kp, up, e0, e1, e2, i2, i3, i4, i5, i6, i7]
  unfold fldOk
  rw [f2, f3, f4, f5, f6, f7]
  simp only [tLf, tLr, tFf, tFr, tLx, tLs, List.getD_cons_succ, List.getD_cons_zero]
  refine ⟨⟨?_, ?_⟩, ?_, ?_, ?_, ?_, ?_, ?_, ?_, ?_, ?_⟩ <;> (first | omega | (simp; try omega))
theorem fld_9 {F : Int → Int} (h0 : fld0 F) {r : List Int} (h : r.map cls = frm 9) : fldOk (kpL F r) r 9 := by
  obtain ⟨i2, i3, i4, i5, i6, i7⟩ := h0
  have h : r.map cls = [0, 0, 1, 3] := h
  obtain ⟨a0, t0, rfl, e0, h⟩ := map_c h
  obtain ⟨a1, t1, rfl, e1, h⟩ := map_c h
  obtain ⟨a2, t2, rfl, e2, h⟩ := map_c h
  obtain ⟨a3, t3, rfl, e3, h⟩ := map_c h
  obtain rfl := map_n h
  have b0 := cls_0 e0
  have b1 := cls_0 e1
  have b2 := cls_1 e2
  have b3 := cls_3 e3
  have f2 : kpL F [a0, a1, a2, a3] 2 = a0 - 97 := by simp [kpL, kp, up, e0, e1, e2, e3, i2, i3, i4, i5, i6, i7]
  have f3 : kpL F [a0, a1, a2, a3] 3 = -1 := by simp [kpL, kp, up, e0, e1, e2, e3, i2, i3, i4, i5, i6, i7]
  have f4 : kpL F [a0, a1, a2, a3] 4 = a1 - 97 := by simp [kpL, kp, up, e0, e1, e2, e3, i2, i3, i4, i5, i6, i7]
  have f5 : kpL F [a0, a1, a2, a3] 5 = a2 - 49 := by simp [kpL, kp, up, e0, e1, e2, e3, i2, i3, i4, i5, i6, i7]
  have f6 : kpL F [a0, a1, a2, a3] 6 = a3 := by simp [kpL, kp, up, e0, e1, e2, e3, i2, i3, i4, i5, i6, i7]
  have f7 : kpL F [a0, a1, a2, a3] 7 = 0 := by simp [kpL, kp, up, e0, e1, e2, e3, i2, i3, i4, i5, i6, i7]
  unfold fldOk
  rw [f2, f3, f4, f5, f6, f7]
  simp only [tLf, tLr, tFf, tFr, tLx, tLs, List.getD_cons_succ, List.getD_cons_zero]
  refine ⟨⟨?_, ?_⟩, ?_, ?_, ?_, ?_, ?_, ?_, ?_, ?_, ?_⟩ <;> (first | omega | (simp; try omega))
theorem fld_10 {F : Int → Int} (h0 : fld0 F) {r : List Int} (h : r.map cls = frm 10) : fldOk (kpL F r) r 10 := by
  obtain ⟨i2, i3, i4, i5, i6, i7⟩ := h0
  have h : r.map cls = [1, 0, 1, 3] := h
  obtain ⟨a0, t0, rfl, e0, h⟩ := map_c h
  obtain ⟨a1, t1, rfl, e1, h⟩ := map_c h
  obtain ⟨a2, t2, rfl, e2, h⟩ := map_c h
  obtain ⟨a3, t3, rfl, e3, h⟩ := map_c h
  obtain rfl := map_n h
  have b0 := cls_1 e0
  have b1 := cls_0 e1
  have b2 := cls_1 e2
  have b3 := cls_3 e3
  have f2 : kpL F [a0, a1, a2, a3] 2 = -1 := by simp [kpL, kp, up, e0, e1, e2, e3, i2, i3, i4, i5, i6, i7]
  have f3 : kpL F [a0, a1, a2, a3] 3 = a0 - 49 := by simp [kpL, kp, up, e0, e1, e2, e3, i2, i3, i4, i5, i6, i7]
  have f4 : kpL F [a0, a1, a2, a3] 4 = a1 - 97 := by simp [kpL, kp, up, e0, e1, e2, e3, i2, i3, i4, i5, i6, i7]
  have f5 : kpL F [a0, a1, a2, a3] 5 = a2 - 49 := by simp [kpL, kp, up, e0, e1, e2, e3, i2, i3, i4, i5, i6, i7]
  have f6 : kpL F [a0, a1, a2, a3] 6 = a3 := by simp [kpL, kp, up, e0, e1, e2, e3, i2, i3, i4, i5, i6, i7]
  have f7 : kpL F [a0, a1, a2, a3] 7 = 0 := by simp [kpL, kp, up, e0, e1, e2, e3, i2, i3, i4, i5, i6, i7]
  unfold fldOk
  rw [f2, f3, f4, f5, f6, f7]
  simp only [tLf, tLr, tFf, tFr, tLx, tLs, List.getD_cons_succ, List.getD_cons_zero]
  refine ⟨⟨?_, ?_⟩, ?_, ?_, ?_, ?_, ?_, ?_, ?_, ?_, ?_⟩ <;> (first | omega | (simp; try omega))
theorem fld_11 {F : Int → Int} (h0 : fld0 F) {r : List Int} (h : r.map cls = frm 11) : fldOk (kpL F r) r 11 := by
  obtain ⟨i2, i3, i4, i5, i6, i7⟩ := h0
  have h : r.map cls = [0, 1, 0, 1, 3] := h
  obtain ⟨a0, t0, rfl, e0, h⟩ := map_c h
  obtain ⟨a1, t1, rfl, e1, h⟩ := map_c h
  obtain ⟨a2, t2, rfl, e2, h⟩ := map_c h
  obtain ⟨a3, t3, rfl, e3, h⟩ := map_c h
  obtain ⟨a4, t4, rfl, e4, h⟩ := map_c h
  obtain rfl := map_n h
  have b0 := cls_0 e0
  have b1 := cls_1 e1
  have b2 := cls_0 e2
  have b3 := cls_1 e3
  have b4 := cls_3 e4
  have f2 : kpL F [a0, a1, a2, a3, a4] 2 = a0 - 97 := by simp [kpL, kp, up, e0, e1, e2, e3, e4, i2, i3, i4, i5, i6, i7]
  have f3 : kpL F [a0, a1, a2, a3, a4] 3 = a1 - 49 := by simp [kpL, kp, up, e0, e1, e2, e3, e4, i2, i3, i4, i5, i6, i7]
  have f4 : kpL F [a0, a1, a2, a3, a4] 4 = a2 - 97 := by simp [kpL, kp, up, e0, e1, e2, e3, e4, i2, i3, i4, i5, i6, i7]
  have f5 : kpL F [a0, a1, a2, a3, a4] 5 = a3 - 49 := by simp [kpL, kp, up, e0, e1, e2, e3, e4, i2, i3, i4, i5, i6, i7]
  have f6 : kpL F [a0, a1, a2, a3, a4] 6 = a4 := by simp [kpL, kp, up, e0, e1, e2, e3, e4, i2, i3, i4, i5, i6, i7]
  have f7 : kpL F [a0, a1, a2, a3, a4] 7 = 0 := by simp [kpL, kp, up, e0, e1, e2, e3, e4, i2, i3, i4, i5, i6, i7]
  unfold fldOk
  rw [f2, f3, f4, f5, f6, f7]
  simp only [tLf, tLr, tFf, tFr, tLx, tLs, List.getD_cons_succ, List.getD_cons_zero]
  refine ⟨⟨?_, ?_⟩, ?_, ?_, ?_, ?_, ?_, ?_, ?_, ?_, ?_⟩ <;> (first | omega | (simp; try omega))
theorem fld_12 {F : Int → Int} (h0 : fld0 F) {r : List Int} (h : r.map cls = frm 12) : fldOk (kpL F r) r 12 := by
  obtain ⟨i2, i3, i4, i5, i6, i7⟩ := h0
  have h : r.map cls = [2, 0, 1, 3] := h
  obtain ⟨a0, t0, rfl, e0, h⟩ := map_c h
  obtain ⟨a1, t1, rfl, e1, h⟩ := map_c h
  obtain ⟨a2, t2, rfl, e2, h⟩ := map_c h
  obtain ⟨a3, t3, rfl, e3, h⟩ := map_c h
  obtain rfl := map_n h
  have b1 := cls_0 e1
  have b2 := cls_1 e2
  have b3 := cls_3 e3
  have f2 : kpL F [a0, a1, a2, a3] 2 = -1 := by simp [kpL, kp, up, e0, e1, e2, e3, i2, i3, i4, i5, i6, i7]
  have f3 : kpL F [a0, a1, a2, a3] 3 = -1 := by simp [kpL, kp, up, e0, e1, e2, e3, i2, i3, i4, i5, i6, i7]
  have f4 : kpL F [a0, a1, a2, a3] 4 = a1 - 97 := by simp [kpL, kp, up, e0, e1, e2, e3, i2, i3, i4, i5, i6, i7]
  have f5 : kpL F [a0, a1, a2, a3] 5 = a2 - 49 := by simp [kpL, kp, up, e0, e1, e2, e3, i2, i3, i4, i5, i6, i7]
  have f6 : kpL F [a0, a1, a2, a3] 6 = a3 := by simp [kpL, kp, up, e0, e1, e2, e3, i2, i3, i4, i5, i6, i7]
  have f7 : kpL F [a0, a1, a2, a3] 7 = 1 := by simp [kpL, kp, up, e0, e1, e2, e3, i2, i3, i4, i5, i6, i7]
  unfold fldOk
  rw [f2, f3, f4, f5, f6, f7]
  simp only [tLf, tLr, tFf, tFr, tLx, tLs, List.getD_cons_succ, List.getD_cons_zero]
  refine ⟨⟨?_, ?_⟩, ?_, ?_, ?_, ?_, ?_, ?_, ?_, ?_, ?_⟩ <;> (first | omega | (simp; try omega))
theorem fld_13 {F : Int → Int} (h0 : fld0 F) {r : List Int} (h : r.map cls = frm 13) : fldOk (kpL F r) r 13 := by
  obtain ⟨i2, i3, i4, i5, i6, i7⟩ := h0
  have h : r.map cls = [0, 2, 0, 1, 3] := h
  obtain ⟨a0, t0, rfl, e0, h⟩ := map_c h
  obtain ⟨a1, t1, rfl, e1, h⟩ := map_c h
  obtain ⟨a2, t2, rfl, e2, h⟩ := map_c h
  obtain ⟨a3, t3, rfl, e3, h⟩ := map_c h
  obtain ⟨a4, t4, rfl, e4, h⟩ := map_c h
  obtain rfl := map_n h
  have b0 := cls_0 e0
  have b2 := cls_0 e2
  have b3 := cls_1 e3
  have b4 := cls_3 e4
  have f2 : kpL F [a0, a1, a2, a3, a4] 2 = a0 - 97 := by simp [kpL, kp, up, e0, e1, e2, e3, e4, i2, i3, i4, i5, i6, i7]
  have f3 : kpL F [a0, a1, a2, a3, a4] 3 = -1 := by simp [kpL, kp, up, e0, e1, e2, e3, e4, i2, i3, i4, i5, i6, i7]
  have f4 : kpL F [a0, a1, a2, a3, a4] 4 = a2 - 97 := by simp [kpL, kp, up, e0, e1, e2, e3, e4, i2, i3, i4, i5, i6, i7]
  have f5 : kpL F [a0, a1, a2, a3, a4] 5 = a3 - 49 := by simp [kpL, kp, up, e0, e1, e2, e3, e4, i2, i3, i4, i5, i6, i7]
  have f6 : kpL F [a0, a1, a2, a3, a4] 6 = a4 := by simp [kpL, kp, up, e0, e1, e2, e3, e4, i2, i3, i4, i5, i6, i7]
  have f7 : kpL F [a0, a1, a2, a3, a4] 7 = 1 := by simp [kpL, kp, up, e0, e1, e2, e3, e4, i2, i3, i4, i5, i6, i7]
  unfold fldOk
  rw [f2, f3, f4, f5, f6, f7]
  simp only [tLf, tLr, tFf, tFr, tLx, tLs, List.getD_cons_succ, List.getD_cons_zero]
  refine ⟨⟨?_, ?_⟩, ?_, ?_, ?_, ?_, ?_, ?_, ?_, ?_, ?_⟩ <;> (first | omega | (simp; try omega))
theorem fld_14 {F : Int → Int} (h0 : fld0 F) {r : List Int} (h : r.map cls = frm 14) : fldOk (kpL F r) r 14 := by
  obtain ⟨i2, i3, i4, i5, i6, i7⟩ := h0
  have h : r.map cls = [1, 2, 0, 1, 3] := h
  obtain ⟨a0, t0, rfl, e0, h⟩ := map_c h
  obtain ⟨a1, t1, rfl, e1, h⟩ := map_c h
  obtain ⟨a2, t2, rfl, e2, h⟩ := map_c h
  obtain ⟨a3, t3, rfl, e3, h⟩ := map_c h
  obtain ⟨a4, t4, rfl, e4, h⟩ := map_c h
  obtain rfl := map_n h
  have b0 := cls_1 e0
  have b2 := cls_0 e2
  have b3 := cls_1 e3
  have b4 := cls_3 e4
  have f2 : kpL F [a0, a1, a2, a3, a4] 2 = -1 := by simp [kpL, kp, up, e0, e1, e2, e3, e4, i2, i3, i4, i5, i6, i7]
  have f3 : kpL F [a0, a1, a2, a3, a4] 3 = a0 - 49 := by simp [kpL, kp, up, e0, e1, e2, e3, e4, i2, i3, i4, i5, i6, i7]
  have f4 : kpL F [a0, a1, a2, a3, a4] 4 = a2 - 97 := by simp [kpL, kp, up, e0, e1, e2, e3, e4, i2, i3, i4, i5, i6, i7]
  have f5 : kpL F [a0, a1, a2, a3, a4] 5 = a3 - 49 := by simp [kpL, kp, up, e0, e1, e2, e3, e4, i2, i3, i4, i5, i6, i7]
  have f6 : kpL F [a0, a1, a2, a3, a4] 6 = a4 := by simp [kpL, kp, up, e0, e1, e2, e3, e4, i2, i3, i4, i5, i6, i7]
  have f7 : kpL F [a0, a1, a2, a3, a4] 7 = 1 := by simp [kpL, kp, up, e0, e1, e2, e3, e4, i2, i3, i4, i5, i6, i7]
  unfold fldOk
  rw [f2, f3, f4, f5, f6, f7]
  simp only [tLf, tLr, tFf, tFr, tLx, tLs, List.getD_cons_succ, List.getD_cons_zero]
  refine ⟨⟨?_, ?_⟩, ?_, ?_, ?_, ?_, ?_, ?_, ?_, ?_, ?_⟩ <;> (first | omega | (simp; try omega))
theorem fld_15 {F : Int → Int} (h0 : fld0 F) {r : List Int} (h : r.map cls = frm 15) : fldOk (kpL F r) r 15 := by
  obtain ⟨i2, i3, i4, i5, i6, i7⟩ := h0
  have h : r.map cls = [0, 1, 2, 0, 1, 3] := h
  obtain ⟨a0, t0, rfl, e0, h⟩ := map_c h
  obtain ⟨a1, t1, rfl, e1, h⟩ := map_c h
  obtain ⟨a2, t2, rfl, e2, h⟩ := map_c h
  obtain ⟨a3, t3, rfl, e3, h⟩ := map_c h
  obtain ⟨a4, t4, rfl, e4, h⟩ := map_c h
  obtain ⟨a5, t5, rfl, e5, h⟩ := map_c h
  obtain rfl := map_n h
  have b0 := cls_0 e0
  have b1 := cls_1 e1
  have b3 := cls_0 e3
  have b4 := cls_1 e4
  have b5 := cls_3 e5
  have f2 : kpL F [a0, a1, a2, a3, a4, a5] 2 = a0 - 97 := by simp [kpL, kp, up, e0, e1, e2, e3, e4, e5, i2, i3, i4, i5, i6, i7]
  have f3 : kpL F [a0, a1, a2, a3, a4, a5] 3 = a1 - 49 := by simp [kpL, kp, up, e0, e1, e2, e3, e4, e5, i2, i3, i4, i5, i6, i7]
  have f4 : kpL F [a0, a1, a2, a3, a4, a5] 4 = a3 - 97 := by simp [kpL, kp, up, e0, e1, e2, e3, e4, e5, i2, i3, i4, i5, i6, i7]
  have f5 : kpL F [a0, a1, a2, a3, a4, a5] 5 = a4 - 49 := by simp [kpL, kp, up, e0, e1, e2, e3, e4, e5, i2, i3, i4, i5, i6, i7]
  have f6 : kpL F [a0, a1, a2, a3, a4, a5] 6 = a5 := by simp [kpL, kp, up, e0, e1, e2, e3, e4, e5, i2, i3, i4, i5, i6, i7]
  have f7 : kpL F [a0, a1, a2, a3, a4, a5] 7 = 1 := by simp [kpL, kp, up, e0, e1, e2, e3, e4, e5, i2, i3, i4, i5, i6, i7]
  unfold fldOk
  rw [f2, f3, f4, f5, f6, f7]
  simp only [tLf, tLr, tFf, tFr, tLx, tLs, List.getD_cons_succ, List.getD_cons_zero]
  refine ⟨⟨?_, ?_⟩, ?_, ?_, ?_, ?_, ?_, ?_, ?_, ?_, ?_⟩ <;> (first | omega | (simp; try omega))
theorem fld_all {F : Int → Int} (h0 : fld0 F) {r : List Int} {k : Nat} (hk : k < 16) (h : r.map cls = frm k) : fldOk (kpL F r) r k := by
  rcases (show k = 0 ∨ k = 1 ∨ k = 2 ∨ k = 3 ∨ k = 4 ∨ k = 5 ∨ k = 6 ∨ k = 7 ∨ k = 8 ∨ k = 9 ∨ k = 10 ∨ k = 11 ∨ k = 12 ∨ k = 13 ∨ k = 14 ∨ k = 15 by omega) with e | e | e | e | e | e | e | e | e | e | e | e | e | e | e | e
  · subst e; exact fld_0 h0 h
  · subst e; exact fld_1 h0 h
  · subst e; exact fld_2 h0 h
  · subst e; exact fld_3 h0 h
  · subst e; exact fld_4 h0 h
  · subst e; exact fld_5 h0 h
  · subst e; exact fld_6 h0 h
  · subst e; exact fld_7 h0 h
  · subst e; exact fld_8 h0 h
  · subst e; exact fld_9 h0 h
  · subst e; exact fld_10 h0 h
  · subst e; exact fld_11 h0 h
  · subst e; exact fld_12 h0 h
  · subst e; exact fld_13 h0 h
  · subst e; exact fld_14 h0 h
  · subst e; exact fld_15 h0 h
end ZFLD
end
section
section ZFIND
/-! the reference finds the form -/
abbrev tpL (a : Int → Int) (s : Int) (u : List Int) : Prop := ∀ i : Nat, i < u.length → u[i]? = some (a (s + i))
abbrev byL (u : List Int) : Prop := ∀ v ∈ u, 0 ≤ v ∧ v ≤ 255
theorem tpL_at {a : Int → Int} {s : Int} {u : List Int} (t : tpL a s u) {i : Nat} {v : Int} (h : u[i]? = some v) : a (s + i) = v := by
  have hi : i < u.length := (List.getElem?_eq_some_iff.mp h).1
  have e := t i hi
  rw [h] at e
  exact (Option.some.inj e).symm
theorem umX6_fits {v : Int} {c : Nat} {h : HS} (hv : 0 ≤ v ∧ v ≤ 255) (hc : c < 4) : fX6_fits v (cd c) h = some (if cls v = c then 1 else 0) := by
  have hz : zr v := by unfold zr; omega
  have i1 := pX6_isIn (x := v) (a := 97) (b := 104) (h := h) hz (by unfold zr; omega) (by unfold zr; omega)
  have i2 := pX6_isIn (x := v) (a := 49) (b := 56) (h := h) hz (by unfold zr; omega) (by unfold zr; omega)
  unfold fX6_fits
  rw [i1, i2, wr_of (z := v) (by omega) (by omega), Option.bind_some, Option.bind_some]
  rcases (show c = 0 ∨ c = 1 ∨ c = 2 ∨ c = 3 by omega) with e | e | e | e
  · subst e
    rw [if_pos (show wr (cd 0) = 102 by decide)]
    by_cases q : 97 ≤ v ∧ v ≤ 104
    · rw [if_pos q, if_pos (cls_e0.mpr q), if_pos (Or.inr rfl)]
    · rw [if_neg q, if_neg (fun k => q (cls_e0.mp k)), if_pos (Or.inl rfl)]
  · subst e
    rw [if_neg (show ¬ wr (cd 1) = 102 by decide), if_pos (show wr (cd 1) = 114 by decide)]
    by_cases q : 49 ≤ v ∧ v ≤ 56
    · rw [if_pos q, if_pos (cls_e1.mpr q), if_pos (Or.inr rfl)]
    · rw [if_neg q, if_neg (fun k => q (cls_e1.mp k)), if_pos (Or.inl rfl)]
  · subst e
    rw [if_neg (show ¬ wr (cd 2) = 102 by decide), if_neg (show ¬ wr (cd 2) = 114 by decide), if_pos (show wr (cd 2) = 120 by decide)]
    by_cases q : v = 120
    · rw [if_pos q, if_pos (cls_e2.mpr q)]
    · rw [if_neg q, if_neg (fun k => q (cls_e2.mp k))]
  · subst e
    rw [if_neg (show ¬ wr (cd 3) = 102 by decide), if_neg (show ¬ wr (cd 3) = 114 by decide), if_neg (show ¬ wr (cd 3) = 120 by decide)]
    by_cases q : v = 43 ∨ v = 35
    · rw [if_pos (cls_e3.mpr q)]
      rcases q with q | q
      · rw [if_pos q]
      · rw [if_neg (by omega), if_pos q]
    · rw [if_neg (fun k => q (cls_e3.mp k)), if_neg (by omega), if_neg (by omega)]
def Zf (fo ba : Int) (g : HS) : HS := fun a => if a = 30 then (fun b => if b = 18 then fo else if b = 21 then ba else g 30 b) else g a
theorem Zf_ne {fo ba : Int} {g : HS} {a : Nat} (ha : a ≠ 30) : Zf fo ba g a = g a := by
  unfold Zf
  rw [if_neg ha]
theorem Zf_30 {fo ba : Int} {g : HS} (b : Int) : Zf fo ba g 30 b = if b = 18 then fo else if b = 21 then ba else g 30 b := rfl
theorem Zf_u21 {fo ba x : Int} {g : HS} : hs (Zf fo ba g) 30 21 x = Zf fo x g := by
  funext a b
  by_cases ha : a = 30
  · subst ha
    rw [hs_at, if_pos rfl, Zf_30, Zf_30]
    by_cases hb : b = 21
    · subst hb
      rw [if_pos rfl, if_neg (by decide), if_pos rfl]
    · rw [if_neg hb, if_neg hb, if_neg hb]
  · rw [hs_ne _ _ _ ha, Zf_ne ha, Zf_ne ha]
theorem Zf_u18 {fo ba x : Int} {g : HS} : hs (Zf fo ba g) 30 18 x = Zf x ba g := by
  funext a b
  by_cases ha : a = 30
  · subst ha
    rw [hs_at, if_pos rfl, Zf_30, Zf_30]
    by_cases hb : b = 18
    · rw [if_pos hb, if_pos hb]
    · rw [if_neg hb, if_neg hb, if_neg hb]
  · rw [hs_ne _ _ _ ha, Zf_ne ha, Zf_ne ha]
theorem Zf_0 {fo ba : Int} {g : HS} : hs (hs g 30 18 fo) 30 21 ba = Zf fo ba g := by
  funext a b
  by_cases ha : a = 30
  · subst ha
    rw [hs_at, if_pos rfl, hs_at, if_pos rfl, Zf_30]
    by_cases hb : b = 21
    · subst hb
      rw [if_pos rfl, if_neg (by decide), if_pos rfl]
    · rw [if_neg hb, if_neg hb]
  · rw [hs_ne _ _ _ ha, hs_ne _ _ _ ha, Zf_ne ha]
theorem frm_len : ∀ k : Fin 16, (frm k.val).length ≤ 6 ∧ 2 ≤ (frm k.val).length ∧ ∀ c ∈ frm k.val, c < 4 := by decide +kernel
theorem fitN_le : ∀ {F C : List Nat}, fitN F C ≤ F.length ∧ fitN F C ≤ C.length
  | [], C => by rw [fitN_nil]; exact ⟨Nat.zero_le _, Nat.zero_le _⟩
  | f :: F, [] => by rw [fitN_end]; exact ⟨Nat.zero_le _, Nat.zero_le _⟩
  | f :: F, c :: C => by
    have ih := @fitN_le F C
    show (if f = c then fitN F C + 1 else 0) ≤ F.length + 1 ∧ (if f = c then fitN F C + 1 else 0) ≤ C.length + 1
    split <;> omega
theorem mX6_L56 {u : List Int} (hu : byL u) {k : Nat} (hk : k < 16) {b0 : Int} (hb : 0 ≤ b0) (hl : b0 + 1 + u.length ≤ 2000) (k35 : Int → Int → Int → HS → Option (Int × HS)) {g : HS} (t : tpL (g 39) (b0 + 1) u) : ∀ (nf j : Nat), j ≤ (frm k).length → j ≤ u.length → (frm k).length - j < nf → fX6_findForm_L56 k35 nf b0 (b0 + 1 + (u.length : Int)) (k : Int) ((frm k).length : Int) (j : Int) g = fX6_findForm_b106 k35 b0 (b0 + 1 + (u.length : Int)) (k : Int) ((frm k).length : Int) ((j + fitN ((frm k).drop j) ((u.map cls).drop j) : Nat) : Int) g
  | 0, j, h1, h2, h3 => by omega
  | nf + 1, j, h1, h2, h3 => by
    obtain ⟨l1, l2, l3⟩ := frm_len ⟨k, hk⟩
    dsimp only at l1 l2 l3
    rw [fX6_findForm_L56]
    rw [wr_of (z := ((frm k).length : Int)) (by omega) (by omega), wr_of (z := (j : Int)) (by omega) (by omega), wr_of (z := b0 + 1 + (u.length : Int)) (by omega) (by omega), wr_of (z := b0 + 1 + (j : Int)) (by omega) (by omega)]
    by_cases q1 : ((frm k).length : Int) ≤ (j : Int)
    · rw [if_pos q1, List.drop_eq_nil_of_le (by omega), fitN_nil, Nat.add_zero]
    · rw [if_neg q1]
      by_cases q2 : b0 + 1 + (u.length : Int) ≤ b0 + 1 + (j : Int)
      · rw [if_pos q2, List.drop_eq_nil_of_le (as := u.map cls) (by rw [List.length_map]; omega), fitN_end, Nat.add_zero]
      · have hj : j < u.length := by omega
        have hjf : j < (frm k).length := by omega
        have ec : fJ0_charAt_5068e k (j : Int) g = some (cd ((frm k)[j])) := by
          have e := cat_z ⟨k, hk⟩ ⟨j, by omega⟩ hjf
          dsimp only at e
          rw [cat_h, e, List.getD_eq_getElem?_getD, List.getElem?_eq_getElem hjf]
          rfl
        have ev : g 39 (b0 + 1 + (j : Int)) = u[j] := tpL_at t (List.getElem?_eq_getElem hj)
        have rv := hu u[j] (List.getElem_mem hj)
        have rc := l3 _ (List.getElem_mem hjf)
        have ed : fitN ((frm k).drop j) ((u.map cls).drop j) = if (frm k)[j] = cls u[j] then fitN ((frm k).drop (j + 1)) ((u.map cls).drop (j + 1)) + 1 else 0 := by
          rw [List.drop_eq_getElem_cons hjf, List.drop_eq_getElem_cons (l := u.map cls) (by rw [List.length_map]; omega), List.getElem_map]
          rfl
        rw [if_neg q2, if_pos (by omega), if_pos (by omega), Int.toNat_natCast, if_pos hk, ec, Option.bind_some, ev, umX6_fits rv rc, Option.bind_some, ed]
        by_cases q3 : cls u[j] = (frm k)[j]
        · rw [if_pos q3, if_neg (show ¬ wr 1 = 0 by decide), if_pos q3.symm, show (j : Int) + 1 = ((j + 1 : Nat) : Int) by omega, mX6_L56 hu hk hb hl k35 t nf (j + 1) (by omega) (by omega) (by omega), show j + 1 + fitN ((frm k).drop (j + 1)) ((u.map cls).drop (j + 1)) = j + (fitN ((frm k).drop (j + 1)) ((u.map cls).drop (j + 1)) + 1) by omega]
        · rw [if_neg q3, if_pos wr_0, if_neg (fun e => q3 e.symm), Nat.add_zero]
theorem zmax_at {x y : Int} (hx : zr x) (hy : zr y) : zmax x y = if x < y then y else x := by
  unfold zmax
  rw [wr_of hx.1 hx.2, wr_of hy.1 hy.2]
theorem mX6_L35 {u : List Int} (hu : byL u) {b0 : Int} (hb : 0 ≤ b0) (hl : b0 + 1 + u.length ≤ 2000) {g : HS} (t : tpL (g 39) (b0 + 1) u) : ∀ (nf n k : Nat) (fo ba : Int) (mx : Nat), n + k = 16 → n < nf → -1 ≤ fo ∧ fo < 16 → mx ≤ 6 → (ba = b0 + 1 + mx ∨ (ba = b0 ∧ mx = 0 ∧ 0 < n)) → fX6_findForm_L35 nf b0 (b0 + 1 + (u.length : Int)) (k : Int) (Zf fo ba g) = some (if (gF (u.map cls) n k fo mx).1 = -1 then 0 else 1, Zf (gF (u.map cls) n k fo mx).1 (b0 + 1 + ((gF (u.map cls) n k fo mx).2 : Int)) g)
  | 0, n, k, fo, ba, mx, h1, h2, h3, h4, h5 => by omega
  | nf + 1, n, k, fo, ba, mx, h1, h2, h3, h4, h5 => by
    rw [fX6_findForm_L35]
    rw [wr_of (z := (k : Int)) (by omega) (by omega), Zf_30, if_pos rfl, wr_of (z := fo) (by omega) (by omega)]
    cases n with
    | zero =>
      have e : ba = b0 + 1 + mx := by
        rcases h5 with h5 | h5
        · exact h5
        · omega
      rw [if_pos (by omega), e]
      show (if fo = -1 then some (0, _) else some (1, _)) = some (if fo = -1 then 0 else 1, _)
      by_cases q : fo = -1
      · rw [if_pos q, if_pos q]; rfl
      · rw [if_neg q, if_neg q]; rfl
    | succ n =>
      have hk : k < 16 := by omega
      obtain ⟨l1, l2, l3⟩ := frm_len ⟨k, hk⟩
      dsimp only at l1 l2 l3
      have fl := @fitN_le (frm k) (u.map cls)
      have el : fJ0_length_8abf5 k (Zf fo ba g) = some ((frm k).length : Int) := by
        rw [len_h]
        exact len_z ⟨k, hk⟩
      have e56 := mX6_L56 hu hk hb hl (fun a0 a1 a2 hh => fX6_findForm_L35 nf a0 a1 a2 hh) (g := Zf fo ba g) (by rw [Zf_ne (by decide)]; exact t) zF 0 (by omega) (by omega) (by unfold zF; omega)
      rw [List.drop_zero, List.drop_zero, Nat.zero_add] at e56
      have e56b : fX6_findForm_L56 (fun a0 a1 a2 hh => fX6_findForm_L35 nf a0 a1 a2 hh) zF b0 (b0 + 1 + (u.length : Int)) (k : Int) ((frm k).length : Int) 0 (Zf fo ba g) = _ := e56
      rw [if_neg (by omega), if_pos (by omega), Int.toNat_natCast, if_pos hk, el, Option.bind_some, e56b]
      obtain ⟨F, eF⟩ : ∃ F, F = fitN (frm k) (u.map cls) := ⟨_, rfl⟩
      rw [List.length_map] at fl
      have eg : gF (u.map cls) (n + 1) k fo mx = gF (u.map cls) n (k + 1) (if F = (frm k).length ∧ (frm k).length = u.length then (k : Int) else fo) (max mx F) := by
        rw [eF]
        show gF (u.map cls) n (k + 1) (if fitN (frm k) (u.map cls) = (frm k).length ∧ (frm k).length = (u.map cls).length then (k : Int) else fo) _ = _
        rw [List.length_map]
      rw [eg]
      rw [← eF] at fl ⊢
      unfold fX6_findForm_b106 fX6_findForm_b145
      have ezm : zmax (Zf fo ba g 30 21) (b0 + 1 + (F : Int)) = b0 + 1 + ((max mx F : Nat) : Int) := by
        have e21 : Zf fo ba g 30 21 = ba := rfl
        rw [e21, zmax_at (by unfold zr; omega) (by unfold zr; omega)]
        split <;> omega
      rw [ezm, Zf_u21, Zf_u18, wr_of (z := (F : Int)) (by omega) (by omega), wr_of (z := ((frm k).length : Int)) (by omega) (by omega), wr_of (z := b0 + 1 + ((frm k).length : Int)) (by omega) (by omega), wr_of (z := b0 + 1 + (u.length : Int)) (by omega) (by omega), show (k : Int) + 1 = ((k + 1 : Nat) : Int) by omega]
      have ih := fun fo2 (h : -1 ≤ fo2 ∧ fo2 < 16) => mX6_L35 hu hb hl t nf n (k + 1) fo2 (b0 + 1 + ((max mx F : Nat) : Int)) (max mx F) (by omega) (by omega) h (by omega) (Or.inl rfl)
      by_cases q1 : (F : Int) = ((frm k).length : Int)
      · rw [if_pos q1]
        by_cases q2 : b0 + 1 + ((frm k).length : Int) = b0 + 1 + (u.length : Int)
        · rw [if_pos q2, if_pos (show F = (frm k).length ∧ (frm k).length = u.length by omega)]
          exact ih _ (by omega)
        · rw [if_neg q2, if_neg (show ¬ (F = (frm k).length ∧ (frm k).length = u.length) by omega)]
          exact ih _ h3
      · rw [if_neg q1, if_neg (show ¬ (F = (frm k).length ∧ (frm k).length = u.length) by omega)]
        exact ih _ h3
theorem mX6_find0 {b0 : Int} (hb : 0 ≤ b0 ∧ b0 < 2000) {g : HS} : fX6_findForm b0 b0 g = some (0, Zf (-1) b0 g) := by
  unfold fX6_findForm
  rw [if_pos rfl, Zf_0]
theorem mX6_find {b0 : Int} {c : Int} {r : List Int} (hu : byL (c :: r)) (hb : 0 ≤ b0) (hl : b0 + 1 + r.length ≤ 2000) {g : HS} (t : tpL (g 39) b0 (c :: r)) : fX6_findForm b0 (b0 + 1 + (r.length : Int)) g = if 65 ≤ c ∧ c ≤ 90 then some (if (rsF (r.map cls)).1 = -1 then 0 else 1, Zf (rsF (r.map cls)).1 (b0 + 1 + ((rsF (r.map cls)).2 : Int)) g) else some (0, Zf (-1) b0 g) := by
  have hc := hu c (List.mem_cons_self)
  have hr : byL r := fun v hv => hu v (List.mem_cons_of_mem _ hv)
  have ec : g 39 b0 = c := by
    have e := tpL_at t (i := 0) (v := c) rfl
    rw [Int.natCast_zero, Int.add_zero] at e
    exact e
  have t2 : tpL (g 39) (b0 + 1) r := fun i hi => by
    have e := t (i + 1) (by rw [List.length_cons]; omega)
    rw [List.getElem?_cons_succ] at e
    rw [e, show b0 + ((i + 1 : Nat) : Int) = b0 + 1 + (i : Int) by omega]
  unfold fX6_findForm
  rw [wr_of (z := b0) (by omega) (by omega), wr_of (z := b0 + 1 + (r.length : Int)) (by omega) (by omega), if_neg (by omega), if_pos (by omega), Zf_0, Zf_ne (by decide), ec, pX6_isIn (by unfold zr; omega) (by unfold zr; omega) (by unfold zr; omega), Option.bind_some]
  by_cases q : 65 ≤ c ∧ c ≤ 90
  · rw [if_pos q, if_neg (show ¬ wr 1 = 0 by decide), if_pos q]
    exact mX6_L35 hr hb hl t2 zF 16 0 (-1) b0 0 (by omega) (by unfold zF; omega) (by omega) (by omega) (Or.inr ⟨rfl, rfl, by omega⟩)
  · rw [if_neg q, if_pos wr_0, if_neg q]
/-! what stands at a place of the form -/
theorem umX6_late {b0 : Int} {c : Int} {r : List Int} {k : Nat} (hk : k < 16) (hb : 0 ≤ b0) (hl : b0 + 1 + r.length ≤ 2000) {g : HS} (t : tpL (g 39) (b0 + 1) r) (e18 : g 30 18 = k) {ix : Int} (hix : fJ0_lastIndexOf_0f7a4 k c z0 = some ix) (h1 : -1 ≤ ix ∧ ix < 6) {v : Int} (hv : ix = -1 ∧ v = -1 ∨ 0 ≤ ix ∧ r[ix.toNat]? = some v) : fX6_late b0 c g = some v := by
  unfold fX6_late
  rw [e18, if_pos (by omega), Int.toNat_natCast, if_pos hk, lix_h, hix, Option.bind_some, wr_of (z := ix) (by omega) (by omega)]
  rcases hv with ⟨a, b⟩ | ⟨a, b⟩
  · rw [if_neg (by omega), b]
  · have hi : ix.toNat < r.length := (List.getElem?_eq_some_iff.mp b).1
    have e := tpL_at t b
    rw [Int.toNat_of_nonneg a] at e
    rw [if_pos a, if_pos (by omega), e]
theorem umX6_early {b0 : Int} {c : Int} {r : List Int} {k : Nat} (hk : k < 16) (hb : 0 ≤ b0) (hl : b0 + 1 + r.length ≤ 2000) {g : HS} (t : tpL (g 39) (b0 + 1) r) (e18 : g 30 18 = k) {i1 i2 : Int} (h1 : fJ0_indexOf_0f7a4 k c z0 = some i1) (h2 : fJ0_lastIndexOf_0f7a4 k c z0 = some i2) (hr1 : 0 ≤ i1 ∧ i1 < 6) (hr2 : 0 ≤ i2 ∧ i2 < 6) {v : Int} (hv : if i1 = i2 then v = -1 else r[i1.toNat]? = some v) : fX6_early b0 c g = some v := by
  unfold fX6_early
  rw [e18, if_pos (by omega), Int.toNat_natCast, if_pos hk, fix_h, h1, Option.bind_some, if_pos hk, lix_h, h2, Option.bind_some, wr_of (z := i1) (by omega) (by omega), wr_of (z := i2) (by omega) (by omega)]
  by_cases q : i1 = i2
  · rw [if_pos q] at hv ⊢
    rw [hv]
  · rw [if_neg q] at hv ⊢
    have hi : i1.toNat < r.length := (List.getElem?_eq_some_iff.mp hv).1
    have e := tpL_at t hv
    rw [Int.toNat_of_nonneg hr1.1] at e
    rw [if_pos (by omega), e]
end ZFIND
end
section
section ZFITS
/-! the class reads a form -/
def hF (h : HS) (F : Int → Int) : HS := fun a => if a = 18 then F else h a
theorem hF_ne {h : HS} {F : Int → Int} {a : Nat} (ha : a ≠ 18) : hF h F a = h a := by
  unfold hF
  rw [if_neg ha]
theorem hF_18 {h : HS} {F : Int → Int} : hF h F 18 = F := by
  unfold hF
  rw [if_pos rfl]
theorem hF_up {h : HS} {F : Int → Int} {k v : Int} : hs (hF h F) 18 k v = hF h (up F k v) := by
  funext a b
  by_cases ha : a = 18
  · subst ha
    rw [hs_at, if_pos rfl, hF_18, hF_18]
    rfl
  · rw [hs_ne _ _ _ ha, hF_ne ha, hF_ne ha]
theorem hF_0 {h : HS} {k v : Int} : hs h 18 k v = hF h (up (h 18) k v) := by
  funext a b
  by_cases ha : a = 18
  · subst ha
    rw [hs_at, if_pos rfl, hF_18]
    rfl
  · rw [hs_ne _ _ _ ha, hF_ne ha]
theorem hF_qc {h : HS} {F : Int → Int} : zsq (hF h F) h := fun a b hn => by rw [hF_ne (fun k => hn (Or.inl (by omega)))]
theorem cX2_file {b : Int} {h : HS} (hb : 0 ≤ b ∧ b ≤ 255) : fX2_isFile b h = some (if cls b = 0 then 1 else 0) := by
  unfold fX2_isFile
  rw [wr_of (z := b) (by omega) (by omega)]
  by_cases q : cls b = 0
  · have := cls_e0.mp q
    rw [if_neg (by omega), if_neg (by omega), if_pos q]
  · rw [if_neg q]
    have q2 : ¬ (97 ≤ b ∧ b ≤ 104) := fun k => q (cls_e0.mpr k)
    by_cases q1 : b < 97
    · rw [if_pos q1]
    · rw [if_neg q1, if_pos (by omega)]
theorem cX2_rank {b : Int} {h : HS} (hb : 0 ≤ b ∧ b ≤ 255) : fX2_isRank b h = some (if cls b = 1 then 1 else 0) := by
  unfold fX2_isRank
  rw [wr_of (z := b) (by omega) (by omega)]
  by_cases q : cls b = 1
  · have := cls_e1.mp q
    rw [if_neg (by omega), if_neg (by omega), if_pos q]
  · rw [if_neg q]
    have q2 : ¬ (49 ≤ b ∧ b ≤ 56) := fun k => q (cls_e1.mpr k)
    by_cases q1 : b < 49
    · rw [if_pos q1]
    · rw [if_neg q1, if_pos (by omega)]
theorem ucX2_sign {b : Int} {h : HS} (hb : 0 ≤ b ∧ b ≤ 255) : fX2_isSign b h = some (if cls b = 3 then 1 else 0) := by
  unfold fX2_isSign
  rw [wr_of (z := b) (by omega) (by omega)]
  by_cases q : cls b = 3
  · have := cls_e3.mp q
    rw [if_pos q]
    by_cases q1 : b = 43
    · rw [if_pos q1]
    · rw [if_neg q1, if_pos (by omega)]
  · rw [if_neg q]
    have q2 : ¬ (b = 43 ∨ b = 35) := fun k => q (cls_e3.mpr k)
    rw [if_neg (by omega), if_neg (by omega)]
def dlI (st c : Nat) : Int := if dl st c = 0 then -1 else (dl st c : Int)
theorem cX2_state {b : Int} {h : HS} (hb : 0 ≤ b ∧ b ≤ 255) {st : Nat} (hst : 1 ≤ st ∧ st ≤ 8) : fX2_stateBehind (st : Int) b h = some (dlI st (cls b)) := by
  have w0 : wr 0 = 0 := by decide
  have w1 : wr 1 = 1 := by decide
  have w2 : wr 2 = 2 := by decide
  have w3 : wr 3 = 3 := by decide
  have w4 : wr 4 = 4 := by decide
  have w5 : wr 5 = 5 := by decide
  have w6 : wr 6 = 6 := by decide
  have w7 : wr 7 = 7 := by decide
  have w8 : wr 8 = 8 := by decide
  have wb := wr_of (z := b) (by omega) (by omega)
  have cl := cls_lt b
  have hx : (b = 120) = (cls b = 2) := propext cls_e2.symm
  unfold fX2_stateBehind fX2_stateBehindOrigin dlI dl
  simp only [cX2_file hb, cX2_rank hb, ucX2_sign hb, Option.bind_some, wb, hx]
  rcases (show st = 1 ∨ st = 2 ∨ st = 3 ∨ st = 4 ∨ st = 5 ∨ st = 6 ∨ st = 7 ∨ st = 8 by omega) with e | e | e | e | e | e | e | e <;> subst e <;> rcases (show cls b = 0 ∨ cls b = 1 ∨ cls b = 2 ∨ cls b = 3 ∨ cls b = 4 by omega) with c | c | c | c | c <;> simp [c, w0, w1, w2, w3, w4, w5, w6, w7, w8]
theorem ucX2_keep {b : Int} {h : HS} {F : Int → Int} (hb : 0 ≤ b ∧ b ≤ 255) : fX2_keep b (hF h F) = some (hF h (kp F b)) := by
  have w0 : wr 0 = 0 := by decide
  have w1 : wr 1 = 1 := by decide
  have wb := wr_of (z := b) (by omega) (by omega)
  have cl := cls_lt b
  have hx : (b = 120) = (cls b = 2) := propext cls_e2.symm
  unfold fX2_keep kp
  simp only [cX2_file hb, cX2_rank hb, ucX2_sign hb, Option.bind_some, wb, hx]
  rcases (show cls b = 0 ∨ cls b = 1 ∨ cls b = 2 ∨ cls b = 3 ∨ cls b = 4 by omega) with c | c | c | c | c <;> simp [c, w0, w1, hF_up, hF_18]
theorem kp_0 {F : Int → Int} {b : Int} : kp F b 0 = F 0 := by
  unfold kp up
  split
  · rfl
  · split
    · rfl
    · split
      · rfl
      · split <;> rfl
theorem kpL_0 : ∀ {r : List Int} {F : Int → Int}, kpL F r 0 = F 0
  | [], F => rfl
  | b :: r, F => by
    show kpL (kp F b) r 0 = F 0
    rw [kpL_0, kp_0]
theorem kp_1 {F : Int → Int} {b : Int} (h : cls b < 4) : kp F b 1 = F 1 := by
  unfold kp up
  rcases (show cls b = 0 ∨ cls b = 1 ∨ cls b = 2 ∨ cls b = 3 by omega) with c | c | c | c <;> simp [c]
theorem kpL_1 : ∀ {r : List Int} {F : Int → Int}, (∀ b ∈ r, cls b < 4) → kpL F r 1 = F 1
  | [], F, _ => rfl
  | b :: r, F, h => by
    show kpL (kp F b) r 1 = F 1
    rw [kpL_1 (fun x hx => h x (List.mem_cons_of_mem _ hx)), kp_1 (h b List.mem_cons_self)]
theorem dl_le {st c : Nat} : dl st c ≤ 8 := by
  unfold dl
  repeat' split
  all_goals omega
theorem fits_dead {h : HS} {F : Int → Int} {nf : Nat} {e st p : Int} (hp : 0 ≤ F 0 ∧ F 0 ≤ 5000) : fX2_fits_L10 (nf + 1) e st p (hF h F) = some (0, hF h F) := by
  have wF := wr_of (z := F 0) (by omega) (by omega)
  have e68 : fX2_fits_b68 e st (hF h F) = some (0, hF h F) := by
    unfold fX2_fits_b68 fX2_fits_b101
    rw [hF_18, wF, if_neg (by omega), if_neg (by omega)]
  rw [fX2_fits_L10]
  rw [e68, hF_18, wF, if_neg (show ¬ F 0 = -1 by omega), ite_self]
theorem ucX3_get {p : Int} {h : HS} (hn : h 19 1 ≤ 2000) (hp : 0 ≤ p ∧ p < h 19 1) : fX3_get p h = some (h 20 p) := by
  unfold fX3_get
  rw [wr_of (z := p) (by omega) (by omega), wr_of (z := h 19 1) (by omega) (by omega), if_neg (show ¬ p < 0 by omega), if_neg (show ¬ h 19 1 ≤ p by omega), if_pos (by omega)]
theorem fitsL {h : HS} (hn : h 19 1 ≤ 2000) : ∀ (u : List Int) (nf st : Nat) (p : Int) (F : Int → Int), F 0 = -1 → tpL (h 20) p u → byL u → 0 ≤ p → p + u.length ≤ h 19 1 → u.length + 1 < nf → 1 ≤ st ∧ st ≤ 8 → ∃ F2, fX2_fits_L10 nf (p + (u.length : Int)) (st : Int) p (hF h F) = some (if dr st (u.map cls) p = none then 1 else 0, hF h F2) ∧ (dr st (u.map cls) p = none → F2 = kpL F u) ∧ (∀ q, dr st (u.map cls) p = some q → F2 0 = q)
  | [], nf, st, p, F, hF0, t, hu, p0, p1, hnf, hst => by
    obtain ⟨nf, rfl⟩ : ∃ m, nf = m + 1 := ⟨nf - 1, by omega⟩
    have p1' : p ≤ 2000 := by simp only [List.length_nil] at p1; omega
    have ed : dr st (([] : List Int).map cls) p = if okS st then none else some p := rfl
    rw [fX2_fits_L10]
    rw [show p + (([] : List Int).length : Int) = p by simp, if_pos (Int.le_refl _)]
    unfold fX2_fits_b68 fX2_fits_b101
    rw [hF_18, hF0, if_pos (show wr (-1) = -1 by decide), if_pos (show wr (-1) = -1 by decide), hF_up, hF_18, wr_of (z := (st : Int)) (by omega) (by omega), ed]
    by_cases ho : okS st
    · rw [if_pos ho, if_pos rfl]
      refine ⟨F, ?_, fun _ => rfl, fun q k => absurd k (by simp)⟩
      rcases ho with k | k | k
      · rw [if_pos (by omega)]
      · rw [if_neg (by omega), if_pos (by omega)]
      · rw [if_neg (by omega), if_neg (by omega), if_pos (by omega)]
    · have o4 : ¬ (st : Int) = 4 := fun k => ho (Or.inl (by omega))
      have o7 : ¬ (st : Int) = 7 := fun k => ho (Or.inr (Or.inl (by omega)))
      have o8 : ¬ (st : Int) = 8 := fun k => ho (Or.inr (Or.inr (by omega)))
      have eu : up F 0 p 0 = p := by unfold up; rw [if_pos rfl]
      rw [if_neg ho, if_neg (show ¬ some p = none by simp), if_neg o4, if_neg o7, if_neg o8, eu, wr_of (z := p) (by omega) (by omega), if_neg (by omega)]
      refine ⟨up F 0 p, rfl, fun k => absurd k (by simp), fun q k => by rw [eu]; exact Option.some.inj k⟩
  | b :: u, nf, st, p, F, hF0, t, hu, p0, p1, hnf, hst => by
    obtain ⟨nf, rfl⟩ : ∃ m, nf = m + 1 := ⟨nf - 1, by omega⟩
    rw [List.length_cons] at p1 hnf
    have hb := hu b List.mem_cons_self
    have eb : h 20 p = b := by
      have e := tpL_at t (i := 0) (v := b) rfl
      rw [Int.natCast_zero, Int.add_zero] at e
      exact e
    have t2 : tpL (h 20) (p + 1) u := fun i hi => by
      have e := t (i + 1) (by rw [List.length_cons]; omega)
      rw [List.getElem?_cons_succ] at e
      rw [e, show p + ((i + 1 : Nat) : Int) = p + 1 + (i : Int) by omega]
    have eg : fX3_get p (hF h F) = some b := by
      rw [ucX3_get (by rw [hF_ne (by decide)]; exact hn) (by rw [hF_ne (by decide)]; omega), hF_ne (by decide), eb]
    have ed : dr st ((b :: u).map cls) p = if dl st (cls b) = 0 then some p else dr (dl st (cls b)) (u.map cls) (p + 1) := rfl
    have edl := dl_le (st := st) (c := cls b)
    rw [fX2_fits_L10]
    unfold fX2_fits_b62
    rw [List.length_cons, wr_of (z := p + ((u.length + 1 : Nat) : Int)) (by omega) (by omega), wr_of (z := p) (by omega) (by omega), if_neg (by omega), hF_18, hF0, if_pos (show wr (-1) = -1 by decide), eg, Option.bind_some, cX2_state hb hst, Option.bind_some, Option.bind_some, ucX2_keep hb, Option.bind_some, hF_up, ed]
    unfold dlI
    by_cases hd : dl st (cls b) = 0
    · have eu : up F 0 p 0 = p := by unfold up; rw [if_pos rfl]
      obtain ⟨m, rfl⟩ : ∃ m, nf = m + 1 := ⟨nf - 1, by omega⟩
      rw [if_pos hd, if_pos (show wr (-1) = -1 by decide), if_pos hd, if_neg (show ¬ some p = none by simp)]
      exact ⟨up F 0 p, fits_dead (by rw [eu]; omega), fun k => absurd k (by simp), fun q k => by rw [eu]; exact Option.some.inj k⟩
    · rw [if_neg hd, wr_of (z := ((dl st (cls b) : Nat) : Int)) (by omega) (by omega), if_neg (by omega), if_neg hd, show p + ((u.length + 1 : Nat) : Int) = p + 1 + (u.length : Int) by omega]
      exact fitsL hn u nf (dl st (cls b)) (p + 1) (kp F b) (by rw [kp_0, hF0]) t2 (fun v hv => hu v (List.mem_cons_of_mem _ hv)) (by omega) (by omega) (by omega) ⟨by omega, edl⟩
def zF0 (h : HS) : Int → Int := up (up (up (up (up (up (up (up (h 18) 0 (-1)) 1 (-1)) 2 (-1)) 3 (-1)) 4 (-1)) 5 (-1)) 6 (-1)) 7 0
theorem ucX2_forget {h : HS} : fX2_forget h = some (hF h (zF0 h)) := by
  unfold fX2_forget zF0
  rw [if_pos (Or.inl rfl), hF_0 (h := h) (k := 0) (v := -1), hF_up, hF_up, hF_up, hF_up, hF_up, hF_up, hF_up]
theorem zF0_0 {h : HS} : zF0 h 0 = -1 := by simp [zF0, up]
theorem zF0_fld {h : HS} {c : Int} : fld0 (up (zF0 h) 1 c) := by
  unfold fld0
  simp [zF0, up]
theorem fits_nil {h : HS} {b0 : Int} (hb : 0 ≤ b0 ∧ b0 ≤ 2000) : ∃ F2, fX2_fits b0 b0 h = some (0, hF h F2) ∧ F2 0 = b0 := by
  have eu : up (zF0 h) 0 b0 0 = b0 := by unfold up; rw [if_pos rfl]
  unfold fX2_fits
  rw [ucX2_forget, Option.bind_some]
  show ∃ F2, fX2_fits_L10 (4999 + 1) b0 0 b0 (hF h (zF0 h)) = _ ∧ _
  rw [fX2_fits_L10]
  unfold fX2_fits_b68 fX2_fits_b101
  rw [if_pos (Int.le_refl _), hF_18, zF0_0, if_pos (show wr (-1) = -1 by decide), if_neg (show ¬ wr 0 = 4 by decide), if_neg (show ¬ wr 0 = 7 by decide), if_neg (show ¬ wr 0 = 8 by decide), hF_up, hF_18, eu, wr_of (z := b0) (by omega) (by omega), if_neg (by omega)]
  exact ⟨_, rfl, eu⟩
theorem fits_cons {h : HS} (hn : h 19 1 ≤ 2000) {b0 c : Int} {r : List Int} (hu : byL (c :: r)) (hb : 0 ≤ b0) (hl : b0 + 1 + r.length ≤ h 19 1) (t : tpL (h 20) b0 (c :: r)) : ∃ F2, fX2_fits b0 (b0 + 1 + (r.length : Int)) h = some (if (65 ≤ c ∧ c ≤ 90) ∧ dr 1 (r.map cls) (b0 + 1) = none then 1 else 0, hF h F2) ∧ ((65 ≤ c ∧ c ≤ 90) ∧ dr 1 (r.map cls) (b0 + 1) = none → F2 = kpL (up (zF0 h) 1 c) r) ∧ (65 ≤ c ∧ c ≤ 90 → ∀ q, dr 1 (r.map cls) (b0 + 1) = some q → F2 0 = q) ∧ (¬ (65 ≤ c ∧ c ≤ 90) → F2 0 = b0) := by
  have hc := hu c List.mem_cons_self
  have hr : byL r := fun v hv => hu v (List.mem_cons_of_mem _ hv)
  have ec : h 20 b0 = c := by
    have e := tpL_at t (i := 0) (v := c) rfl
    rw [Int.natCast_zero, Int.add_zero] at e
    exact e
  have t2 : tpL (h 20) (b0 + 1) r := fun i hi => by
    have e := t (i + 1) (by rw [List.length_cons]; omega)
    rw [List.getElem?_cons_succ] at e
    rw [e, show b0 + ((i + 1 : Nat) : Int) = b0 + 1 + (i : Int) by omega]
  have eg : fX3_get b0 (hF h (zF0 h)) = some c := by
    rw [ucX3_get (by rw [hF_ne (by decide)]; exact hn) (by rw [hF_ne (by decide)]; omega), hF_ne (by decide), ec]
  unfold fX2_fits
  rw [ucX2_forget, Option.bind_some]
  show ∃ F2, fX2_fits_L10 (4999 + 1) (b0 + 1 + (r.length : Int)) 0 b0 (hF h (zF0 h)) = _ ∧ _
  rw [fX2_fits_L10]
  unfold fX2_fits_b62
  have es : fX2_stateBehind 0 c (hF h (zF0 h)) = some (if 65 ≤ c ∧ c ≤ 90 then 1 else -1) := by
    unfold fX2_stateBehind
    rw [if_pos wr_0, wr_of (z := c) (by omega) (by omega)]
    by_cases q : 65 ≤ c ∧ c ≤ 90
    · rw [if_neg (by omega), if_neg (by omega), if_pos q]
    · rw [if_neg q]
      by_cases q1 : c < 65
      · rw [if_pos q1]
      · rw [if_neg q1, if_pos (by omega)]
  rw [wr_of (z := b0 + 1 + (r.length : Int)) (by omega) (by omega), wr_of (z := b0) (by omega) (by omega), if_neg (by omega), hF_18, zF0_0, if_pos (show wr (-1) = -1 by decide), eg, Option.bind_some, es, Option.bind_some, Option.bind_some, ucX2_keep hc, Option.bind_some, hF_up]
  by_cases q : 65 ≤ c ∧ c ≤ 90
  · have cc : cls c = 4 := by
      unfold cls
      rw [if_neg (by omega), if_neg (by omega), if_neg (by omega), if_neg (by omega)]
    have ek : kp (zF0 h) c = up (zF0 h) 1 c := by
      unfold kp
      rw [cc]
      simp
    rw [if_pos q, if_neg (show ¬ wr 1 = -1 by decide), ek]
    obtain ⟨F2, a1, a2, a3⟩ := fitsL hn r 4999 1 (b0 + 1) (up (zF0 h) 1 c) (by simp [zF0, up]) t2 hr (by omega) (by omega) (by omega) (by omega)
    have a1b : fX2_fits_L10 4999 (b0 + 1 + (r.length : Int)) 1 (b0 + 1) (hF h (up (zF0 h) 1 c)) = _ := a1
    refine ⟨F2, a1b.trans ?_, fun k => a2 k.2, fun _ => a3, fun k => absurd q k⟩
    by_cases qd : dr 1 (r.map cls) (b0 + 1) = none
    · rw [if_pos qd, if_pos ⟨q, qd⟩]
    · rw [if_neg qd, if_neg (fun k => qd k.2)]
  · have eu : up (zF0 h) 0 b0 0 = b0 := by unfold up; rw [if_pos rfl]
    rw [if_neg q, if_pos (show wr (-1) = -1 by decide), if_neg (fun k => q k.1)]
    refine ⟨up (zF0 h) 0 b0, ?_, fun k => absurd k.1 q, fun k => absurd k q, fun _ => eu⟩
    exact fits_dead (nf := 4998) (by rw [eu]; omega)
end ZFITS
end
section
section ZJUDGE
/-! a word read as a move: the error, and the two squares -/
def kiF (L : Int → Int) (x : Int) : Nat → Nat → Int
  | 0, _ => -1
  | m + 1, k => if L (k : Int) = x then (k : Int) else kiF L x m (k + 1)
theorem kiF_rg {L : Int → Int} {x : Int} : ∀ {m k : Nat}, kiF L x m k = -1 ∨ ((k : Int) ≤ kiF L x m k ∧ kiF L x m k < ((k + m : Nat) : Int))
  | 0, k => Or.inl rfl
  | m + 1, k => by
    unfold kiF
    by_cases e : L (k : Int) = x
    · rw [if_pos e]; omega
    · rw [if_neg e]
      have := @kiF_rg L x m (k + 1)
      omega
theorem kiC {x : Int} {h : HS} (w : PcK h) (hx : 0 ≤ x ∧ x ≤ 255) : ∀ (nf j : Nat), (j : Int) ≤ h 1 5 → (h 1 5).toNat - j < nf → fX1_withLetter_L2 nf x (j : Int) h = some (kiF (h 2) x ((h 1 5).toNat - j) j)
  | 0, j, h1, h2 => by omega
  | nf + 1, j, h1, h2 => by
    have n := w.1
    rw [fX1_withLetter_L2]
    rw [wr_of (z := h 1 5) (by omega) (by omega), wr_of (z := (j : Int)) (by omega) (by omega)]
    by_cases hj : h 1 5 ≤ (j : Int)
    · rw [if_pos hj, show (h 1 5).toNat - j = 0 by omega]
      rfl
    · have l := w.2 (j : Int) (by omega) (by omega)
      rw [if_neg hj, if_pos (by omega), wr_of (z := h 2 (j : Int)) (by omega) (by omega), wr_of (z := x) (by omega) (by omega), show (h 1 5).toNat - j = ((h 1 5).toNat - (j + 1)) + 1 by omega]
      show _ = some (if h 2 (j : Int) = x then (j : Int) else kiF (h 2) x ((h 1 5).toNat - (j + 1)) (j + 1))
      by_cases q : h 2 (j : Int) = x
      · rw [if_pos q, if_pos q]
      · rw [if_neg q, if_neg q, show (j : Int) + 1 = ((j + 1 : Nat) : Int) by omega]
        exact kiC w hx nf (j + 1) (by omega) (by omega)
theorem kiR {x : Int} {h g : HS} (w : PsK h) (e1 : g 30 1 = h 1 5) (e31 : g 31 = h 31) (hx : 0 ≤ x ∧ x ≤ 255) : ∀ (nf j : Nat), (j : Int) ≤ h 1 5 → (h 1 5).toNat - j < nf → fX6_kindOf_L2 nf x (j : Int) g = some (kiF (h 2) x ((h 1 5).toNat - j) j)
  | 0, j, h1, h2 => by omega
  | nf + 1, j, h1, h2 => by
    have n := w.n
    rw [fX6_kindOf_L2]
    rw [e1, e31, wr_of (z := h 1 5) (by omega) (by omega), wr_of (z := (j : Int)) (by omega) (by omega)]
    by_cases hj : h 1 5 ≤ (j : Int)
    · rw [if_pos hj, show (h 1 5).toNat - j = 0 by omega]
      rfl
    · have l := w.le (j : Int) (by omega) (by omega)
      rw [if_neg hj, if_pos (by omega), l.1, wr_of (z := h 2 (j : Int)) (by omega) (by omega), wr_of (z := x) (by omega) (by omega), show (h 1 5).toNat - j = ((h 1 5).toNat - (j + 1)) + 1 by omega]
      show _ = some (if h 2 (j : Int) = x then (j : Int) else kiF (h 2) x ((h 1 5).toNat - (j + 1)) (j + 1))
      by_cases q : h 2 (j : Int) = x
      · rw [if_pos q, if_pos q]
      · rw [if_neg q, if_neg q, show (j : Int) + 1 = ((j + 1 : Nat) : Int) by omega]
        exact kiR w e1 e31 hx nf (j + 1) (by omega) (by omega)
def jdF (cnd lg : Nat → Bool) : Nat → Nat → Int × Int × Int → Int × Int × Int
  | 0, _, x => x
  | n + 1, j, x => jdF cnd lg n (j + 1) (if cnd j = true then (if lg j = true then (x.1 + 1, x.2.1 + 1, (j : Int)) else (x.1 + 1, x.2.1, x.2.2)) else x)
theorem jdF_st {cnd lg : Nat → Bool} {j : Nat} {x : Int × Int × Int} (h : j < 64) : jdF cnd lg (64 - j) j x = jdF cnd lg (64 - (j + 1)) (j + 1) (if cnd j = true then (if lg j = true then (x.1 + 1, x.2.1 + 1, (j : Int)) else (x.1 + 1, x.2.1, x.2.2)) else x) := by
  rw [show 64 - j = (64 - (j + 1)) + 1 by omega]
  rfl
theorem jdF_fr {cnd lg : Nat → Bool} : ∀ (n j : Nat) (a c f1 f2 : Int), (jdF cnd lg n j (a, c, f1)).1 = (jdF cnd lg n j (a, c, f2)).1 ∧ (jdF cnd lg n j (a, c, f1)).2.1 = (jdF cnd lg n j (a, c, f2)).2.1 ∧ c ≤ (jdF cnd lg n j (a, c, f1)).2.1 ∧ ((jdF cnd lg n j (a, c, f1)).2.2 = (jdF cnd lg n j (a, c, f2)).2.2 ∨ (jdF cnd lg n j (a, c, f1)).2.1 = c)
  | 0, j, a, c, f1, f2 => ⟨rfl, rfl, Int.le_refl _, Or.inr rfl⟩
  | n + 1, j, a, c, f1, f2 => by
    unfold jdF
    by_cases q1 : cnd j = true
    · by_cases q2 : lg j = true
      · simp only [if_pos q1, if_pos q2]
        obtain ⟨h1, h2, h3, h4⟩ := jdF_fr (cnd := cnd) (lg := lg) n (j + 1) (a + 1) (c + 1) (j : Int) (j : Int)
        exact ⟨trivial, trivial, by omega, Or.inl trivial⟩
      · simp only [if_pos q1, if_neg q2]
        exact jdF_fr n (j + 1) (a + 1) c f1 f2
    · simp only [if_neg q1]
      exact jdF_fr n (j + 1) a c f1 f2
def alw (F : Int → Int) (s : Nat) : Bool := decide ((F 2 = -1 ∨ F 2 = (s : Int) % 8) ∧ (F 3 = -1 ∨ F 3 = (s : Int) / 8))
def jCn (K : KT) (b : Int → Int) (pc : Int) (F : Int → Int) (s : Nat) : Bool := decide (b s = pc) && (alw F s && hit K b s (F 5 * 8 + F 4))
def jLg (K : KT) (b : Int → Int) (F : Int → Int) (s : Nat) : Bool := lgl K b s (F 5 * 8 + F 4)
def jdE (K : KT) (b : Int → Int) (F : Int → Int) (x : Int × Int × Int) : Int := if x.2.1 = 1 then (if F 7 = (if b (F 5 * 8 + F 4) = -1 then 0 else 1) then (if F 6 = sgn K b x.2.2 (F 5 * 8 + F 4) then 0 else 7) else 6) else if x.1 = 0 then 3 else if x.2.1 = 0 then 4 else 5
theorem jdE_rg {K : KT} {b : Int → Int} {F : Int → Int} {x : Int × Int × Int} : jdE K b F x = 0 ∨ (3 ≤ jdE K b F x ∧ jdE K b F x ≤ 7) := by
  unfold jdE
  repeat' split
  all_goals omega
def jdX (K : KT) (b : Int → Int) (pc : Int) (F : Int → Int) : Int × Int × Int := jdF (jCn K b pc F) (jLg K b F) 64 0 (0, 0, -1)
abbrev fRg (F : Int → Int) : Prop := (0 ≤ F 4 ∧ F 4 ≤ 7) ∧ (0 ≤ F 5 ∧ F 5 ≤ 7) ∧ (-1 ≤ F 2 ∧ F 2 ≤ 7) ∧ (-1 ≤ F 3 ∧ F 3 ≤ 7) ∧ (F 6 = -1 ∨ F 6 = 43 ∨ F 6 = 35) ∧ (F 7 = 0 ∨ F 7 = 1)
theorem jL71 {K : KT} {n : Int} {b : Int → Int} {H : HS} (g : gd K n b) (c : cSt K n b H) {pc : Int} (hpc : 0 ≤ pc ∧ pc < 100) (fr0 : fRg (H 18)) : ∀ (nf j : Nat) (a cc fr : Int), (0 ≤ a ∧ a ≤ j) → (0 ≤ cc ∧ cc ≤ j) → (cc = 0 ∨ ((0 ≤ fr ∧ fr < 64) ∧ b fr = pc)) → j ≤ 64 → 64 - j < nf → fX5_judge_L71 nf pc (H 18 5 * 8 + H 18 4) a cc fr (j : Int) H = some (jdE K b (H 18) (jdF (jCn K b pc (H 18)) (jLg K b (H 18)) (64 - j) j (a, cc, fr)), if jdE K b (H 18) (jdF (jCn K b pc (H 18)) (jLg K b (H 18)) (64 - j) j (a, cc, fr)) = 0 then hs (hs H 0 11 (jdF (jCn K b pc (H 18)) (jLg K b (H 18)) (64 - j) j (a, cc, fr)).2.2) 0 12 (H 18 5 * 8 + H 18 4) else H)
  | 0, j, a, cc, fr, ha, hc, hfr, h1, h2 => by omega
  | nf + 1, j, a, cc, fr, ha, hc, hfr, h1, h2 => by
    have n0 := g.1
    obtain ⟨r4, r5, r2, r3, r6, r7⟩ := fr0
    obtain ⟨to, eto⟩ : ∃ to, to = H 18 5 * 8 + H 18 4 := ⟨_, rfl⟩
    have hto : 0 ≤ to ∧ to < 64 := by omega
    obtain ⟨t1, t2⟩ := g.2.1 to hto.1 hto.2
    rw [fX5_judge_L71]
    unfold fX5_judge_b142
    rw [← eto, wr_of (z := (j : Int)) (by omega) (by omega), wr_of (z := cc) (by omega) (by omega), wr_of (z := a) (by omega) (by omega)]
    by_cases hj : (64 : Int) ≤ (j : Int)
    · rw [if_pos hj, show 64 - j = 0 by omega]
      show _ = some (jdE K b (H 18) (a, cc, fr), if jdE K b (H 18) (a, cc, fr) = 0 then hs (hs H 0 11 fr) 0 12 to else H)
      unfold jdE
      rw [← eto]
      dsimp only
      by_cases q1 : cc = 1
      · have hfr2 : (0 ≤ fr ∧ fr < 64) ∧ b fr = pc := by
          rcases hfr with k | k
          · omega
          · exact k
        have hsv := sgn_v (K := K) (b := b) (f := fr) (t := to)
        unfold fX2_captures fX0_isTaken fX2_sign
        rw [if_pos q1, if_pos r7, Option.bind_some, cX0_piece hto, c.2.1 to hto.1 hto.2, Option.bind_some, wr_of (z := b to) (by omega) (by omega), if_pos q1]
        have e9 : (if b to = -1 then some (0 : Int) else some 1) = some (if b to = -1 then 0 else 1) := by split <;> rfl
        have e10 : wr (if b to = -1 then 0 else 1) = if b to = -1 then 0 else 1 := by split <;> decide
        rw [e9, Option.bind_some, e10, wr_of (z := H 18 7) (by omega) (by omega), Option.bind_some, cX0_sign g c hfr2.1 hto (by omega), Option.bind_some]
        by_cases q2 : H 18 7 = if b to = -1 then 0 else 1
        · rw [if_pos q2, if_pos q2]
          dsimp only
          rw [wr_of (z := H 18 6) (by omega) (by omega), wr_of (z := sgn K b fr to) (by omega) (by omega)]
          by_cases q3 : H 18 6 = sgn K b fr to
          · rw [if_pos q3, if_pos q3, if_pos rfl]
          · rw [if_neg q3, if_neg q3, if_neg (show ¬ (7 : Int) = 0 by decide)]
        · rw [if_neg q2, if_neg q2, if_neg (show ¬ (6 : Int) = 0 by decide)]
      · rw [if_neg q1, if_neg q1]
        by_cases q2 : a = 0
        · rw [if_pos q2, if_pos q2, if_neg (show ¬ (3 : Int) = 0 by decide)]
        · rw [if_neg q2, if_neg q2]
          by_cases q3 : cc = 0
          · rw [if_pos q3, if_pos q3, if_neg (show ¬ (4 : Int) = 0 by decide)]
          · rw [if_neg q3, if_neg q3, if_neg (show ¬ (5 : Int) = 0 by decide)]
    · obtain ⟨v1, v2⟩ := g.2.1 (j : Int) (by omega) (by omega)
      have ih := fun a2 c2 f2 (k1 : 0 ≤ a2 ∧ a2 ≤ ((j + 1 : Nat) : Int)) (k2 : 0 ≤ c2 ∧ c2 ≤ ((j + 1 : Nat) : Int)) k3 => jL71 g c hpc ⟨r4, r5, r2, r3, r6, r7⟩ nf (j + 1) a2 c2 f2 k1 k2 k3 (by omega) (by omega)
      rw [← eto] at ih
      have ej : (j : Int) + 1 = ((j + 1 : Nat) : Int) := by omega
      rw [if_neg hj, cX0_piece (by omega), Option.bind_some, c.2.1 (j : Int) (by omega) (by omega), wr_of (z := b j) (by omega) (by omega), wr_of (z := pc) (by omega) (by omega), ej, jdF_st (by omega)]
      have skip : jCn K b pc (H 18) j = false → fX5_judge_L71 nf pc to a cc fr ((j + 1 : Nat) : Int) H = some (jdE K b (H 18) (jdF (jCn K b pc (H 18)) (jLg K b (H 18)) (64 - (j + 1)) (j + 1) (if jCn K b pc (H 18) j = true then (if jLg K b (H 18) j = true then (a + 1, cc + 1, (j : Int)) else (a + 1, cc, fr)) else (a, cc, fr))), if jdE K b (H 18) (jdF (jCn K b pc (H 18)) (jLg K b (H 18)) (64 - (j + 1)) (j + 1) (if jCn K b pc (H 18) j = true then (if jLg K b (H 18) j = true then (a + 1, cc + 1, (j : Int)) else (a + 1, cc, fr)) else (a, cc, fr))) = 0 then hs (hs H 0 11 (jdF (jCn K b pc (H 18)) (jLg K b (H 18)) (64 - (j + 1)) (j + 1) (if jCn K b pc (H 18) j = true then (if jLg K b (H 18) j = true then (a + 1, cc + 1, (j : Int)) else (a + 1, cc, fr)) else (a, cc, fr))).2.2) 0 12 to else H) := fun e => by
        rw [e, if_neg (show ¬ false = true by decide)]
        exact ih a cc fr (by omega) (by omega) hfr
      by_cases q1 : b j = pc
      · have ea : fX2_allowsFrom (j : Int) H = some (if alw (H 18) j = true then 1 else 0) := by
          unfold fX2_allowsFrom fX2_allowsFrom_b19 alw
          rw [wr_of (z := H 18 2) (by omega) (by omega), wr_of (z := H 18 3) (by omega) (by omega), if_pos (show 0 ≤ (j : Int) ∧ (j : Int) < 2147483648 by omega), if_pos (show 0 ≤ (j : Int) ∧ (j : Int) < 2147483648 by omega), wr_of (z := (j : Int) % 8) (by omega) (by omega), wr_of (z := (j : Int) / 8) (by omega) (by omega)]
          by_cases p1 : H 18 2 = -1
          · by_cases p2 : H 18 3 = -1
            · rw [if_pos p1, if_pos p2, decide_eq_true ⟨Or.inl p1, Or.inl p2⟩, if_pos rfl]
            · rw [if_pos p1, if_neg p2]
              by_cases p3 : H 18 3 = (j : Int) / 8
              · rw [if_pos p3, decide_eq_true ⟨Or.inl p1, Or.inr p3⟩, if_pos rfl]
              · rw [if_neg p3, decide_eq_false (fun k => k.2.elim p2 p3), if_neg (by decide)]
          · rw [if_neg p1]
            by_cases p4 : H 18 2 = (j : Int) % 8
            · rw [if_pos p4]
              by_cases p2 : H 18 3 = -1
              · rw [if_pos p2, decide_eq_true ⟨Or.inr p4, Or.inl p2⟩, if_pos rfl]
              · rw [if_neg p2]
                by_cases p3 : H 18 3 = (j : Int) / 8
                · rw [if_pos p3, decide_eq_true ⟨Or.inr p4, Or.inr p3⟩, if_pos rfl]
                · rw [if_neg p3, decide_eq_false (fun k => k.2.elim p2 p3), if_neg (by decide)]
            · rw [if_neg p4, decide_eq_false (fun k => k.1.elim p1 p4), if_neg (by decide)]
        rw [if_pos q1, ea, Option.bind_some]
        by_cases q2 : alw (H 18) j = true
        · rw [if_pos q2, if_neg (show ¬ wr 1 = 0 by decide), ucX0_reaches g c (by omega) (by omega) hto, Option.bind_some]
          by_cases q3 : hit K b j to = true
          · have eC : jCn K b pc (H 18) j = true := by unfold jCn; rw [decide_eq_true q1, q2, ← eto, q3]; rfl
            have eL : jLg K b (H 18) j = lgl K b j to := by unfold jLg; rw [← eto]
            rw [if_pos q3, if_neg (show ¬ wr 1 = 0 by decide), cX0_safe g c (by omega) hto (by omega), Option.bind_some, eC, if_pos rfl, eL]
            by_cases q4 : lgl K b j to = true
            · simp only [if_pos q4, if_neg (show ¬ wr 1 = 0 by decide)]
              exact ih (a + 1) (cc + 1) (j : Int) (by omega) (by omega) (Or.inr ⟨by omega, q1⟩)
            · simp only [if_neg q4, if_pos wr_0]
              exact ih (a + 1) cc fr (by omega) (by omega) hfr
          · rw [if_neg q3, if_pos wr_0]
            exact skip (by unfold jCn; rw [← eto, Bool.eq_false_iff.mpr q3, Bool.and_false, Bool.and_false])
        · rw [if_neg q2, if_pos wr_0]
          exact skip (by unfold jCn; rw [Bool.eq_false_iff.mpr q2, Bool.false_and, Bool.and_false])
      · rw [if_neg q1]
        exact skip (by unfold jCn; rw [decide_eq_false q1, Bool.false_and])
end ZJUDGE
end
section
section ZBOTH
abbrev frJ (g1 g : HS) : Prop := (∀ a : Nat, a ≠ 36 → a ≠ 30 → g1 a = g a) ∧ (∀ b : Int, b ≠ 19 → g1 30 b = g 30 b)
theorem frJ_rf {g : HS} : frJ g g := ⟨fun _ _ _ => rfl, fun _ _ => rfl⟩
theorem frJ_tr {g2 g1 g : HS} (a : frJ g2 g1) (b : frJ g1 g) : frJ g2 g := ⟨fun i h1 h2 => by rw [a.1 i h1 h2, b.1 i h1 h2], fun i h1 => by rw [a.2 i h1, b.2 i h1]⟩
theorem fr36.J {g1 g : HS} (f : fr36 g1 g) : frJ g1 g := ⟨fun a h1 _ => f a h1, fun b _ => by rw [f 30 (by decide)]⟩
theorem frJ.qm {g1 g : HS} (f : frJ g1 g) : zqm g1 g := fun a b ha hn => by
  by_cases a30 : a = 30
  · subst a30
    exact f.2 b (fun k => hn (Or.inr (Or.inr ⟨rfl, by omega⟩)))
  · rw [f.1 a (fun k => hn (Or.inl (by omega))) a30]
theorem tab_rg : ∀ k : Fin 16, (0 ≤ tFf.getD k.val 0 ∧ tFf.getD k.val 0 < 6) ∧ (0 ≤ tLf.getD k.val 0 ∧ tLf.getD k.val 0 < 6) ∧ (0 ≤ tFr.getD k.val 0 ∧ tFr.getD k.val 0 < 6) ∧ (0 ≤ tLr.getD k.val 0 ∧ tLr.getD k.val 0 < 6) ∧ (-1 ≤ tLx.getD k.val 0 ∧ tLx.getD k.val 0 < 6 ∧ tLx.getD k.val 0 < ((frm k.val).length : Int)) ∧ (-1 ≤ tLs.getD k.val 0 ∧ tLs.getD k.val 0 < 6) := by decide +kernel
theorem lateX {k : Nat} (hk : k < 16) {F : Int → Int} {r : List Int} (fo : fldOk F r k) (hr : byL r) (hl2 : r.length = (frm k).length) {b0 : Int} (hb : 0 ≤ b0) (hl : b0 + 1 + r.length ≤ 2000) {g : HS} (t : tpL (g 39) (b0 + 1) r) (e18 : g 30 18 = k) : ∃ v, fX6_late b0 120 g = some v ∧ (-1 ≤ v ∧ v ≤ 255) ∧ (if v = -1 then F 7 = 0 else F 7 = 1) := by
  obtain ⟨t1, t2, t3, t4, t5, t6⟩ := tab_rg ⟨k, hk⟩
  obtain ⟨z1, z2, z3, z4, z5, z6⟩ := ix_z ⟨k, hk⟩
  obtain ⟨-, -, -, f7, -⟩ := fo
  dsimp only at t5 z5
  by_cases q : tLx.getD k 0 = -1
  · rw [if_pos q] at f7
    exact ⟨-1, umX6_late hk hb hl t e18 z5 ⟨t5.1, t5.2.1⟩ (Or.inl ⟨q, rfl⟩), by omega, by rw [if_pos rfl]; exact f7⟩
  · rw [if_neg q] at f7
    have hi : (tLx.getD k 0).toNat < r.length := by omega
    have e := List.getElem?_eq_getElem hi
    have rv := hr _ (List.getElem_mem hi)
    exact ⟨_, umX6_late hk hb hl t e18 z5 ⟨t5.1, t5.2.1⟩ (Or.inr ⟨by omega, e⟩), by omega, by rw [if_neg (by omega)]; exact f7⟩
theorem lateS {k : Nat} (hk : k < 16) {F : Int → Int} {r : List Int} (fo : fldOk F r k) {b0 : Int} (hb : 0 ≤ b0) (hl : b0 + 1 + r.length ≤ 2000) {g : HS} (t : tpL (g 39) (b0 + 1) r) (e18 : g 30 18 = k) : fX6_late b0 115 g = some (F 6) := by
  obtain ⟨t1, t2, t3, t4, t5, t6⟩ := tab_rg ⟨k, hk⟩
  obtain ⟨z1, z2, z3, z4, z5, z6⟩ := ix_z ⟨k, hk⟩
  obtain ⟨-, -, -, -, f6, -⟩ := fo
  dsimp only at t6 z6
  by_cases q : tLs.getD k 0 = -1
  · rw [if_pos q] at f6
    exact umX6_late hk hb hl t e18 z6 t6 (Or.inl ⟨q, f6⟩)
  · rw [if_neg q] at f6
    exact umX6_late hk hb hl t e18 z6 t6 (Or.inr ⟨by omega, f6⟩)
theorem jL89 {V : HS} (w : Psi V) {k : Nat} (hk : k < 16) {F : Int → Int} {r : List Int} (fo : fldOk F r k) (fr0 : fRg F) (hr : byL r) (hl2 : r.length = (frm k).length) {b0 : Int} (hb : 0 ≤ b0) (hl : b0 + 1 + r.length ≤ 2000) (t : tpL (V 39) (b0 + 1) r) {kd : Int} (hkd : 0 ≤ kd ∧ kd < 6) : ∀ (nf j : Nat) (a cc : Int) (g : HS), zqm g V → g 30 18 = k → g 30 20 = F 5 * 8 + F 4 → (0 ≤ a ∧ a ≤ j) → (0 ≤ cc ∧ cc ≤ j) → (cc = 0 ∨ ((0 ≤ g 30 19 ∧ g 30 19 < 64) ∧ V 8 (g 30 19) = 2 * kd + trn V)) → j ≤ 64 → 64 - j < nf → ∃ g1, fX6_readMove_L89 nf b0 kd (if F 2 = -1 then -1 else F 2 + 97) (if F 3 = -1 then -1 else F 3 + 49) a cc (j : Int) g = some (jdE (kOf V) (V 8) F (jdF (jCn (kOf V) (V 8) (2 * kd + trn V) F) (jLg (kOf V) (V 8) F) (64 - j) j (a, cc, g 30 19)), g1) ∧ frJ g1 g ∧ (jdE (kOf V) (V 8) F (jdF (jCn (kOf V) (V 8) (2 * kd + trn V) F) (jLg (kOf V) (V 8) F) (64 - j) j (a, cc, g 30 19)) = 0 → g1 30 19 = (jdF (jCn (kOf V) (V 8) (2 * kd + trn V) F) (jLg (kOf V) (V 8) F) (64 - j) j (a, cc, g 30 19)).2.2)
  | 0, j, a, cc, g, e, e18, e20, ha, hc, hfr, h1, h2 => by omega
  | nf + 1, j, a, cc, g, e, e18, e20, ha, hc, hfr, h1, h2 => by
    have n0 := w.gg.1
    have t0 := trn_01 (h := V)
    obtain ⟨r4, r5, r2, r3, r6, r7⟩ := fr0
    obtain ⟨to, eto⟩ : ∃ to, to = F 5 * 8 + F 4 := ⟨_, rfl⟩
    have hto : 0 ≤ to ∧ to < 64 := by omega
    obtain ⟨t1, t2⟩ := w.gg.2.1 to hto.1 hto.2
    have m := w.ms e
    have tg : tpL (g 39) (b0 + 1) r := by rw [e.c (a := 39) (by decide)]; exact t
    rw [fX6_readMove_L89]
    unfold fX6_readMove_b133 fX6_readMove_b152 fX6_readMove_b173 fX6_readMove_b174 fX6_readMove_b212
    rw [wr_of (z := (j : Int)) (by omega) (by omega), wr_of (z := cc) (by omega) (by omega), wr_of (z := a) (by omega) (by omega)]
    by_cases hj : (64 : Int) ≤ (j : Int)
    · rw [if_pos hj, show 64 - j = 0 by omega]
      show ∃ g1, _ = some (jdE (kOf V) (V 8) F (a, cc, g 30 19), g1) ∧ frJ g1 g ∧ (jdE (kOf V) (V 8) F (a, cc, g 30 19) = 0 → g1 30 19 = g 30 19)
      unfold jdE
      rw [← eto]
      dsimp only
      by_cases q1 : cc = 1
      · have hfr2 : (0 ≤ g 30 19 ∧ g 30 19 < 64) ∧ V 8 (g 30 19) = 2 * kd + trn V := by
          rcases hfr with k | k
          · omega
          · exact k
        obtain ⟨vx, ex, rx, fx⟩ := lateX hk fo hr hl2 hb hl tg e18
        have es := lateS hk fo hb hl tg e18
        obtain ⟨g2, eg2, f2⟩ := umX6_sign w.gg m (f := g 30 19) (t := to) hfr2.1 hto (by omega)
        have hsv := sgn_v (K := kOf V) (b := V 8) (f := g 30 19) (t := to)
        have key : ∀ s0 : Int, (s0 = F 7) → fX6_readMove_b260 b0 s0 g = some (if F 7 = (if V 8 to = -1 then 0 else 1) then (if F 6 = sgn (kOf V) (V 8) (g 30 19) to then 0 else 7) else 6, if F 7 = (if V 8 to = -1 then 0 else 1) then g2 else g) := fun s0 hs0 => by
          have e278 : ∀ s1 : Int, (s1 = if V 8 to = -1 then 0 else 1) → fX6_readMove_b278 b0 s0 s1 g = some (if F 7 = (if V 8 to = -1 then 0 else 1) then (if F 6 = sgn (kOf V) (V 8) (g 30 19) to then 0 else 7) else 6, if F 7 = (if V 8 to = -1 then 0 else 1) then g2 else g) := fun s1 hs1 => by
            have rs1 : 0 ≤ s1 ∧ s1 ≤ 1 := by rw [hs1]; split <;> omega
            unfold fX6_readMove_b278
            rw [wr_of (z := s0) (by omega) (by omega), wr_of (z := s1) (by omega) (by omega), hs0, hs1]
            by_cases q2 : F 7 = if V 8 to = -1 then 0 else 1
            · rw [if_pos q2, if_pos q2, if_pos q2, es, Option.bind_some, e20, ← eto, eg2, Option.bind_some]
              dsimp only
              rw [wr_of (z := F 6) (by omega) (by omega), wr_of (z := sgn (kOf V) (V 8) (g 30 19) to) (by omega) (by omega)]
              by_cases q3 : F 6 = sgn (kOf V) (V 8) (g 30 19) to
              · rw [if_pos q3, if_pos q3]
              · rw [if_neg q3, if_neg q3]
            · rw [if_neg q2, if_neg q2, if_neg q2]
          unfold fX6_readMove_b260
          rw [e20, ← eto, if_pos hto, m.1 to hto.1 hto.2, wr_of (z := V 8 to) (by omega) (by omega)]
          by_cases q4 : V 8 to = -1
          · rw [if_pos q4]
            exact e278 0 (by rw [if_pos q4])
          · rw [if_neg q4]
            exact e278 1 (by rw [if_neg q4])
        rw [if_pos q1, ex, Option.bind_some, wr_of (z := vx) (by omega) (by omega), if_pos q1]
        have ekey : (if vx = -1 then fX6_readMove_b260 b0 0 g else fX6_readMove_b260 b0 1 g) = some (if F 7 = (if V 8 to = -1 then 0 else 1) then (if F 6 = sgn (kOf V) (V 8) (g 30 19) to then 0 else 7) else 6, if F 7 = (if V 8 to = -1 then 0 else 1) then g2 else g) := by
          by_cases q5 : vx = -1
          · rw [if_pos q5] at fx ⊢
            exact key 0 fx.symm
          · rw [if_neg q5] at fx ⊢
            exact key 1 fx.symm
        rw [ekey]
        have fin : frJ (if F 7 = (if V 8 to = -1 then 0 else 1) then g2 else g) g := by
          by_cases q7 : F 7 = if V 8 to = -1 then 0 else 1
          · rw [if_pos q7]; exact f2.J
          · rw [if_neg q7]; exact frJ_rf
        refine ⟨_, rfl, fin, fun _ => ?_⟩
        by_cases q7 : F 7 = if V 8 to = -1 then 0 else 1
        · rw [if_pos q7, f2 30 (by decide)]
        · rw [if_neg q7]
      · rw [if_neg q1, if_neg q1]
        by_cases q2 : a = 0
        · rw [if_pos q2, if_pos q2]
          exact ⟨g, rfl, frJ_rf, fun _ => rfl⟩
        · rw [if_neg q2, if_neg q2]
          by_cases q3 : cc = 0
          · rw [if_pos q3, if_pos q3]
            exact ⟨g, rfl, frJ_rf, fun _ => rfl⟩
          · rw [if_neg q3, if_neg q3]
            exact ⟨g, rfl, frJ_rf, fun _ => rfl⟩
    · obtain ⟨v1, v2⟩ := w.gg.2.1 (j : Int) (by omega) (by omega)
      have ej : (j : Int) + 1 = ((j + 1 : Nat) : Int) := by omega
      have x4 : wr (if F 2 = -1 then -1 else F 2 + 97) = if F 2 = -1 then -1 else F 2 + 97 := by split; decide; exact wr_of (by omega) (by omega)
      have x5 : wr (if F 3 = -1 then -1 else F 3 + 49) = if F 3 = -1 then -1 else F 3 + 49 := by split; decide; exact wr_of (by omega) (by omega)
      have c4 : ((if F 2 = -1 then -1 else F 2 + 97) = (-1 : Int)) = (F 2 = -1) := by
        apply propext
        constructor
        · intro k; split at k
          · assumption
          · omega
        · intro k; rw [if_pos k]
      have c5 : ((if F 3 = -1 then -1 else F 3 + 49) = (-1 : Int)) = (F 3 = -1) := by
        apply propext
        constructor
        · intro k; split at k
          · assumption
          · omega
        · intro k; rw [if_pos k]
      rw [if_neg hj, if_pos (by omega), pX6_turn w e, Option.bind_some, m.1 (j : Int) (by omega) (by omega), wr_of (z := V 8 j) (by omega) (by omega), wr_of (z := 2 * kd + trn V) (by omega) (by omega), ej, jdF_st (by omega), x4, x5]
      simp only [if_neg (show ¬ wr 1 = 0 by decide), if_pos wr_0, if_pos (show 0 ≤ (j : Int) ∧ (j : Int) < 2147483648 by omega), c4, c5]
      have ih := fun a2 c2 g2 (f2 : frJ g2 g) (k1 : 0 ≤ a2 ∧ a2 ≤ ((j + 1 : Nat) : Int)) (k2 : 0 ≤ c2 ∧ c2 ≤ ((j + 1 : Nat) : Int)) k3 => jL89 w hk fo ⟨r4, r5, r2, r3, r6, r7⟩ hr hl2 hb hl t hkd nf (j + 1) a2 c2 g2 (f2.qm.tr e) (by rw [f2.2 18 (by decide)]; exact e18) (by rw [f2.2 20 (by decide)]; exact e20) k1 k2 k3 (by omega) (by omega)
      obtain ⟨pc, epc⟩ : ∃ pc, pc = 2 * kd + trn V := ⟨_, rfl⟩
      rw [← epc] at ih hfr ⊢
      have skip : jCn (kOf V) (V 8) pc F j = false → ∃ g1, fX6_readMove_L89 nf b0 kd (if F 2 = -1 then -1 else F 2 + 97) (if F 3 = -1 then -1 else F 3 + 49) a cc ((j + 1 : Nat) : Int) g = some (jdE (kOf V) (V 8) F (jdF (jCn (kOf V) (V 8) pc F) (jLg (kOf V) (V 8) F) (64 - (j + 1)) (j + 1) (if jCn (kOf V) (V 8) pc F j = true then (if jLg (kOf V) (V 8) F j = true then (a + 1, cc + 1, (j : Int)) else (a + 1, cc, g 30 19)) else (a, cc, g 30 19))), g1) ∧ frJ g1 g ∧ (jdE (kOf V) (V 8) F (jdF (jCn (kOf V) (V 8) pc F) (jLg (kOf V) (V 8) F) (64 - (j + 1)) (j + 1) (if jCn (kOf V) (V 8) pc F j = true then (if jLg (kOf V) (V 8) F j = true then (a + 1, cc + 1, (j : Int)) else (a + 1, cc, g 30 19)) else (a, cc, g 30 19))) = 0 → g1 30 19 = (jdF (jCn (kOf V) (V 8) pc F) (jLg (kOf V) (V 8) F) (64 - (j + 1)) (j + 1) (if jCn (kOf V) (V 8) pc F j = true then (if jLg (kOf V) (V 8) F j = true then (a + 1, cc + 1, (j : Int)) else (a + 1, cc, g 30 19)) else (a, cc, g 30 19))).2.2) := fun ec => by
        rw [ec, if_neg (show ¬ false = true by decide)]
        exact ih a cc g frJ_rf (by omega) (by omega) hfr
      by_cases q1 : V 8 j = pc
      · rw [if_pos q1]
        by_cases q2 : alw F j = true
        · have q2p := of_decide_eq_true q2
          have core : ∃ g1, ((fX6_reaches (j : Int) (g 30 20) g).bind fun r4 => if wr r4 = 0 then fX6_readMove_L89 nf b0 kd (if F 2 = -1 then -1 else F 2 + 97) (if F 3 = -1 then -1 else F 3 + 49) a cc ((j + 1 : Nat) : Int) g else (fX6_isLegal (j : Int) (g 30 20) g).bind fun r3 => if wr r3.1 = 0 then fX6_readMove_L89 nf b0 kd (if F 2 = -1 then -1 else F 2 + 97) (if F 3 = -1 then -1 else F 3 + 49) (a + 1) cc ((j + 1 : Nat) : Int) r3.2 else fX6_readMove_L89 nf b0 kd (if F 2 = -1 then -1 else F 2 + 97) (if F 3 = -1 then -1 else F 3 + 49) (a + 1) (cc + 1) ((j + 1 : Nat) : Int) (hs r3.2 30 19 (j : Int))) = some (jdE (kOf V) (V 8) F (jdF (jCn (kOf V) (V 8) pc F) (jLg (kOf V) (V 8) F) (64 - (j + 1)) (j + 1) (if jCn (kOf V) (V 8) pc F j = true then (if jLg (kOf V) (V 8) F j = true then (a + 1, cc + 1, (j : Int)) else (a + 1, cc, g 30 19)) else (a, cc, g 30 19))), g1) ∧ frJ g1 g ∧ (jdE (kOf V) (V 8) F (jdF (jCn (kOf V) (V 8) pc F) (jLg (kOf V) (V 8) F) (64 - (j + 1)) (j + 1) (if jCn (kOf V) (V 8) pc F j = true then (if jLg (kOf V) (V 8) F j = true then (a + 1, cc + 1, (j : Int)) else (a + 1, cc, g 30 19)) else (a, cc, g 30 19))) = 0 → g1 30 19 = (jdF (jCn (kOf V) (V 8) pc F) (jLg (kOf V) (V 8) F) (64 - (j + 1)) (j + 1) (if jCn (kOf V) (V 8) pc F j = true then (if jLg (kOf V) (V 8) F j = true then (a + 1, cc + 1, (j : Int)) else (a + 1, cc, g 30 19)) else (a, cc, g 30 19))).2.2) := by
            rw [e20, ← eto, umX6_reaches w.gg m (by omega) hto (by omega), Option.bind_some]
            by_cases q3 : hit (kOf V) (V 8) j to = true
            · have eC : jCn (kOf V) (V 8) pc F j = true := by unfold jCn; rw [decide_eq_true q1, q2, ← eto, q3]; rfl
              have eL : jLg (kOf V) (V 8) F j = lgl (kOf V) (V 8) j to := by unfold jLg; rw [← eto]
              obtain ⟨g2, eg2, f2⟩ := mX6_legal w.gg m (f := (j : Int)) (t := to) (by omega) hto (by omega)
              rw [if_pos q3, if_neg (show ¬ wr 1 = 0 by decide), eg2, Option.bind_some, eC, if_pos rfl, eL]
              by_cases q4 : lgl (kOf V) (V 8) j to = true
              · have f3 : frJ (hs g2 30 19 (j : Int)) g := ⟨fun a h1 h2 => by rw [hs_ne _ _ _ h2]; exact f2 a h1, fun b h1 => by rw [hs_at, if_pos rfl, if_neg h1, f2 30 (by decide)]⟩
                have e19 : hs g2 30 19 (j : Int) 30 19 = (j : Int) := hs_self
                obtain ⟨g1, a1, a2, a3⟩ := ih (a + 1) (cc + 1) (hs g2 30 19 (j : Int)) f3 (by omega) (by omega) (Or.inr ⟨by rw [e19]; omega, by rw [e19]; exact q1⟩)
                rw [e19] at a1 a3
                simp only [if_pos q4, if_neg (show ¬ wr 1 = 0 by decide)]
                exact ⟨g1, a1, frJ_tr a2 f3, a3⟩
              · obtain ⟨g1, a1, a2, a3⟩ := ih (a + 1) cc g2 f2.J (by omega) (by omega) (by rw [f2 30 (by decide)]; exact hfr)
                rw [f2 30 (by decide)] at a1 a3
                simp only [if_neg q4, if_pos wr_0]
                exact ⟨g1, a1, frJ_tr a2 f2.J, a3⟩
            · rw [if_neg q3, if_pos wr_0]
              exact skip (by unfold jCn; rw [← eto, Bool.eq_false_iff.mpr q3, Bool.and_false, Bool.and_false])
          by_cases p1 : F 2 = -1
          · by_cases p2 : F 3 = -1
            · rw [if_pos p1, if_pos p2]
              rw [if_pos p1, if_pos p2] at core
              rw [if_pos p1, if_pos p2]
              exact core
            · have p3 : F 3 = (j : Int) / 8 := q2p.2.resolve_left p2
              simp only [if_pos p1, if_neg p2] at core ⊢
              rw [wr_of (z := (j : Int) / 8) (by omega) (by omega), wr_of (z := F 3 + 49 - 49) (by omega) (by omega), if_pos (by omega)]
              exact core
          · have p4 : F 2 = (j : Int) % 8 := q2p.1.resolve_left p1
            by_cases p2 : F 3 = -1
            · simp only [if_neg p1, if_pos p2] at core ⊢
              rw [wr_of (z := (j : Int) % 8) (by omega) (by omega), wr_of (z := F 2 + 97 - 97) (by omega) (by omega), if_pos (by omega)]
              exact core
            · have p3 : F 3 = (j : Int) / 8 := q2p.2.resolve_left p2
              simp only [if_neg p1, if_neg p2] at core ⊢
              rw [wr_of (z := (j : Int) % 8) (by omega) (by omega), wr_of (z := F 2 + 97 - 97) (by omega) (by omega), if_pos (by omega), wr_of (z := (j : Int) / 8) (by omega) (by omega), wr_of (z := F 3 + 49 - 49) (by omega) (by omega), if_pos (by omega)]
              exact core
        · have sk := skip (by unfold jCn; rw [Bool.eq_false_iff.mpr q2, Bool.false_and, Bool.and_false])
          have q2p : ¬ ((F 2 = -1 ∨ F 2 = (j : Int) % 8) ∧ (F 3 = -1 ∨ F 3 = (j : Int) / 8)) := fun k => q2 (decide_eq_true k)
          by_cases p1 : F 2 = -1
          · by_cases p2 : F 3 = -1
            · exact absurd ⟨Or.inl p1, Or.inl p2⟩ q2p
            · have p3 : ¬ F 3 = (j : Int) / 8 := fun k => q2p ⟨Or.inl p1, Or.inr k⟩
              simp only [if_pos p1, if_neg p2] at sk ⊢
              rw [wr_of (z := (j : Int) / 8) (by omega) (by omega), wr_of (z := F 3 + 49 - 49) (by omega) (by omega), if_neg (by omega)]
              exact sk
          · by_cases p4 : F 2 = (j : Int) % 8
            · by_cases p2 : F 3 = -1
              · exact absurd ⟨Or.inr p4, Or.inl p2⟩ q2p
              · have p3 : ¬ F 3 = (j : Int) / 8 := fun k => q2p ⟨Or.inr p4, Or.inr k⟩
                simp only [if_neg p1, if_neg p2] at sk ⊢
                rw [wr_of (z := (j : Int) % 8) (by omega) (by omega), wr_of (z := F 2 + 97 - 97) (by omega) (by omega), if_pos (by omega), wr_of (z := (j : Int) / 8) (by omega) (by omega), wr_of (z := F 3 + 49 - 49) (by omega) (by omega), if_neg (by omega)]
                exact sk
            · simp only [if_neg p1] at sk ⊢
              rw [wr_of (z := (j : Int) % 8) (by omega) (by omega), wr_of (z := F 2 + 97 - 97) (by omega) (by omega), if_neg (by omega)]
              exact sk
      · rw [if_neg q1]
        exact skip (by unfold jCn; rw [decide_eq_false q1, Bool.false_and])
end ZBOTH
end
section
section ZREAD
/-! a word as a move: one account for both sides -/
def fz : Int → Int := fun j => if j = 7 then 0 else -1
theorem kpL_cg : ∀ {r : List Int} {F G : Int → Int}, (∀ j, 1 ≤ j → j ≤ 7 → F j = G j) → ∀ j, 1 ≤ j → j ≤ 7 → kpL F r j = kpL G r j
  | [], F, G, h, j, j1, j7 => h j j1 j7
  | b :: r, F, G, h, j, j1, j7 => by
    refine kpL_cg (r := r) (F := kp F b) (G := kp G b) (fun i i1 i7 => ?_) j j1 j7
    have e4 := h 4 (by decide) (by decide)
    have e5 := h 5 (by decide) (by decide)
    have ei := h i i1 i7
    unfold kp up
    repeat' split
    all_goals simp_all
theorem jdE_cg {K : KT} {b : Int → Int} {F G : Int → Int} (h : ∀ j, 1 ≤ j → j ≤ 7 → F j = G j) (pc : Int) : jCn K b pc F = jCn K b pc G ∧ jLg K b F = jLg K b G ∧ (∀ x, jdE K b F x = jdE K b G x) ∧ F 5 * 8 + F 4 = G 5 * 8 + G 4 := by
  have e2 := h 2 (by decide) (by decide)
  have e3 := h 3 (by decide) (by decide)
  have e4 := h 4 (by decide) (by decide)
  have e5 := h 5 (by decide) (by decide)
  have e6 := h 6 (by decide) (by decide)
  have e7 := h 7 (by decide) (by decide)
  refine ⟨?_, ?_, fun x => ?_, by rw [e4, e5]⟩
  · funext s
    unfold jCn alw
    rw [e2, e3, e4, e5]
  · funext s
    unfold jLg
    rw [e4, e5]
  · unfold jdE
    rw [e4, e5, e6, e7]
def jdg (n : Int) (L : Int → Int) (K : KT) (b : Int → Int) (tr : Int) : List Int → Int × Int × Int
  | [] => (1, -1, -1)
  | c :: r => if (65 ≤ c ∧ c ≤ 90) ∧ dr 1 (r.map cls) 0 = none then (if kiF L c n.toNat 0 = -1 then (2, -1, -1) else (jdE K b (kpL (up fz 1 c) r) (jdX K b (2 * kiF L c n.toNat 0 + tr) (kpL (up fz 1 c) r)), (jdX K b (2 * kiF L c n.toNat 0 + tr) (kpL (up fz 1 c) r)).2.2, kpL (up fz 1 c) r 5 * 8 + kpL (up fz 1 c) r 4)) else (1, -1, -1)
theorem jdg_nil {n : Int} {L : Int → Int} {K : KT} {b : Int → Int} {tr : Int} : jdg n L K b tr [] = (1, -1, -1) := rfl
theorem jdg_cons {n : Int} {L : Int → Int} {K : KT} {b : Int → Int} {tr c : Int} {r : List Int} : jdg n L K b tr (c :: r) = if (65 ≤ c ∧ c ≤ 90) ∧ dr 1 (r.map cls) 0 = none then (if kiF L c n.toNat 0 = -1 then (2, -1, -1) else (jdE K b (kpL (up fz 1 c) r) (jdX K b (2 * kiF L c n.toNat 0 + tr) (kpL (up fz 1 c) r)), (jdX K b (2 * kiF L c n.toNat 0 + tr) (kpL (up fz 1 c) r)).2.2, kpL (up fz 1 c) r 5 * 8 + kpL (up fz 1 c) r 4)) else (1, -1, -1) := rfl
def mis : List Int → Int
  | [] => 0
  | c :: r => if 65 ≤ c ∧ c ≤ 90 then (dr 1 (r.map cls) 1).getD 0 else 0
theorem mis_cons {c : Int} {r : List Int} : mis (c :: r) = if 65 ≤ c ∧ c ≤ 90 then (dr 1 (r.map cls) 1).getD 0 else 0 := rfl
theorem dr_none {C : List Nat} {st : Nat} {p : Int} : dr st C p = none ↔ dr st C 0 = none := by
  have e := dr_add C st 0 p
  rw [Int.zero_add] at e
  rw [e]
  cases dr st C 0 <;> simp
theorem form_get {r : List Int} (h : dr 1 (r.map cls) 0 = none) : ∃ k : Nat, k < 16 ∧ (rsF (r.map cls)).1 = (k : Int) ∧ r.map cls = frm k := by
  obtain ⟨a, b, c⟩ := form_ok (C := r.map cls) (fun x hx => by
    obtain ⟨v, -, e⟩ := List.mem_map.mp hx
    rw [← e]
    exact cls_lt v) h
  exact ⟨(rsF (r.map cls)).1.toNat, by omega, by omega, c.symm⟩
theorem fRg_of {F : Int → Int} {r : List Int} {k : Nat} (fo : fldOk F r k) : fRg F := by
  obtain ⟨-, -, -, f7, -, f4, f5, f2, f3, f6⟩ := fo
  refine ⟨f4, f5, f2, f3, f6, ?_⟩
  split at f7
  · exact Or.inl f7
  · exact Or.inr f7
theorem fz_fld {c : Int} : fld0 (up fz 1 c) := by
  unfold fld0
  simp [fz, up]
theorem jdX_from {K : KT} {b : Int → Int} {pc : Int} {F : Int → Int} : ∀ (n j : Nat) (a cc fr : Int), 0 ≤ cc → (0 < cc → (0 ≤ fr ∧ fr < 64) ∧ b fr = pc) → n + j = 64 → 0 < (jdF (jCn K b pc F) (jLg K b F) n j (a, cc, fr)).2.1 → (0 ≤ (jdF (jCn K b pc F) (jLg K b F) n j (a, cc, fr)).2.2 ∧ (jdF (jCn K b pc F) (jLg K b F) n j (a, cc, fr)).2.2 < 64) ∧ b (jdF (jCn K b pc F) (jLg K b F) n j (a, cc, fr)).2.2 = pc
  | 0, j, a, cc, fr, h0, h1, h2, h3 => h1 h3
  | n + 1, j, a, cc, fr, h0, h1, h2, h3 => by
    unfold jdF at h3 ⊢
    by_cases q1 : jCn K b pc F j = true
    · have q1p := q1
      unfold jCn at q1p
      rw [Bool.and_eq_true] at q1p
      have qb := of_decide_eq_true q1p.1
      by_cases q2 : jLg K b F j = true
      · simp only [if_pos q1, if_pos q2] at h3 ⊢
        exact jdX_from n (j + 1) (a + 1) (cc + 1) (j : Int) (by omega) (fun _ => ⟨by omega, qb⟩) (by omega) h3
      · simp only [if_pos q1, if_neg q2] at h3 ⊢
        exact jdX_from n (j + 1) (a + 1) cc fr h0 h1 (by omega) h3
    · simp only [if_neg q1] at h3 ⊢
      exact jdX_from n (j + 1) a cc fr h0 h1 (by omega) h3
theorem jdg_rg {n : Int} {L : Int → Int} {K : KT} {b : Int → Int} {tr : Int} {u : List Int} : 0 ≤ (jdg n L K b tr u).1 ∧ (jdg n L K b tr u).1 ≤ 7 := by
  cases u with
  | nil => rw [jdg_nil]; exact ⟨by decide, by decide⟩
  | cons c r =>
    rw [jdg_cons]
    split
    · split
      · exact ⟨by decide, by decide⟩
      · have := @jdE_rg K b (kpL (up fz 1 c) r) (jdX K b (2 * kiF L c n.toNat 0 + tr) (kpL (up fz 1 c) r))
        dsimp only
        omega
    · exact ⟨by decide, by decide⟩
theorem jdg_0 {n : Int} {L : Int → Int} {K : KT} {b : Int → Int} {tr : Int} {u : List Int} (htr : tr = 0 ∨ tr = 1) (h : (jdg n L K b tr u).1 = 0) : (0 ≤ (jdg n L K b tr u).2.1 ∧ (jdg n L K b tr u).2.1 < 64) ∧ (0 ≤ (jdg n L K b tr u).2.2 ∧ (jdg n L K b tr u).2.2 < 64) ∧ 0 ≤ b (jdg n L K b tr u).2.1 := by
  cases u with
  | nil => exact absurd h (by rw [jdg_nil]; decide)
  | cons c r =>
    rw [jdg_cons] at h ⊢
    by_cases q : (65 ≤ c ∧ c ≤ 90) ∧ dr 1 (r.map cls) 0 = none
    · simp only [if_pos q] at h ⊢
      by_cases q2 : kiF L c n.toNat 0 = -1
      · rw [if_pos q2] at h
        exact absurd h (by decide)
      · simp only [if_neg q2] at h ⊢
        have kr := @kiF_rg L c n.toNat 0
        obtain ⟨k, hk, -, hm⟩ := form_get q.2
        obtain ⟨r4, r5, -⟩ := fRg_of (fld_all fz_fld hk hm (F := up fz 1 c))
        have hx : (jdX K b (2 * kiF L c n.toNat 0 + tr) (kpL (up fz 1 c) r)).2.1 = 1 := by
          unfold jdE at h
          by_cases e : (jdX K b (2 * kiF L c n.toNat 0 + tr) (kpL (up fz 1 c) r)).2.1 = 1
          · exact e
          · rw [if_neg e] at h
            split at h
            · omega
            · split at h <;> omega
        have hf := jdX_from (K := K) (b := b) (pc := 2 * kiF L c n.toNat 0 + tr) (F := kpL (up fz 1 c) r) 64 0 0 0 (-1) (by omega) (fun k => by omega) (by omega) (by
          have : (jdX K b (2 * kiF L c n.toNat 0 + tr) (kpL (up fz 1 c) r)).2.1 = (jdF (jCn K b (2 * kiF L c n.toNat 0 + tr) (kpL (up fz 1 c) r)) (jLg K b (kpL (up fz 1 c) r)) 64 0 (0, 0, -1)).2.1 := rfl
          omega)
        refine ⟨hf.1, by omega, ?_⟩
        have e2 : b (jdX K b (2 * kiF L c n.toNat 0 + tr) (kpL (up fz 1 c) r)).2.2 = 2 * kiF L c n.toNat 0 + tr := hf.2
        rw [e2]
        omega
    · rw [if_neg q] at h
      exact absurd h (by decide)
theorem judgeC {h : HS} (w : PsiC h) {u : List Int} (hu : byL u) {b0 : Int} (hb : 0 ≤ b0) (hl : b0 + u.length ≤ h 19 1) (t : tpL (h 20) b0 u) : ∃ X, fX5_judge b0 (b0 + (u.length : Int)) h = some ((jdg (h 1 5) (h 2) (kOf h) (h 8) (trn h) u).1, X) ∧ ((jdg (h 1 5) (h 2) (kOf h) (h 8) (trn h) u).1 = 0 → X 0 11 = (jdg (h 1 5) (h 2) (kOf h) (h 8) (trn h) u).2.1 ∧ X 0 12 = (jdg (h 1 5) (h 2) (kOf h) (h 8) (trn h) u).2.2) ∧ (∀ (a : Nat) (b : Int), a ≠ 18 → ¬ (a = 0 ∧ (b = 11 ∨ b = 12)) → X a b = h a b) ∧ ((jdg (h 1 5) (h 2) (kOf h) (h 8) (trn h) u).1 = 1 → X 18 0 = b0 + mis u) := by
  have hn := w.T.1
  have t0 := trn_01 (h := h)
  have nk := w.K.1
  unfold fX5_judge
  cases u with
  | nil =>
    obtain ⟨F2, e1, e2⟩ := fits_nil (h := h) (b0 := b0) (by simp only [List.length_nil] at hl; omega)
    rw [show b0 + (([] : List Int).length : Int) = b0 by simp, e1, Option.bind_some, if_pos wr_0]
    refine ⟨hF h F2, rfl, fun k => absurd k (by rw [jdg_nil]; decide), fun a b ha _ => by rw [hF_ne ha], fun _ => ?_⟩
    rw [hF_18, e2]
    show b0 = b0 + 0
    omega
  | cons c r =>
    rw [List.length_cons] at hl
    have hc := hu c List.mem_cons_self
    obtain ⟨F2, e1, e2, e3, e4⟩ := fits_cons (h := h) hn.2 (b0 := b0) (c := c) (r := r) hu hb (by omega) t
    rw [show b0 + ((c :: r).length : Int) = b0 + 1 + (r.length : Int) by rw [List.length_cons]; omega, e1, Option.bind_some]
    rw [jdg_cons]
    by_cases q : (65 ≤ c ∧ c ≤ 90) ∧ dr 1 (r.map cls) 0 = none
    · have q2 : (65 ≤ c ∧ c ≤ 90) ∧ dr 1 (r.map cls) (b0 + 1) = none := ⟨q.1, dr_none.mpr q.2⟩
      have eF := e2 q2
      obtain ⟨k, hk, -, hm⟩ := form_get q.2
      have fo := fld_all (F := up (zF0 h) 1 c) zF0_fld hk hm
      rw [← eF] at fo
      have fr := fRg_of fo
      have e71 : F2 1 = c := by
        rw [eF, kpL_1 (fun b hb2 => by
          have l3 := (frm_len ⟨k, hk⟩).2.2
          dsimp only at l3
          exact l3 _ (by rw [← hm]; exact List.mem_map_of_mem hb2))]
        unfold up
        rw [if_pos rfl]
      have cg : ∀ j, 1 ≤ j → j ≤ 7 → F2 j = kpL (up fz 1 c) r j := fun j j1 j7 => by
        rw [eF]
        refine kpL_cg (fun i i1 i7 => ?_) j j1 j7
        rcases (show i = 1 ∨ i = 2 ∨ i = 3 ∨ i = 4 ∨ i = 5 ∨ i = 6 ∨ i = 7 by omega) with k | k | k | k | k | k | k <;> subst k <;> simp [up, zF0, fz]
      have ek := kiC w.K (x := c) hc zF 0 (by omega) (by unfold zF; omega)
      have ek2 : fX1_withLetter c (hF h F2) = some (kiF (h 2) c (h 1 5).toNat 0) := by
        have := kiC (h := hF h F2) (x := c) (by unfold PcK; rw [hF_ne (by decide), hF_ne (by decide)]; exact w.K) hc zF 0 (by rw [hF_ne (by decide)]; omega) (by rw [hF_ne (by decide)]; unfold zF; omega)
        rw [hF_ne (by decide), hF_ne (by decide)] at this
        exact this
      have kr := @kiF_rg (h 2) c (h 1 5).toNat 0
      unfold fX2_letter fX2_to
      rw [if_pos q2, if_neg (show ¬ wr 1 = 0 by decide), Option.bind_some]
      dsimp only
      rw [hF_18, e71, ek2, Option.bind_some, wr_of (z := kiF (h 2) c (h 1 5).toNat 0) (by omega) (by omega), if_pos q]
      by_cases q3 : kiF (h 2) c (h 1 5).toNat 0 = -1
      · rw [if_pos q3, if_pos q3]
        exact ⟨hF h F2, rfl, fun k => absurd k (by decide), fun a b ha _ => by rw [hF_ne ha], fun k => absurd k (by decide)⟩
      · have w2 : PsiC (hF h F2) := w.sq hF_qc.qc
        have et : trn (hF h F2) = trn h := by unfold trn; rw [hF_ne (by decide), hF_ne (by decide)]
        rw [if_neg q3, if_neg q3, pX5_turn w2, et, Option.bind_some, Option.bind_some]
        have c2 : cSt (kOf h) (h 1 5) (h 8) (hF h F2) := by
          have := Psi.cs (h := h)
          refine ⟨by rw [hF_ne (by decide)], fun s _ _ => by rw [hF_ne (by decide)], fun i i0 i1 => by rw [hF_ne (by decide)]; exact this.2.2.1 i i0 i1, fun i j i0 i1 j0 j1 => by rw [hF_ne (by decide), hF_ne (by decide), hF_ne (by decide)]; exact this.2.2.2 i j i0 i1 j0 j1⟩
        have ej := jL71 w.gg c2 (pc := 2 * kiF (h 2) c (h 1 5).toNat 0 + trn h) (by omega) (by rw [hF_18]; exact fr) zF 0 0 0 (-1) (by omega) (by omega) (Or.inl rfl) (by omega) (by unfold zF; omega)
        rw [hF_18] at ej
        obtain ⟨g1, g2, g3, g4⟩ := jdE_cg (K := kOf h) (b := h 8) (F := F2) (G := kpL (up fz 1 c) r) cg (2 * kiF (h 2) c (h 1 5).toNat 0 + trn h)
        rw [g1, g2, g3, g4] at ej
        rw [g4]
        have ej2 : fX5_judge_L71 zF (2 * kiF (h 2) c (h 1 5).toNat 0 + trn h) (kpL (up fz 1 c) r 5 * 8 + kpL (up fz 1 c) r 4) 0 0 (-1) 0 (hF h F2) = some (jdE (kOf h) (h 8) (kpL (up fz 1 c) r) (jdX (kOf h) (h 8) (2 * kiF (h 2) c (h 1 5).toNat 0 + trn h) (kpL (up fz 1 c) r)), if jdE (kOf h) (h 8) (kpL (up fz 1 c) r) (jdX (kOf h) (h 8) (2 * kiF (h 2) c (h 1 5).toNat 0 + trn h) (kpL (up fz 1 c) r)) = 0 then hs (hs (hF h F2) 0 11 (jdX (kOf h) (h 8) (2 * kiF (h 2) c (h 1 5).toNat 0 + trn h) (kpL (up fz 1 c) r)).2.2) 0 12 (kpL (up fz 1 c) r 5 * 8 + kpL (up fz 1 c) r 4) else hF h F2) := ej
        rw [ej2]
        refine ⟨_, rfl, fun k => ?_, fun a b ha hab => ?_, fun k => ?_⟩
        · dsimp only at k ⊢
          rw [if_pos k]
          exact ⟨by simp [hs_at], by simp [hs_at]⟩
        · split
          · rw [hs_at]
            by_cases a0 : a = 0
            · subst a0
              rw [if_pos rfl, if_neg (fun k => hab ⟨rfl, Or.inr k⟩), hs_at, if_pos rfl, if_neg (fun k => hab ⟨rfl, Or.inl k⟩), hF_ne (by decide)]
            · rw [if_neg a0, hs_ne _ _ _ a0, hF_ne ha]
          · rw [hF_ne ha]
        · have := @jdE_rg (kOf h) (h 8) (kpL (up fz 1 c) r) (jdX (kOf h) (h 8) (2 * kiF (h 2) c (h 1 5).toNat 0 + trn h) (kpL (up fz 1 c) r))
          dsimp only at k
          omega
    · have q2 : ¬ ((65 ≤ c ∧ c ≤ 90) ∧ dr 1 (r.map cls) (b0 + 1) = none) := fun k => q ⟨k.1, dr_none.mp k.2⟩
      rw [if_neg q2, if_pos wr_0, if_neg q]
      refine ⟨hF h F2, rfl, fun k => absurd k (by decide), fun a b ha _ => by rw [hF_ne ha], fun _ => ?_⟩
      rw [hF_18]
      rw [mis_cons]
      by_cases q4 : 65 ≤ c ∧ c ≤ 90
      · have ed := dr_add (r.map cls) 1 1 b0
        cases hd : dr 1 (r.map cls) 1 with
        | none => exact absurd ⟨q4, dr_none.mp hd⟩ q
        | some x =>
          rw [hd, show (1 : Int) + b0 = b0 + 1 by omega] at ed
          rw [if_pos q4, e3 q4 _ ed]
          show x + b0 = b0 + x
          omega
      · rw [if_neg q4, e4 q4]
        omega
theorem judgeR {V g : HS} (w : Psi V) (e : zqm g V) {u : List Int} (hu : byL u) {b0 : Int} (hb : 0 ≤ b0) (hl : b0 + u.length ≤ V 19 1) (t : tpL (V 20) b0 u) : ∃ Y, fX6_readMove b0 (b0 + (u.length : Int)) g = some ((jdg (V 1 5) (V 2) (kOf V) (V 8) (trn V) u).1, Y) ∧ ((jdg (V 1 5) (V 2) (kOf V) (V 8) (trn V) u).1 = 0 → Y 30 19 = (jdg (V 1 5) (V 2) (kOf V) (V 8) (trn V) u).2.1 ∧ Y 30 20 = (jdg (V 1 5) (V 2) (kOf V) (V 8) (trn V) u).2.2) ∧ (∀ a : Nat, a ≠ 36 → a ≠ 30 → Y a = g a) ∧ (∀ b : Int, ¬ (18 ≤ b ∧ b ≤ 21) → Y 30 b = g 30 b) ∧ Y 30 21 = b0 + (if (jdg (V 1 5) (V 2) (kOf V) (V 8) (trn V) u).1 = 1 then mis u else 0) := by
  have hn := w.T.n
  have t0 := trn_01 (h := V)
  have nk := w.K.n
  have e39 := e.c (a := 39) (by decide)
  have t39 : tpL (g 39) b0 u := fun i hi => by
    rw [e39, (w.T.by_ (b0 + i) (by omega) (by omega)).1]
    exact t i hi
  unfold fX6_readMove
  cases u with
  | nil =>
    rw [show b0 + (([] : List Int).length : Int) = b0 by simp]
    have e1 : fX6_findForm b0 b0 g = some (0, Zf (-1) b0 g) := by
      unfold fX6_findForm
      rw [if_pos rfl, Zf_0]
    rw [e1, Option.bind_some, if_pos wr_0]
    refine ⟨Zf (-1) b0 g, rfl, fun k => absurd k (by rw [jdg_nil]; decide), fun a _ h30 => Zf_ne h30, fun b hb2 => by rw [Zf_30, if_neg (by omega), if_neg (by omega)], ?_⟩
    rw [Zf_30, if_neg (by decide), if_pos rfl]
    show b0 = b0 + (if (1 : Int) = 1 then 0 else 0)
    rw [if_pos rfl]
    omega
  | cons c r =>
    rw [List.length_cons] at hl
    have hc := hu c List.mem_cons_self
    have hr : byL r := fun v hv => hu v (List.mem_cons_of_mem _ hv)
    have e1 := mX6_find hu hb (show b0 + 1 + r.length ≤ 2000 by omega) t39
    rw [show b0 + ((c :: r).length : Int) = b0 + 1 + (r.length : Int) by rw [List.length_cons]; omega, e1]
    rw [jdg_cons]
    by_cases q1 : 65 ≤ c ∧ c ≤ 90
    · rw [if_pos q1, Option.bind_some]
      by_cases q2 : dr 1 (r.map cls) 0 = none
      · obtain ⟨k, hk, ek, hm⟩ := form_get q2
        have fo := fld_all (F := up fz 1 c) fz_fld hk hm
        have fr := fRg_of fo
        obtain ⟨F, eF⟩ : ∃ F, F = kpL (up fz 1 c) r := ⟨_, rfl⟩
        rw [← eF] at fo fr ⊢
        have hl2 : r.length = (frm k).length := by rw [← hm, List.length_map]
        obtain ⟨r4, r5, r2, r3, r6, r7⟩ := fr
        have ec : g 39 b0 = c := by
          have e := tpL_at t39 (i := 0) (v := c) rfl
          rw [Int.natCast_zero, Int.add_zero] at e
          exact e
        have t2 : tpL (V 39) (b0 + 1) r := fun i hi => by
          have e5 := t39 (i + 1) (by rw [List.length_cons]; omega)
          rw [List.getElem?_cons_succ] at e5
          rw [e5, e39, show b0 + ((i + 1 : Nat) : Int) = b0 + 1 + (i : Int) by omega]
        rw [if_neg (show ¬ (rsF (r.map cls)).1 = -1 by omega)]
        dsimp only
        rw [if_neg (show ¬ wr 1 = 0 by decide), if_pos (by omega), Zf_u21, Zf_ne (by decide), ec, if_pos (show (65 ≤ c ∧ c ≤ 90) ∧ dr 1 (r.map cls) 0 = none from ⟨q1, q2⟩), ek]
        obtain ⟨S, eS⟩ : ∃ S, S = Zf (k : Int) b0 g := ⟨_, rfl⟩
        rw [← eS]
        have Sne : ∀ a : Nat, a ≠ 30 → S a = g a := fun a ha => by rw [eS, Zf_ne ha]
        have S30 : ∀ b : Int, b ≠ 18 → b ≠ 21 → S 30 b = g 30 b := fun b h1 h2 => by rw [eS, Zf_30, if_neg h1, if_neg h2]
        have S18 : S 30 18 = k := by rw [eS, Zf_30, if_pos rfl]
        have S21 : S 30 21 = b0 := by rw [eS, Zf_30, if_neg (by decide), if_pos rfl]
        have qS : zqm S g := fun a b ha hn => by
          by_cases a30 : a = 30
          · subst a30
            exact S30 b (fun k => hn (Or.inr (Or.inr ⟨rfl, by omega⟩))) (fun k => hn (Or.inr (Or.inr ⟨rfl, by omega⟩)))
          · rw [Sne a a30]
        have ekd : fX6_kindOf c S = some (kiF (V 2) c (V 1 5).toNat 0) := kiR w.K (by rw [(qS.tr e).c30 (by decide), w.K.n2]) (by rw [Sne 31 (by decide), e.c (a := 31) (by decide)]) hc zF 0 (by omega) (by unfold zF; omega)
        have kr := @kiF_rg (V 2) c (V 1 5).toNat 0
        rw [ekd, Option.bind_some, wr_of (z := kiF (V 2) c (V 1 5).toNat 0) (by omega) (by omega)]
        by_cases q3 : kiF (V 2) c (V 1 5).toNat 0 = -1
        · rw [if_pos q3, if_pos q3]
          refine ⟨S, rfl, fun k => absurd k (by decide), fun a _ h30 => Sne a h30, fun b hb2 => S30 b (by omega) (by omega), ?_⟩
          rw [S21, if_neg (by decide)]
          omega
        · rw [if_neg q3, if_neg q3]
          obtain ⟨tr1, tr2, tr3, tr4, tr5, tr6⟩ := tab_rg ⟨k, hk⟩
          obtain ⟨z1, z2, z3, z4, z5, z6⟩ := ix_z ⟨k, hk⟩
          dsimp only at tr1 tr2 tr3 tr4 z1 z2 z3 z4
          obtain ⟨⟨fa, fb⟩, fc, fd, -⟩ := id fo
          have tS : tpL (S 39) (b0 + 1) r := by rw [Sne 39 (by decide), e39]; exact t2
          have hl3 : b0 + 1 + (r.length : Int) ≤ 2000 := by omega
          rw [umX6_late hk hb hl3 tS S18 z2 ⟨by omega, tr2.2⟩ (Or.inr ⟨tr2.1, fa⟩), Option.bind_some, umX6_late hk hb hl3 tS S18 z4 ⟨by omega, tr4.2⟩ (Or.inr ⟨tr4.1, fb⟩), Option.bind_some]
          obtain ⟨R, eR⟩ : ∃ R, R = hs S 30 20 ((F 4 + 97 - 97) + 8 * (F 5 + 49 - 49)) := ⟨_, rfl⟩
          rw [← eR]
          have Rne : ∀ a : Nat, a ≠ 30 → R a = S a := fun a ha => by rw [eR, hs_ne _ _ _ ha]
          have R30 : ∀ b : Int, b ≠ 20 → R 30 b = S 30 b := fun b hb2 => by rw [eR, hs_at, if_pos rfl, if_neg hb2]
          have R20 : R 30 20 = F 5 * 8 + F 4 := by rw [eR, hs_self]; omega
          have R18 : R 30 18 = k := by rw [R30 18 (by decide), S18]
          have tR : tpL (R 39) (b0 + 1) r := by rw [Rne 39 (by decide)]; exact tS
          have qR : zqm R V := (show zqm R S from fun a b ha hn => by
            by_cases a30 : a = 30
            · subst a30
              exact R30 b (fun k => hn (Or.inr (Or.inr ⟨rfl, by omega⟩)))
            · rw [Rne a a30]).tr (qS.tr e)
          have e2 : fX6_early b0 102 R = some (if F 2 = -1 then -1 else F 2 + 97) := umX6_early hk hb hl3 tR R18 z1 z2 tr1 tr2 (by
            by_cases q5 : tFf.getD k 0 = tLf.getD k 0
            · rw [if_pos q5] at fc ⊢
              rw [if_pos fc]
            · rw [if_neg q5] at fc ⊢
              rw [if_neg fc.1]
              exact fc.2)
          have e3 : fX6_early b0 114 R = some (if F 3 = -1 then -1 else F 3 + 49) := umX6_early hk hb hl3 tR R18 z3 z4 tr3 tr4 (by
            by_cases q5 : tFr.getD k 0 = tLr.getD k 0
            · rw [if_pos q5] at fd ⊢
              rw [if_pos fd]
            · rw [if_neg q5] at fd ⊢
              rw [if_neg fd.1]
              exact fd.2)
          rw [e2, Option.bind_some, e3, Option.bind_some]
          obtain ⟨g1, a1, a2, a3⟩ := jL89 w hk fo ⟨r4, r5, r2, r3, r6, r7⟩ hr hl2 hb hl3 t2 (kd := kiF (V 2) c (V 1 5).toNat 0) (by omega) zF 0 0 0 R qR R18 R20 (by omega) (by omega) (Or.inl rfl) (by omega) (by unfold zF; omega)
          obtain ⟨pc, epc⟩ : ∃ pc, pc = 2 * kiF (V 2) c (V 1 5).toNat 0 + trn V := ⟨_, rfl⟩
          rw [← epc] at a1 a3 ⊢
          obtain ⟨b1, b2, b3, b4⟩ := jdF_fr (cnd := jCn (kOf V) (V 8) pc F) (lg := jLg (kOf V) (V 8) F) 64 0 0 0 (R 30 19) (-1)
          have eE : jdE (kOf V) (V 8) F (jdF (jCn (kOf V) (V 8) pc F) (jLg (kOf V) (V 8) F) (64 - 0) 0 (0, 0, R 30 19)) = jdE (kOf V) (V 8) F (jdX (kOf V) (V 8) pc F) := by
            unfold jdE jdX
            rw [show 64 - 0 = 64 from rfl, b1, b2]
            by_cases q6 : (jdF (jCn (kOf V) (V 8) pc F) (jLg (kOf V) (V 8) F) 64 0 (0, 0, -1)).2.1 = 1
            · rcases b4 with b4 | b4
              · rw [b4]
              · omega
            · rw [if_neg q6, if_neg q6]
          rw [eE] at a1 a3
          have a1b : fX6_readMove_L89 zF b0 (kiF (V 2) c (V 1 5).toNat 0) (if F 2 = -1 then -1 else F 2 + 97) (if F 3 = -1 then -1 else F 3 + 49) 0 0 0 R = some (jdE (kOf V) (V 8) F (jdX (kOf V) (V 8) pc F), g1) := a1
          rw [a1b]
          have jr := @jdE_rg (kOf V) (V 8) F (jdX (kOf V) (V 8) pc F)
          refine ⟨g1, rfl, fun k => ?_, fun a h36 h30 => by rw [a2.1 a h36 h30, Rne a h30, Sne a h30], fun b hb2 => by rw [a2.2 b (by omega), R30 b (by omega), S30 b (by omega) (by omega)], ?_⟩
          · dsimp only at k ⊢
            refine ⟨?_, by rw [a2.2 20 (by decide), R20]⟩
            rw [a3 k]
            rcases b4 with b4 | b4
            · exact b4
            · have k2 := k
              unfold jdE jdX at k2
              rw [← b2, b4, if_neg (by decide)] at k2
              split at k2
              · omega
              · rw [if_pos rfl] at k2; omega
          · dsimp only
            rw [a2.2 21 (by decide), R30 21 (by decide), S21, if_neg (by omega)]
            omega
      · have hd : ∃ x, dr 1 (r.map cls) 0 = some x := by
          cases hx : dr 1 (r.map cls) 0 with
          | none => exact absurd hx q2
          | some x => exact ⟨x, rfl⟩
        obtain ⟨x, hx⟩ := hd
        obtain ⟨f1, f2⟩ := form_bad (C := r.map cls) (fun y hy => by
          obtain ⟨v, -, ev⟩ := List.mem_map.mp hy
          rw [← ev]
          exact cls_lt v) hx
        rw [f1, if_pos rfl]
        dsimp only
        rw [if_pos wr_0, if_neg (fun k => q2 k.2)]
        refine ⟨_, rfl, fun k => absurd k (by decide), fun a _ h30 => Zf_ne h30, fun b hb2 => by rw [Zf_30, if_neg (by omega), if_neg (by omega)], ?_⟩
        rw [Zf_30, if_neg (by decide), if_pos rfl, if_pos rfl, f2]
        rw [mis_cons]
        have ed := dr_add (r.map cls) 1 0 1
        rw [hx, Int.zero_add] at ed
        rw [if_pos q1, ed]
        show b0 + 1 + x = b0 + (x + 1)
        omega
    · rw [if_neg q1, Option.bind_some]
      dsimp only
      rw [if_pos wr_0, if_neg (fun k => q1 k.1)]
      refine ⟨_, rfl, fun k => absurd k (by decide), fun a _ h30 => Zf_ne h30, fun b hb2 => by rw [Zf_30, if_neg (by omega), if_neg (by omega)], ?_⟩
      rw [Zf_30, if_neg (by decide), if_pos rfl, if_pos rfl]
      rw [mis_cons]
      rw [if_neg q1]
      omega
end ZREAD
end
section
section ZCASE9
def wdL (a : Int → Int) (s : Int) (n : Nat) : List Int := (List.range n).map (fun i : Nat => a (s + (i : Int)))
theorem wdL_len {a : Int → Int} {s : Int} {n : Nat} : (wdL a s n).length = n := by
  unfold wdL
  rw [List.length_map, List.length_range]
theorem wdL_tp {a : Int → Int} {s : Int} {n : Nat} : tpL a s (wdL a s n) := fun i hi => by
  rw [wdL_len] at hi
  unfold wdL
  rw [List.getElem?_map, List.getElem?_range hi]
  rfl
theorem wdL_by {h : HS} (w : PcT h) {s : Int} {n : Nat} (h0 : 0 ≤ s) (h1 : s + n ≤ h 19 1) : byL (wdL (h 20) s n) := fun v hv => by
  unfold wdL at hv
  obtain ⟨i, hi, e⟩ := List.mem_map.mp hv
  rw [List.mem_range] at hi
  rw [← e]
  exact w.2 (s + (i : Int)) (by omega) (by omega)
theorem dr_rg : ∀ {C : List Nat} {st : Nat} {p q : Int}, dr st C p = some q → p ≤ q ∧ q ≤ p + C.length
  | [], st, p, q, h => by
    have h2 : (if okS st then none else some p) = some q := h
    split at h2
    · exact absurd h2 (by simp)
    · have := Option.some.inj h2
      simp only [List.length_nil]
      omega
  | c :: C, st, p, q, h => by
    have h2 : (if dl st c = 0 then some p else dr (dl st c) C (p + 1)) = some q := h
    rw [List.length_cons]
    split at h2
    · have := Option.some.inj h2
      omega
    · have := dr_rg h2
      omega
theorem mis_rg {u : List Int} : 0 ≤ mis u ∧ mis u ≤ u.length := by
  cases u with
  | nil => exact ⟨Int.le_refl _, by show (0 : Int) ≤ _; omega⟩
  | cons c r =>
    rw [mis_cons, List.length_cons]
    split
    · cases hd : dr 1 (r.map cls) 1 with
      | none => show 0 ≤ (0 : Int) ∧ (0 : Int) ≤ _; omega
      | some x =>
        have := dr_rg hd
        rw [List.length_map] at this
        show 0 ≤ x ∧ x ≤ _
        omega
    · omega
theorem Psi.errs {h o : HS} (w : Psi h) (E : PsE o) (e : ∀ (a : Nat) (b : Int), ¬ scr a b → ¬ (a = 0 ∧ 13 ≤ b ∧ b ≤ 15) → ¬ (a = 30 ∧ 14 ≤ b ∧ b ≤ 16) → o a b = h a b) : Psi o := by
  have ne : ∀ a : Nat, ¬ (a = 50 ∨ a = 18 ∨ a = 21 ∨ a = 22 ∨ a = 23 ∨ a = 24 ∨ a = 36 ∨ a = 40 ∨ a = 41 ∨ a = 42 ∨ a = 90 ∨ a = 91 ∨ a = 0 ∨ a = 30) → o a = h a := fun a hn => by
    funext b
    exact e a b (fun k => hn (by rcases k with k | k | k <;> omega)) (by omega) (by omega)
  have n0 : o 0 8 = h 0 8 := e 0 8 (by rintro (k | k | k) <;> omega) (by omega) (by omega)
  have n30 : ∀ b : Int, 1 ≤ b → b ≤ 13 → o 30 b = h 30 b := fun b h1 h2 => e 30 b (fun k => by rcases k with k | k | k <;> omega) (by omega) (by omega)
  exact ⟨w.T.cg (by rw [ne 19 (by decide)]) (n30 _ (by decide) (by decide)) (fun i => by rw [ne 39 (by decide)]) (fun i => by rw [ne 20 (by decide)]),
   E,
   w.B.cg (by rw [ne 1 (by decide)]) (n30 _ (by decide) (by decide)) (fun i => by rw [ne 35 (by decide)]) (fun i => by rw [ne 8 (by decide)]),
   w.K.cg (by rw [ne 1 (by decide)]) (n30 _ (by decide) (by decide)) (fun i => by rw [ne 31 (by decide)]) (fun i => by rw [ne 2 (by decide)]),
   w.S.cg (fun i => by rw [ne 32 (by decide)]) (fun i => by rw [ne 3 (by decide)]) (fun i => by rw [ne 33 (by decide)]) (fun i => by rw [ne 4 (by decide)]) (fun i => by rw [ne 5 (by decide)]) (fun i => by rw [ne 6 (by decide)]),
   w.R.cg (by rw [ne 9 (by decide)]) (n30 _ (by decide) (by decide)) (fun i => by rw [ne 37 (by decide)]) (fun i => by rw [ne 10 (by decide), ne 11 (by decide), ne 12 (by decide), ne 14 (by decide), ne 15 (by decide)]; exact ⟨rfl, rfl, rfl, rfl, rfl⟩),
   w.C.cg (by rw [ne 9 (by decide)]) (fun i => by rw [ne 16 (by decide)]) (fun i => by rw [ne 17 (by decide)]) (fun i => by rw [ne 38 (by decide)]) (fun i => by rw [ne 10 (by decide)]) (fun i => by rw [ne 15 (by decide)]),
   w.A.cg (ne 9 (by decide)) (ne 10 (by decide)) (ne 15 (by decide)) (ne 16 (by decide)) (ne 17 (by decide)),
   w.P.cg n0 (n30 _ (by decide) (by decide)) (ne 9 (by decide)) (ne 10 (by decide)) (ne 11 (by decide)) (ne 12 (by decide)) (ne 13 (by decide)) (ne 14 (by decide)) (ne 34 (by decide)) (ne 8 (by decide)) (ne 35 (by decide)) (by rw [ne 1 (by decide)]; omega)⟩
theorem qc_9 {h : HS} (w : Psi h) : ∃ o, fL_c9 h = some o ∧ Psi o := by
  have n := w.T.n
  obtain ⟨u, eu⟩ : ∃ u, u = wdL (h 20) 0 (h 19 1).toNat := ⟨_, rfl⟩
  have ul : (u.length : Int) = h 19 1 := by rw [eu, wdL_len]; omega
  have ub : byL u := by rw [eu]; exact wdL_by w.cc.T (by omega) (by omega)
  have ut : tpL (h 20) 0 u := by rw [eu]; exact wdL_tp
  obtain ⟨X, x1, x2, x3, x4⟩ := judgeC w.cc ub (b0 := 0) (by omega) (by omega) ut
  obtain ⟨J, eJ⟩ : ∃ J, J = jdg (h 1 5) (h 2) (kOf h) (h 8) (trn h) u := ⟨_, rfl⟩
  have jr := @jdg_rg (h 1 5) (h 2) (kOf h) (h 8) (trn h) u
  have j0 := @jdg_0 (h 1 5) (h 2) (kOf h) (h 8) (trn h) u trn_01
  have mr := @mis_rg u
  rw [← eJ] at x1 x2 x4 jr j0
  rw [Int.zero_add, ul] at x1
  rw [Int.zero_add] at x4
  -- what the class leaves
  have c1 : ∃ C, fX5_read h = some (J.1, C) ∧ (∀ (a : Nat) (b : Int), a ≠ 18 → ¬ (a = 0 ∧ (11 ≤ b ∧ b ≤ 15)) → C a b = h a b) ∧ C 0 13 = (if J.1 = 0 then -1 else if J.1 = 1 then mis u else 0) ∧ C 0 14 = (if J.1 = 0 then J.2.1 else h 0 14) ∧ C 0 15 = (if J.1 = 0 then J.2.2 else h 0 15) := by
    unfold fX5_read fX3_size
    rw [Option.bind_some, x1, Option.bind_some]
    dsimp only
    rw [wr_of (z := J.1) (by omega) (by omega)]
    by_cases q0 : J.1 = 0
    · obtain ⟨y1, y2⟩ := x2 q0
      rw [if_pos q0, if_pos q0, if_pos q0, if_pos q0]
      refine ⟨_, rfl, fun a b h18 h0 => ?_, by simp [hs_at], by simp [hs_at, y1], by simp [hs_at, y2]⟩
      by_cases a0 : a = 0
      · subst a0
        have b13 : b ≠ 13 := fun k => h0 ⟨rfl, by omega⟩
        have b14 : b ≠ 14 := fun k => h0 ⟨rfl, by omega⟩
        have b15 : b ≠ 15 := fun k => h0 ⟨rfl, by omega⟩
        simp only [hs_at]
        simp only [b13, b14, b15, if_false, if_true]
        exact x3 0 b (by decide) (fun k => h0 ⟨rfl, by omega⟩)
      · rw [hs_ne _ _ _ a0, hs_ne _ _ _ a0, hs_ne _ _ _ a0]
        exact x3 a b h18 (fun k => a0 k.1)
    · have e14 : X 0 14 = h 0 14 := x3 0 14 (by decide) (by omega)
      have e15 : X 0 15 = h 0 15 := x3 0 15 (by decide) (by omega)
      have key : ∀ v : Int, ∃ C, fX5_read_b58 J.1 v X = some (J.1, C) ∧ (∀ (a : Nat) (b : Int), a ≠ 18 → ¬ (a = 0 ∧ (11 ≤ b ∧ b ≤ 15)) → C a b = h a b) ∧ C 0 13 = v ∧ C 0 14 = h 0 14 ∧ C 0 15 = h 0 15 := fun v => by
        unfold fX5_read_b58
        refine ⟨_, rfl, fun a b h18 h0 => ?_, by simp [hs_at], by simp [hs_at, e14], by simp [hs_at, e15]⟩
        rw [hs_at]
        by_cases a0 : a = 0
        · subst a0
          rw [if_pos rfl, if_neg (fun k => h0 ⟨rfl, by omega⟩)]
          exact x3 0 b (by decide) (fun k => h0 ⟨rfl, by omega⟩)
        · rw [if_neg a0]
          exact x3 a b h18 (fun k => a0 k.1)
      rw [if_neg q0, if_neg q0, if_neg q0, if_neg q0]
      by_cases q1 : J.1 = 1
      · rw [if_pos q1, if_pos q1]
        unfold fX2_misfit
        rw [Option.bind_some, x4 q1]
        exact key _
      · rw [if_neg q1, if_neg q1]
        exact key 0
  obtain ⟨C, c1, c2, c3, c4, c5⟩ := c1
  have qC : zqm C h := fun a b ha hn => c2 a b (by omega) (by omega)
  have qC0 : zqm (hs C 30 0 0) h := qC.h30 0
  obtain ⟨Y, y1, y2, y3, y4, y5⟩ := judgeR w qC0 ub (b0 := 0) (by omega) (by omega) ut
  rw [← eJ] at y1 y2 y5
  rw [Int.zero_add, ul] at y1
  rw [Int.zero_add] at y5
  have e13 : hs C 30 0 0 30 13 = h 19 1 := by rw [qC0.c30 (by decide), w.T.n2]
  have r1 : ∃ o, fX6_read C = some (J.1, o) ∧ (∀ a : Nat, a ≠ 36 → a ≠ 30 → o a = C a) ∧ (∀ b : Int, b ≠ 0 → ¬ (14 ≤ b ∧ b ≤ 16) → ¬ (18 ≤ b ∧ b ≤ 21) → o 30 b = C 30 b) ∧ o 30 14 = (if J.1 = 0 then -1 else if J.1 = 1 then mis u else 0) ∧ o 30 15 = (if J.1 = 0 then J.2.1 else h 30 15) ∧ o 30 16 = (if J.1 = 0 then J.2.2 else h 30 16) := by
    unfold fX6_read fX6_read_b28
    rw [e13, y1, Option.bind_some]
    dsimp only
    rw [wr_of (z := J.1) (by omega) (by omega)]
    have Yo : ∀ a : Nat, a ≠ 36 → a ≠ 30 → Y a = C a := fun a h1 h2 => by rw [y3 a h1 h2, hs_ne _ _ _ h2]
    have Yb : ∀ b : Int, b ≠ 0 → ¬ (18 ≤ b ∧ b ≤ 21) → Y 30 b = C 30 b := fun b h1 h2 => by rw [y4 b h2, hs_at, if_pos rfl, if_neg h1]
    by_cases q0 : J.1 = 0
    · obtain ⟨z1, z2⟩ := y2 q0
      rw [if_pos q0, if_pos q0, if_pos q0, if_pos q0, if_pos q0]
      refine ⟨_, rfl, fun a h1 h2 => by rw [hs_ne _ _ _ h2, hs_ne _ _ _ h2, hs_ne _ _ _ h2, Yo a h1 h2], fun b b0 h1 h2 => ?_, by simp [hs_at], by simp [hs_at, z1], by simp [hs_at, z2]⟩
      have b14 : b ≠ 14 := by omega
      have b15 : b ≠ 15 := by omega
      have b16 : b ≠ 16 := by omega
      simp only [hs_at]
      simp only [b14, b15, b16, if_false, if_true]
      exact Yb b b0 h2
    · have e15 : Y 30 15 = h 30 15 := by rw [Yb 15 (by decide) (by decide), qC.c30 (by decide)]
      have e16 : Y 30 16 = h 30 16 := by rw [Yb 16 (by decide) (by decide), qC.c30 (by decide)]
      rw [if_neg q0, if_neg q0, if_neg q0, if_neg q0, if_neg q0, y5]
      refine ⟨_, rfl, fun a h1 h2 => by rw [hs_ne _ _ _ h2, Yo a h1 h2], fun b b0 h1 h2 => by rw [hs_at, if_pos rfl, if_neg (by omega), Yb b b0 h2], by simp [hs_at], by simp [hs_at, e15], by simp [hs_at, e16]⟩
  obtain ⟨o, o1, o2, o3, o4, o5, o6⟩ := r1
  unfold fL_c9
  rw [c1, Option.bind_some, o1, Option.bind_some]
  refine ⟨o, if_pos rfl, w.errs ?_ (fun a b hn h0 h30 => ?_)⟩
  · have oc : o 0 = C 0 := o2 0 (by decide) (by decide)
    obtain ⟨p1, p2, p3⟩ := id w.E
    by_cases q0 : J.1 = 0
    · obtain ⟨k1, k2, k3⟩ := j0 q0
      rw [if_pos q0] at o4 o5 o6 c3 c4 c5
      unfold PsE
      rw [oc, o4, o5, o6, c3, c4, c5]
      exact ⟨⟨rfl, by omega, by omega⟩, ⟨rfl, by omega, by omega⟩, ⟨rfl, by omega, by omega⟩⟩
    · rw [if_neg q0] at o4 o5 o6 c3 c4 c5
      by_cases q1 : J.1 = 1
      · rw [if_pos q1] at o4 c3
        unfold PsE
        rw [oc, o4, o5, o6, c3, c4, c5]
        exact ⟨⟨rfl, by omega, by omega⟩, p2, p3⟩
      · rw [if_neg q1] at o4 c3
        unfold PsE
        rw [oc, o4, o5, o6, c3, c4, c5]
        exact ⟨⟨rfl, by omega, by omega⟩, p2, p3⟩
  · by_cases a30 : a = 30
    · subst a30
      rw [o3 b (fun k => hn (Or.inr (Or.inr ⟨rfl, Or.inl k⟩))) (fun k => h30 ⟨rfl, k⟩) (fun k => hn (Or.inr (Or.inr ⟨rfl, by omega⟩)))]
      exact qC 30 b (by decide) hn
    · rw [o2 a (fun k => hn (Or.inl (by omega))) a30]
      refine c2 a b (fun k => hn (Or.inl (by omega))) (fun k => ?_)
      by_cases hb : b ≤ 12
      · exact hn (Or.inr (Or.inl ⟨k.1, by omega⟩))
      · exact h0 ⟨k.1, by omega⟩
end ZCASE9
end
section
section ZSCAN
/-! words of a text -/
def wdB (h : HS) (p : Int) : Bool := decide ((0 ≤ p ∧ p < h 19 1) ∧ h 20 p ≠ 32 ∧ h 20 p ≠ 40 ∧ h 20 p ≠ 41)
theorem wdB_t {h : HS} {p : Int} : wdB h p = true ↔ (0 ≤ p ∧ p < h 19 1) ∧ h 20 p ≠ 32 ∧ h 20 p ≠ 40 ∧ h 20 p ≠ 41 := by
  unfold wdB
  rw [decide_eq_true_iff]
theorem wdB_f {h : HS} {p : Int} : wdB h p = false ↔ ¬ ((0 ≤ p ∧ p < h 19 1) ∧ h 20 p ≠ 32 ∧ h 20 p ≠ 40 ∧ h 20 p ≠ 41) := by
  unfold wdB
  rw [decide_eq_false_iff_not]
theorem cX3_word {h : HS} (w : PcT h) {p : Int} (hp : zr p) : fX3_isOfWord p h = some (if wdB h p = true then 1 else 0) := by
  have n := w.1
  unfold fX3_isOfWord fX3_get
  rw [wr_of hp.1 hp.2, wr_of (z := h 19 1) (by omega) (by omega)]
  by_cases q0 : p < 0
  · rw [if_pos q0, Option.bind_some, if_pos (show wr (-1) = -1 by decide), if_neg (fun k => by have := wdB_t.mp k; omega)]
  · rw [if_neg q0]
    by_cases q1 : h 19 1 ≤ p
    · rw [if_pos q1, Option.bind_some, if_pos (show wr (-1) = -1 by decide), if_neg (fun k => by have := wdB_t.mp k; omega)]
    · have b := w.2 p (by omega) (by omega)
      rw [if_neg q1, if_pos (by omega), Option.bind_some, wr_of (z := h 20 p) (by omega) (by omega), if_neg (by omega)]
      by_cases q2 : h 20 p = 32
      · rw [if_pos q2, if_neg (fun k => (wdB_t.mp k).2.1 q2)]
      · rw [if_neg q2]
        by_cases q3 : h 20 p = 40
        · rw [if_pos q3, if_neg (fun k => (wdB_t.mp k).2.2.1 q3)]
        · rw [if_neg q3]
          by_cases q4 : h 20 p = 41
          · rw [if_pos q4, if_neg (fun k => (wdB_t.mp k).2.2.2 q4)]
          · rw [if_neg q4, if_pos (wdB_t.mpr ⟨by omega, q2, q3, q4⟩)]
theorem cX3_start {h : HS} (w : PcT h) {p : Int} (hp : 0 ≤ p ∧ p ≤ 2000) : fX3_isWordStart p h = some (if wdB h p = true ∧ wdB h (p - 1) = false then 1 else 0) := by
  unfold fX3_isWordStart
  rw [cX3_word w (by unfold zr; omega), cX3_word w (by unfold zr; omega), Option.bind_some]
  by_cases q : wdB h p = true
  · rw [if_pos q, if_neg (show ¬ wr 1 = 0 by decide), Option.bind_some]
    by_cases q2 : wdB h (p - 1) = true
    · rw [if_pos q2, if_neg (show ¬ wr 1 = 0 by decide), if_neg (fun k => by rw [k.2] at q2; exact absurd q2 (by decide))]
    · rw [if_neg q2, if_pos wr_0, if_pos ⟨q, Bool.eq_false_iff.mpr q2⟩]
  · rw [if_neg q, if_pos wr_0, if_neg (fun k => q k.1)]
def weN (h : HS) : Nat → Int → Int
  | 0, p => p
  | m + 1, p => if wdB h p = true then weN h m (p + 1) else p
theorem weN_rg {h : HS} : ∀ {m : Nat} {p : Int}, p ≤ weN h m p ∧ weN h m p ≤ p + m ∧ (∀ i : Int, p ≤ i → i < weN h m p → wdB h i = true)
  | 0, p => ⟨Int.le_refl _, by show p ≤ p + 0; omega, fun i i0 i1 => by have : i < p := i1; omega⟩
  | m + 1, p => by
    unfold weN
    by_cases q : wdB h p = true
    · rw [if_pos q]
      obtain ⟨a, b, c⟩ := @weN_rg h m (p + 1)
      refine ⟨by omega, by omega, fun i i0 i1 => ?_⟩
      rcases (show i = p ∨ p + 1 ≤ i by omega) with k | k
      · rw [k]; exact q
      · exact c i k i1
    · rw [if_neg q]
      exact ⟨Int.le_refl _, by omega, fun i i0 i1 => by omega⟩
theorem weN_end {h : HS} : ∀ {m : Nat} {p : Int}, h 19 1 ≤ p + m → wdB h (weN h m p) = false
  | 0, p, e => wdB_f.mpr (fun k => by
    have e2 : h 19 1 ≤ p := by omega
    have k2 : p < h 19 1 := k.1.2
    omega)
  | m + 1, p, e => by
    unfold weN
    by_cases q : wdB h p = true
    · rw [if_pos q]
      exact weN_end (by omega)
    · rw [if_neg q]
      exact Bool.eq_false_iff.mpr q
theorem cX3_end {h : HS} (w : PcT h) : ∀ (nf m : Nat) (p : Int), 0 ≤ p → p + m = h 19 1 → m < nf → fX3_wordEnd_L2 nf p h = some (weN h m p)
  | 0, m, p, p0, e, hnf => by omega
  | nf + 1, m, p, p0, e, hnf => by
    have n := w.1
    rw [fX3_wordEnd_L2]
    rw [wr_of (z := h 19 1) (by omega) (by omega), wr_of (z := p) (by omega) (by omega), cX3_word w (by unfold zr; omega), Option.bind_some]
    cases m with
    | zero =>
      rw [if_pos (by omega)]
      rfl
    | succ m =>
      rw [if_neg (by omega)]
      show _ = some (if wdB h p = true then weN h m (p + 1) else p)
      by_cases q : wdB h p = true
      · rw [if_pos q, if_neg (show ¬ wr 1 = 0 by decide), if_pos q]
        exact cX3_end w nf m (p + 1) (by omega) (by omega) (by omega)
      · rw [if_neg q, if_pos wr_0, if_neg q]
theorem mX6_word {V g : HS} (w : Psi V) (e : zqm g V) {p : Int} (hp : 0 ≤ p ∧ p ≤ 2000) : fX6_isWord p g = some (if wdB V p = true then 1 else 0) := by
  have n := w.T.n
  unfold fX6_isWord
  rw [e.c30 (b := 13) (by decide), w.T.n2, e.c (a := 39) (by decide), wr_of (z := V 19 1) (by omega) (by omega), wr_of (z := p) (by omega) (by omega)]
  by_cases q1 : V 19 1 ≤ p
  · rw [if_pos q1, if_neg (fun k => by have := wdB_t.mp k; omega)]
  · obtain ⟨b1, b2, b3⟩ := w.T.by_ p hp.1 (by omega)
    have hp2 : 0 ≤ p ∧ p < 2000 := by omega
    rw [if_neg q1, if_pos hp2, b1, wr_of (z := V 20 p) (by omega) (by omega)]
    simp only [if_pos hp2]
    by_cases q2 : V 20 p = 32
    · rw [if_pos q2, if_neg (fun k => (wdB_t.mp k).2.1 q2)]
    · rw [if_neg q2]
      by_cases q3 : V 20 p = 40
      · rw [if_pos q3, if_neg (fun k => (wdB_t.mp k).2.2.1 q3)]
      · rw [if_neg q3]
        by_cases q4 : V 20 p = 41
        · rw [if_pos q4, if_neg (fun k => (wdB_t.mp k).2.2.2 q4)]
        · rw [if_neg q4, if_pos (wdB_t.mpr ⟨by omega, q2, q3, q4⟩)]
/-! the class's cells of one state, the reference's of another -/
def mg (C G : HS) : HS := fun a => if a < 30 then C a else G a
theorem mg_l {C G : HS} {a : Nat} (ha : a < 30) : mg C G a = C a := by
  unfold mg
  rw [if_pos ha]
theorem mg_r {C G : HS} {a : Nat} (ha : 30 ≤ a) : mg C G a = G a := by
  unfold mg
  rw [if_neg (by omega)]
theorem mg_qm {C G : HS} : zqm G (mg C G) := fun a b ha _ => by rw [mg_r ha]
theorem mg_qc {C G : HS} (e : C 34 = G 34) : zqc C (mg C G) := fun a b ha _ => by
  rcases ha with ha | ha
  · rw [mg_l ha]
  · subst ha
    rw [mg_r (by decide), e]
theorem knF_cg {o h : HS} (e11 : o 11 = h 11) (e12 : o 12 = h 12) (e16 : o 16 = h 16) (e17 : o 17 = h 17) {i f t : Int} : ∀ (m k : Nat), knF o i f t m k = knF h i f t m k
  | 0, k => rfl
  | m + 1, k => by
    unfold knF
    rw [kid_cg (fun i => by rw [e16]) (fun i => by rw [e17]), e11, e12, knF_cg e11 e12 e16 e17 m (k + 1)]
theorem knV_qc {o h : HS} (e : zqc o h) {f t : Int} : knV o f t = knV h f t := by
  unfold knV
  rw [e.c0 (b := 8) (by decide), e.c (a := 15) (by decide)]
  exact knF_cg (e.c (by decide)) (e.c (by decide)) (e.c (by decide)) (e.c (by decide)) _ _
theorem grA_qc {o h : HS} (e : zqc o h) {f t : Int} : zqc (grA f t o) (grA f t h) := fun a b ha hn => by
  have e0 := e.c0 (b := 8) (by decide)
  have e9 : o 9 = h 9 := e.c (by decide)
  have ek : ∀ i j, kid o i j = kid h i j := fun i j => kid_cg (fun i => by rw [e.c (a := 16) (by decide)]) (fun i => by rw [e.c (a := 17) (by decide)]) i j
  unfold grA
  rw [e0, e9, ek, e.c (a := 10) (by decide), e.c (a := 11) (by decide), e.c (a := 12) (by decide), e.c (a := 13) (by decide), e.c (a := 14) (by decide), e.c (a := 15) (by decide), e.c (a := 16) (by decide), e.c (a := 17) (by decide), e.c (a := 8) (by decide)]
  by_cases h1 : a = 9
  · rw [if_pos h1, if_pos h1]
  rw [if_neg h1, if_neg h1]
  by_cases h2 : a = 10
  · rw [if_pos h2, if_pos h2]
  rw [if_neg h2, if_neg h2]
  by_cases h3 : a = 11
  · rw [if_pos h3, if_pos h3]
  rw [if_neg h3, if_neg h3]
  by_cases h4 : a = 12
  · rw [if_pos h4, if_pos h4]
  rw [if_neg h4, if_neg h4]
  by_cases h5 : a = 13
  · rw [if_pos h5, if_pos h5]
  rw [if_neg h5, if_neg h5]
  by_cases h6 : a = 14
  · rw [if_pos h6, if_pos h6]
  rw [if_neg h6, if_neg h6]
  by_cases h7 : a = 15
  · rw [if_pos h7, if_pos h7]
  rw [if_neg h7, if_neg h7]
  by_cases h8 : a = 16
  · rw [if_pos h8, if_pos h8]
  rw [if_neg h8, if_neg h8]
  by_cases h9 : a = 17
  · rw [if_pos h9, if_pos h9]
  rw [if_neg h9, if_neg h9, if_neg (show ¬ a = 30 by omega), if_neg (show ¬ a = 30 by omega), if_neg (show ¬ a = 37 by omega), if_neg (show ¬ a = 37 by omega), if_neg (show ¬ a = 38 by omega), if_neg (show ¬ a = 38 by omega)]
  exact e a b ha hn
theorem folT_qc {o h : HS} (e : zqc o h) {f t : Int} : zqc (folT f t o) (folT f t h) ∧ folP f t o = folP f t h := by
  unfold folT folP
  rw [knV_qc e]
  by_cases q : knV h f t = -1
  · rw [if_pos q, if_pos q, if_pos q, if_pos q, e.c (a := 9) (by decide)]
    exact ⟨grA_qc e, rfl⟩
  · rw [if_neg q, if_neg q, if_neg q, if_neg q]
    exact ⟨e, rfl⟩
theorem mC_qc {X T T2 h : HS} {p : Int} (x : mC X T p h) (e : zqc T T2) : mC X T2 p h := ⟨fun a b ha hn hm => by rw [x.1 a b ha hn hm, e a b (Or.inl ha) hn], x.2.1, fun s s0 s1 => by rw [x.2.2.1 s s0 s1, bd_qc e], x.2.2.2⟩
end ZSCAN
end
section
section ZRGAME
/-! a game is read -/
abbrev rgI (C G : HS) (op mv : Int) (p : Nat) : Prop := Psi (mg C G) ∧ C 34 = G 34 ∧ (C 0 9 = op ∧ C 0 10 = mv ∧ C 0 13 = -1 ∧ G 30 14 = -1) ∧ (mv = 0 ∨ (mv = 1 ∧ 1 ≤ op)) ∧ (0 ≤ op ∧ op ≤ p) ∧ (∀ i : Int, 0 ≤ i → i < op → C 24 i = G 42 i ∧ 0 ≤ C 24 i ∧ C 24 i < C 9 8)
abbrev rgR (x : Option (Int × HS)) (y : Option (Int × HS)) (C G : HS) : Prop := ∃ e C1 G1, x = some (e, C1) ∧ y = some (e, G1) ∧ Psi (mg C1 G1) ∧ C1 34 = G1 34 ∧ (∀ a : Nat, a < 30 → G1 a = G a) ∧ (∀ a : Nat, 30 ≤ a → C1 a = C a)
theorem hs_id {h : HS} {a : Nat} {b v : Int} (e : h a b = v) : hs h a b v = h := by
  funext c d
  rw [hs_at]
  by_cases h1 : c = a
  · subst h1
    rw [if_pos rfl]
    by_cases h2 : d = b
    · rw [if_pos h2, h2, e]
    · rw [if_neg h2]
  · rw [if_neg h1]
theorem wdB_cg {o h : HS} (e1 : o 19 1 = h 19 1) (e2 : o 20 = h 20) (p : Int) : wdB o p = wdB h p := by
  unfold wdB
  rw [e1, e2]
theorem rg_err {C G : HS} (w : Psi (mg C G)) {p : Int} (hp : -1 ≤ p ∧ p ≤ 5000) : Psi (mg (hs C 0 13 p) (hs G 30 14 p)) := by
  have e0 : ∀ b, b ≠ 13 → mg (hs C 0 13 p) (hs G 30 14 p) 0 b = mg C G 0 b := fun b hb => by
    rw [mg_l (by decide), mg_l (by decide), hs_at, if_pos rfl, if_neg hb]
  have e30 : ∀ b, b ≠ 14 → mg (hs C 0 13 p) (hs G 30 14 p) 30 b = mg C G 30 b := fun b hb => by
    rw [mg_r (by decide), mg_r (by decide), hs_at, if_pos rfl, if_neg hb]
  have e13 : mg (hs C 0 13 p) (hs G 30 14 p) 0 13 = p := by rw [mg_l (by decide), hs_self]
  have e14 : mg (hs C 0 13 p) (hs G 30 14 p) 30 14 = p := by rw [mg_r (by decide), hs_self]
  refine w.errs ?_ (fun a b hn h0 h30 => ?_)
  · unfold PsE
    rw [e13, e14, e0 14 (by decide), e0 15 (by decide), e30 15 (by decide), e30 16 (by decide)]
    exact ⟨⟨rfl, by omega, by omega⟩, w.E.e2, w.E.e3⟩
  · by_cases a0 : a = 0
    · subst a0
      exact e0 b (fun k => h0 ⟨rfl, by omega⟩)
    · by_cases a30 : a = 30
      · subst a30
        exact e30 b (fun k => h30 ⟨rfl, by omega⟩)
      · by_cases ha : a < 30
        · rw [mg_l ha, mg_l ha, hs_ne _ _ _ a0]
        · rw [mg_r (by omega), mg_r (by omega), hs_ne _ _ _ a30]
theorem L23_err {nf : Nat} {e x : Int} {H : HS} (he : 1 ≤ e ∧ e ≤ 9) : fX5_readGame_L23 (nf + 1) e x H = some (e, H) := by
  rw [fX5_readGame_L23]
  unfold fX5_readGame_b151
  have we := wr_of (z := e) (by omega) (by omega)
  have wn : ¬ wr e = 0 := by omega
  unfold fX3_size
  rw [Option.bind_some, if_neg wn, if_neg wn, ite_self]
/-- an error ends it, on both sides -/
theorem rg_stop {C G : HS} {nf : Nat} {e : Int} {p : Nat} (w : Psi (mg C G)) (e34 : C 34 = G 34) (he : 1 ≤ e ∧ e ≤ 9) (hp : (p : Int) ≤ 5000) : rgR (fX5_readGame_b132 (fun a0 a1 hh => fX5_readGame_L23 (nf + 1) a0 a1 hh) e (p : Int) C) ((fX6_stop e (p : Int) G).bind fun r => some (r.1, r.2)) C G := by
  have we := wr_of (z := e) (by omega) (by omega)
  refine ⟨e, hs C 0 13 (p : Int), hs G 30 14 (p : Int), ?_, rfl, rg_err w ⟨by omega, hp⟩, by rw [hs_ne _ _ _ (by decide), hs_ne _ _ _ (by decide), e34], fun a ha => by rw [hs_ne _ _ _ (by omega)], fun a ha => by rw [hs_ne _ _ _ (by omega)]⟩
  unfold fX5_readGame_b132 fX5_readGame_b142
  rw [if_neg (by omega)]
  exact L23_err he
theorem zk_of {V g : HS} (w : Psi V) (e8 : g 30 8 = V 9 8) : zk g = (V 9 8 - 1).toNat ∧ (1 ≤ g 30 8 ∧ g 30 8 ≤ 200) := by
  have n := w.R.n
  unfold zk
  rw [e8]
  exact ⟨rfl, n⟩
/-- the place behind the text -/
theorem rg_end {C G : HS} {op mv : Int} {p nfC nfR : Nat} (I : rgI C G op mv p) (hp : (p : Int) = C 19 1) : rgR (fX5_readGame_L23 (nfC + 1) 0 (p : Int) C) (fX6_readGame_L20 (nfR + 1) op mv (p : Int) G) C G := by
  obtain ⟨w, e34, ⟨i1, i2, i3, i4⟩, i5, i6, i7⟩ := I
  have qm : zqm G (mg C G) := mg_qm
  have n := w.T.n
  have nC : mg C G 19 1 = C 19 1 := by rw [mg_l (by decide)]
  have e13 : G 30 13 = C 19 1 := by rw [qm.c30 (b := 13) (by decide), w.T.n2, nC]
  obtain ⟨z1, z2⟩ := zk_of w (g := G) (by rw [qm.c30 (b := 8) (by decide), w.R.n2])
  rw [fX5_readGame_L23, fX6_readGame_L20]
  unfold fX5_readGame_b151 fX3_size fX6_readGame_b267
  rw [Option.bind_some, Option.bind_some, i1, if_pos z2, if_pos z2, e13, wr_of (z := C 19 1) (by omega) (by omega), wr_of (z := (p : Int)) (by omega) (by omega), if_pos (show C 19 1 ≤ (p : Int) by omega), if_pos wr_0, if_pos (show C 19 1 ≤ (p : Int) by omega), wr_of (z := op) (by omega) (by omega), wr_of (z := mv) (by omega) (by omega), if_pos (Nat.le_refl _)]
  by_cases q : op ≤ 0
  · rw [if_pos q, if_pos (show mv = 0 by omega), if_pos q]
    exact ⟨0, C, G, rfl, rfl, w, e34, fun _ _ => rfl, fun _ _ => rfl⟩
  · rw [if_neg q, if_neg q, ite_self]
    exact ⟨8, hs C 0 13 (C 19 1), hs G 30 14 (C 19 1), rfl, rfl, rg_err w (by omega), by rw [hs_ne _ _ _ (by decide), hs_ne _ _ _ (by decide), e34], fun a ha => by rw [hs_ne _ _ _ (by omega)], fun a ha => by rw [hs_ne _ _ _ (by omega)]⟩
/-- a bracket that opens -/
theorem rg_open {C G : HS} {op mv : Int} {p nfC nfR : Nat} (I : rgI C G op mv p) (hp : (p : Int) < C 19 1) (hv : C 20 p = 40) (next : ∀ C2 G2 op2 mv2, rgI C2 G2 op2 mv2 (p + 1) → C2 19 = C 19 → C2 20 = C 20 → (∀ a : Nat, a < 30 → G2 a = G a) → (∀ a : Nat, 30 ≤ a → C2 a = C a) → rgR (fX5_readGame_L23 (nfC + 1) 0 ((p + 1 : Nat) : Int) C2) (fX6_readGame_L20 nfR op2 mv2 ((p + 1 : Nat) : Int) G2) C G) : rgR (fX5_readGame_L23 (nfC + 2) 0 (p : Int) C) (fX6_readGame_L20 (nfR + 1) op mv (p : Int) G) C G := by
  obtain ⟨w, e34, ⟨i1, i2, i3, i4⟩, i5, i6, i7⟩ := id I
  have qm : zqm G (mg C G) := mg_qm
  have wc : PsiC C := w.cc.sq (mg_qc e34)
  have n := wc.T.1
  have np := wc.P.n
  have n1 := wc.R.n
  have e13 : G 30 13 = C 19 1 := by rw [qm.c30 (b := 13) (by decide), w.T.n2, mg_l (by decide)]
  have e39 : G 39 p = 40 := by rw [qm.c (a := 39) (by decide), (w.T.by_ (p : Int) (by omega) (by rw [mg_l (by decide)]; omega)).1, mg_l (by decide), hv]
  have e9 : G 30 9 = C 0 8 := by rw [qm.c30 (b := 9) (by decide), w.P.n.2, mg_l (by decide)]
  have e37 : G 37 = mg C G 37 := qm.c (by decide)
  obtain ⟨z1, z2⟩ := zk_of w (g := G) (by rw [qm.c30 (b := 8) (by decide), w.R.n2])
  rw [fX5_readGame_L23, fX6_readGame_L20]
  unfold fX3_size fX6_readGame_b57
  rw [Option.bind_some, if_pos z2, if_pos z2, e13, wr_of (z := C 19 1) (by omega) (by omega), wr_of (z := (p : Int)) (by omega) (by omega), if_neg (by omega), if_pos wr_0, if_neg (by omega), ucX3_get n.2 ⟨by omega, hp⟩, Option.bind_some, hv, if_pos (show wr 40 = 40 by decide), if_pos (show 0 ≤ (p : Int) ∧ (p : Int) < 2000 by omega), e39, if_pos (show wr 40 = 40 by decide), e9, wr_of (z := C 0 8) (by omega) (by omega), wr_of (z := mv) (by omega) (by omega), if_pos (Nat.le_refl _)]
  unfold fX5_openVariation
  rw [i1, i2, wr_of (z := mv) (by omega) (by omega), wr_of (z := C 0 8) (by omega) (by omega), wr_of (z := op) (by omega) (by omega)]
  by_cases q1 : mv = 0
  · rw [if_pos q1, if_pos q1]
    by_cases q2 : C 0 8 = 0
    · rw [if_pos q2, if_pos q2, Option.bind_some]
      exact rg_stop w e34 (by omega) (by omega)
    · have p1 : 1 ≤ C 0 8 := by omega
      obtain ⟨a1, a2, -⟩ := wc.P.t (C 0 8) p1 np.2
      have z9 : hs C 24 op (C 0 8) 0 9 = op := by rw [hs_ne _ _ _ (by decide), i1]
      obtain ⟨S, eS⟩ : ∃ S, S = hs (hs C 24 op (C 0 8)) 0 9 (op + 1) := ⟨_, rfl⟩
      have Sne : ∀ a : Nat, a ≠ 24 → a ≠ 0 → S a = C a := fun a h1 h2 => by rw [eS, hs_ne _ _ _ h2, hs_ne _ _ _ h1]
      have S0 : ∀ b : Int, b ≠ 9 → S 0 b = C 0 b := fun b hb => by rw [eS, hs_at, if_pos rfl, if_neg hb, hs_ne _ _ _ (by decide)]
      have S09 : S 0 9 = op + 1 := by rw [eS, hs_self]
      have S24 : ∀ i : Int, S 24 i = if i = op then C 0 8 else C 24 i := fun i => by rw [eS, hs_ne _ _ _ (by decide), hs_at, if_pos rfl]
      have qS : zqc S C := fun a b ha hn => by
        by_cases a0 : a = 0
        · subst a0
          exact S0 b (fun k => hn (Or.inr (Or.inl ⟨rfl, Or.inl k⟩)))
        · rw [Sne a (fun k => hn (Or.inl (by omega))) a0]
      have wS : PsiC S := wc.sq qS
      have eup := stepUp_at wS (p := C 0 8) p1 (by rw [Sne 9 (by decide) (by decide)]; exact np.2)
      have eself := atN_self wS
      rw [S0 8 (by decide)] at eself
      rw [eself, Sne 10 (by decide) (by decide)] at eup
      obtain ⟨q, eq⟩ : ∃ q, q = C 10 (C 0 8) := ⟨_, rfl⟩
      rw [← eq] at eup a1
      rw [if_neg q2, if_neg q2, if_pos (by omega), if_pos (by omega), z9, ← eS, eup, Option.bind_some, if_pos (Or.inr rfl), Option.bind_some, if_pos (by omega)]
      -- the reference
      obtain ⟨P, eP⟩ : ∃ P, P = hs G 42 op (C 0 8) := ⟨_, rfl⟩
      have Pne : ∀ a : Nat, a ≠ 42 → P a = G a := fun a h1 => by rw [eP, hs_ne _ _ _ h1]
      have P9 : P 30 9 = C 0 8 := by rw [Pne 30 (by decide), e9]
      rw [← eP, P9, (pX6_get w (g := P) (by rw [Pne 37 (by decide), e37]) (q := C 0 8) (by rw [mg_l (by decide)]; exact np)).1, Option.bind_some, mg_l (a := 10) (by decide), ← eq, hs_self]
      obtain ⟨G2, g1, g2, g3⟩ := set_at w (h6 := hs P 30 9 q) (by rw [hs_ne _ _ _ (by decide), Pne 34 (by decide), qm.c (a := 34) (by decide)]) (by rw [hs_ne _ _ _ (by decide), Pne 37 (by decide), e37]) (p := q) a1.1 (by rw [mg_l (by decide)]; omega)
      have zk2 : zk G2 = zk G := by
        unfold zk
        rw [g2 30 (by decide) (by decide), hs_at, if_pos rfl, if_neg (by decide), Pne 30 (by decide)]
      rw [g1, Option.bind_some, zk2, if_pos (Nat.le_refl _)]
      unfold fX5_readGame_b132 fX5_readGame_b142
      rw [if_pos wr_0]
      obtain ⟨C2, eC⟩ : ∃ C2, C2 = hs (hs (atN S q) 0 10 1) 0 13 (-1) := ⟨_, rfl⟩
      have C2ne : ∀ a : Nat, a ≠ 0 → a ≠ 8 → C2 a = S a := fun a h1 h2 => by rw [eC, hs_ne _ _ _ h1, hs_ne _ _ _ h1, atN_ne h2 h1]
      have C20 : ∀ b : Int, b ≠ 8 → b ≠ 10 → b ≠ 13 → C2 0 b = S 0 b := fun b h1 h2 h3 => by rw [eC, hs_at, if_pos rfl, if_neg h3, hs_at, if_pos rfl, if_neg h2, atN_0 h1]
      have C208 : C2 0 8 = q := by rw [eC, hs_at, if_pos rfl, if_neg (by decide), hs_at, if_pos rfl, if_neg (by decide), atN_08]
      have C210 : C2 0 10 = 1 := by rw [eC, hs_at, if_pos rfl, if_neg (by decide), hs_self]
      have C213 : C2 0 13 = -1 := by rw [eC, hs_self]
      have G2o : ∀ a : Nat, a ≠ 35 → a ≠ 40 → a ≠ 30 → a ≠ 42 → G2 a = G a := fun a h1 h2 h3 h4 => by rw [g2 a h1 h2, hs_ne _ _ _ h3, Pne a h4]
      have G230 : ∀ b : Int, b ≠ 9 → G2 30 b = G 30 b := fun b hb => by rw [g2 30 (by decide) (by decide), hs_at, if_pos rfl, if_neg hb, Pne 30 (by decide)]
      have bdS : bd S = bd (mg C G) := (bd_qc qS).trans (bd_qc (mg_qc e34))
      have wN : Psi (mg C2 G2) := by
        refine w.go (p := q) (by rw [mg_l (by decide)]; omega) (fun a b hn hm => ?_) (by rw [mg_l (by decide), C208]) (by rw [mg_r (by decide), g2 30 (by decide) (by decide), hs_self]) (fun s s0 s1 => ?_) (fun s s0 s1 => by rw [mg_r (by decide), g3 s s0 s1])
        · by_cases ha : a < 30
          · rw [mg_l ha, mg_l ha]
            by_cases a0 : a = 0
            · subst a0
              have h8 : b ≠ 8 := fun k => hm (Or.inr (Or.inr (Or.inl ⟨rfl, k⟩)))
              by_cases h13 : b = 13
              · rw [h13, C213, i3]
              · rw [C20 b h8 (fun k => hn (Or.inr (Or.inl ⟨rfl, by omega⟩))) h13, S0 b (fun k => hn (Or.inr (Or.inl ⟨rfl, by omega⟩)))]
            · rw [C2ne a a0 (fun k => hm (Or.inl k)), Sne a (fun k => hn (Or.inl (by omega))) a0]
          · rw [mg_r (by omega), mg_r (by omega)]
            by_cases a30 : a = 30
            · subst a30
              exact G230 b (fun k => hm (Or.inr (Or.inr (Or.inr ⟨rfl, k⟩))))
            · rw [G2o a (fun k => hm (Or.inr (Or.inl k))) (fun k => hn (Or.inl (by omega))) a30 (fun k => hn (Or.inl (by omega)))]
        · rw [mg_l (by decide), eC, hs_ne _ _ _ (by decide), hs_ne _ _ _ (by decide), atN_8 ⟨s0, s1⟩, bdS]
      have res := next C2 G2 (op + 1) 1 ⟨wN, ?_, ⟨?_, C210, C213, ?_⟩, Or.inr ⟨rfl, by omega⟩, by omega, fun i i0 i1 => ?_⟩ ?_ ?_ (fun a ha => G2o a (by omega) (by omega) (by omega) (by omega)) (fun a ha => by rw [C2ne a (by omega) (by omega), Sne a (by omega) (by omega)])
      · rw [eC] at res
        exact res
      · rw [C2ne 34 (by decide) (by decide), Sne 34 (by decide) (by decide), e34, G2o 34 (by decide) (by decide) (by decide) (by decide)]
      · rw [C20 9 (by decide) (by decide) (by decide), S09]
      · rw [G230 14 (by decide), i4]
      · have e42 : G2 42 i = if i = op then C 0 8 else G 42 i := by rw [g2 42 (by decide) (by decide), hs_ne _ _ _ (by decide), eP, hs_at, if_pos rfl]
        rw [C2ne 24 (by decide) (by decide), S24, e42, C2ne 9 (by decide) (by decide), Sne 9 (by decide) (by decide)]
        by_cases hi : i = op
        · rw [if_pos hi, if_pos hi]
          exact ⟨rfl, by omega, np.2⟩
        · rw [if_neg hi, if_neg hi]
          exact i7 i i0 (by omega)
      · rw [C2ne 19 (by decide) (by decide), Sne 19 (by decide) (by decide)]
      · rw [C2ne 20 (by decide) (by decide), Sne 20 (by decide) (by decide)]
  · rw [if_neg q1, if_neg q1, Option.bind_some]
    exact rg_stop w e34 (by omega) (by omega)
/-- a bracket that closes -/
theorem rg_close {C G : HS} {op mv : Int} {p nfC nfR : Nat} (I : rgI C G op mv p) (hp : (p : Int) < C 19 1) (hv : C 20 p = 41) (next : ∀ C2 G2 op2 mv2, rgI C2 G2 op2 mv2 (p + 1) → C2 19 = C 19 → C2 20 = C 20 → (∀ a : Nat, a < 30 → G2 a = G a) → (∀ a : Nat, 30 ≤ a → C2 a = C a) → rgR (fX5_readGame_L23 (nfC + 1) 0 ((p + 1 : Nat) : Int) C2) (fX6_readGame_L20 nfR op2 mv2 ((p + 1 : Nat) : Int) G2) C G) : rgR (fX5_readGame_L23 (nfC + 2) 0 (p : Int) C) (fX6_readGame_L20 (nfR + 1) op mv (p : Int) G) C G := by
  obtain ⟨w, e34, ⟨i1, i2, i3, i4⟩, i5, i6, i7⟩ := id I
  have qm : zqm G (mg C G) := mg_qm
  have wc : PsiC C := w.cc.sq (mg_qc e34)
  have n := wc.T.1
  have np := wc.P.n
  have n1 := wc.R.n
  have e13 : G 30 13 = C 19 1 := by rw [qm.c30 (b := 13) (by decide), w.T.n2, mg_l (by decide)]
  have e39 : G 39 p = 41 := by rw [qm.c (a := 39) (by decide), (w.T.by_ (p : Int) (by omega) (by rw [mg_l (by decide)]; omega)).1, mg_l (by decide), hv]
  have e37 : G 37 = mg C G 37 := qm.c (by decide)
  obtain ⟨z1, z2⟩ := zk_of w (g := G) (by rw [qm.c30 (b := 8) (by decide), w.R.n2])
  have hp2 : 0 ≤ (p : Int) ∧ (p : Int) < 2000 := by omega
  rw [fX5_readGame_L23, fX6_readGame_L20]
  unfold fX3_size fX6_readGame_b125
  rw [Option.bind_some, if_pos z2, if_pos z2, e13, wr_of (z := C 19 1) (by omega) (by omega), wr_of (z := (p : Int)) (by omega) (by omega), if_neg (by omega), if_pos wr_0, if_neg (by omega), ucX3_get n.2 ⟨by omega, hp⟩, Option.bind_some, Option.bind_some, hv, if_neg (show ¬ wr 41 = 40 by decide), if_pos (show wr 41 = 41 by decide), if_pos hp2, e39, if_neg (show ¬ wr 41 = 40 by decide), if_pos hp2, if_pos (show wr 41 = 41 by decide), wr_of (z := mv) (by omega) (by omega), wr_of (z := op) (by omega) (by omega), if_pos (Nat.le_refl _)]
  unfold fX5_closeVariation
  rw [i1, i2, wr_of (z := mv) (by omega) (by omega), wr_of (z := op) (by omega) (by omega)]
  by_cases q1 : mv = 0
  · rw [if_pos q1, if_pos q1]
    by_cases q2 : op ≤ 0
    · rw [if_pos q2, if_pos (show op = 0 by omega), Option.bind_some]
      exact rg_stop w e34 (by omega) (by omega)
    · obtain ⟨S, eS⟩ : ∃ S, S = hs C 0 9 (op - 1) := ⟨_, rfl⟩
      have Sne : ∀ a : Nat, a ≠ 0 → S a = C a := fun a h1 => by rw [eS, hs_ne _ _ _ h1]
      have S0 : ∀ b : Int, b ≠ 9 → S 0 b = C 0 b := fun b hb => by rw [eS, hs_at, if_pos rfl, if_neg hb]
      have S09 : S 0 9 = op - 1 := by rw [eS, hs_self]
      have qS : zqc S C := fun a b ha hn => by
        by_cases a0 : a = 0
        · subst a0
          exact S0 b (fun k => hn (Or.inr (Or.inl ⟨rfl, Or.inl k⟩)))
        · rw [Sne a a0]
      have wS : PsiC S := wc.sq qS
      obtain ⟨s1, s2, s3⟩ := i7 (op - 1) (by omega) (by omega)
      obtain ⟨q, eq⟩ : ∃ q, q = C 24 (op - 1) := ⟨_, rfl⟩
      rw [← eq] at s1 s2 s3
      have eself := atN_self wS
      rw [S0 8 (by decide)] at eself
      obtain ⟨v, ev⟩ := visit_at wS (p := q) (q := C 0 8) s2 (by rw [Sne 9 (by decide)]; exact s3) np.1 (by rw [Sne 9 (by decide)]; exact np.2)
      rw [eself] at ev
      rw [if_neg q2, if_neg (show ¬ op = 0 by omega), if_pos (by omega), ← eS, S09, Sne 24 (by decide), ← eq, if_pos (by omega), ev, Option.bind_some, Option.bind_some, if_pos (by omega), show op + -1 = op - 1 by omega, ← s1, hs_self]
      obtain ⟨G2, g1, g2, g3⟩ := set_at w (h6 := hs G 30 9 q) (by rw [hs_ne _ _ _ (by decide), qm.c (a := 34) (by decide)]) (by rw [hs_ne _ _ _ (by decide), e37]) (p := q) s2 (by rw [mg_l (by decide)]; exact s3)
      have zk2 : zk G2 = zk G := by
        unfold zk
        rw [g2 30 (by decide) (by decide), hs_at, if_pos rfl, if_neg (by decide)]
      rw [g1, Option.bind_some, zk2, if_pos (Nat.le_refl _)]
      unfold fX5_readGame_b132 fX5_readGame_b142
      rw [if_pos wr_0]
      obtain ⟨C2, eC⟩ : ∃ C2, C2 = hs (atN (h23 S v) q) 0 13 (-1) := ⟨_, rfl⟩
      have C2ne : ∀ a : Nat, a ≠ 0 → a ≠ 8 → a ≠ 23 → C2 a = S a := fun a h1 h2 h3 => by rw [eC, hs_ne _ _ _ h1, atN_ne h2 h1, h23_ne h3]
      have C20 : ∀ b : Int, b ≠ 8 → b ≠ 13 → C2 0 b = S 0 b := fun b h1 h3 => by rw [eC, hs_at, if_pos rfl, if_neg h3, atN_0 h1, h23_ne (by decide)]
      have C208 : C2 0 8 = q := by rw [eC, hs_at, if_pos rfl, if_neg (by decide), atN_08]
      have C213 : C2 0 13 = -1 := by rw [eC, hs_self]
      have G2o : ∀ a : Nat, a ≠ 35 → a ≠ 40 → a ≠ 30 → G2 a = G a := fun a h1 h2 h3 => by rw [g2 a h1 h2, hs_ne _ _ _ h3]
      have G230 : ∀ b : Int, b ≠ 9 → G2 30 b = G 30 b := fun b hb => by rw [g2 30 (by decide) (by decide), hs_at, if_pos rfl, if_neg hb]
      have bdS : bd (h23 S v) = bd (mg C G) := (bd_sq h23_sq).trans ((bd_qc qS).trans (bd_qc (mg_qc e34)))
      have wN : Psi (mg C2 G2) := by
        refine w.go (p := q) (by rw [mg_l (by decide)]; omega) (fun a b hn hm => ?_) (by rw [mg_l (by decide), C208]) (by rw [mg_r (by decide), g2 30 (by decide) (by decide), hs_self]) (fun s s0 s1 => ?_) (fun s s0 s1 => by rw [mg_r (by decide), g3 s s0 s1])
        · by_cases ha : a < 30
          · rw [mg_l ha, mg_l ha]
            by_cases a0 : a = 0
            · subst a0
              have h8 : b ≠ 8 := fun k => hm (Or.inr (Or.inr (Or.inl ⟨rfl, k⟩)))
              by_cases h13 : b = 13
              · rw [h13, C213, i3]
              · rw [C20 b h8 h13, S0 b (fun k => hn (Or.inr (Or.inl ⟨rfl, by omega⟩)))]
            · rw [C2ne a a0 (fun k => hm (Or.inl k)) (fun k => hn (Or.inl (by omega))), Sne a a0]
          · rw [mg_r (by omega), mg_r (by omega)]
            by_cases a30 : a = 30
            · subst a30
              exact G230 b (fun k => hm (Or.inr (Or.inr (Or.inr ⟨rfl, k⟩))))
            · rw [G2o a (fun k => hm (Or.inr (Or.inl k))) (fun k => hn (Or.inl (by omega))) a30]
        · rw [mg_l (by decide), eC, hs_ne _ _ _ (by decide), atN_8 ⟨s0, s1⟩, bdS]
      have res := next C2 G2 (op - 1) mv ⟨wN, ?_, ⟨?_, ?_, C213, ?_⟩, Or.inl q1, by omega, fun i i0 i1 => ?_⟩ ?_ ?_ (fun a ha => G2o a (by omega) (by omega) (by omega)) (fun a ha => by rw [C2ne a (by omega) (by omega) (by omega), Sne a (by omega)])
      · rw [eC] at res
        exact res
      · rw [C2ne 34 (by decide) (by decide) (by decide), Sne 34 (by decide), e34, G2o 34 (by decide) (by decide) (by decide)]
      · rw [C20 9 (by decide) (by decide), S09]
      · rw [C20 10 (by decide) (by decide), S0 10 (by decide), i2]
      · rw [G230 14 (by decide), i4]
      · rw [C2ne 24 (by decide) (by decide) (by decide), Sne 24 (by decide), G2o 42 (by decide) (by decide) (by decide), C2ne 9 (by decide) (by decide) (by decide), Sne 9 (by decide)]
        exact i7 i i0 (by omega)
      · rw [C2ne 19 (by decide) (by decide) (by decide), Sne 19 (by decide)]
      · rw [C2ne 20 (by decide) (by decide) (by decide), Sne 20 (by decide)]
  · rw [if_neg q1, if_neg q1, Option.bind_some]
    exact rg_stop w e34 (by omega) (by omega)
/-- a blank -/
theorem rg_blank {C G : HS} {op mv : Int} {p nfC nfR : Nat} (I : rgI C G op mv p) (hp : (p : Int) < C 19 1) (hv : C 20 p = 32) (next : ∀ C2 G2 op2 mv2, rgI C2 G2 op2 mv2 (p + 1) → C2 19 = C 19 → C2 20 = C 20 → (∀ a : Nat, a < 30 → G2 a = G a) → (∀ a : Nat, 30 ≤ a → C2 a = C a) → rgR (fX5_readGame_L23 (nfC + 1) 0 ((p + 1 : Nat) : Int) C2) (fX6_readGame_L20 nfR op2 mv2 ((p + 1 : Nat) : Int) G2) C G) : rgR (fX5_readGame_L23 (nfC + 2) 0 (p : Int) C) (fX6_readGame_L20 (nfR + 1) op mv (p : Int) G) C G := by
  obtain ⟨w, e34, ⟨i1, i2, i3, i4⟩, i5, i6, i7⟩ := id I
  have qm : zqm G (mg C G) := mg_qm
  have wc : PsiC C := w.cc.sq (mg_qc e34)
  have n := wc.T.1
  have e13 : G 30 13 = C 19 1 := by rw [qm.c30 (b := 13) (by decide), w.T.n2, mg_l (by decide)]
  have e39 : G 39 p = 32 := by rw [qm.c (a := 39) (by decide), (w.T.by_ (p : Int) (by omega) (by rw [mg_l (by decide)]; omega)).1, mg_l (by decide), hv]
  obtain ⟨z1, z2⟩ := zk_of w (g := G) (by rw [qm.c30 (b := 8) (by decide), w.R.n2])
  have hp2 : 0 ≤ (p : Int) ∧ (p : Int) < 2000 := by omega
  have hw : wdB C p = false := wdB_f.mpr (fun k => k.2.1 hv)
  rw [fX5_readGame_L23, fX6_readGame_L20]
  unfold fX3_size
  rw [Option.bind_some, if_pos z2, e13, wr_of (z := C 19 1) (by omega) (by omega), wr_of (z := (p : Int)) (by omega) (by omega), if_neg (by omega), if_pos wr_0, if_neg (by omega), ucX3_get n.2 ⟨by omega, hp⟩, Option.bind_some, Option.bind_some, hv, if_neg (show ¬ wr 32 = 40 by decide), if_neg (show ¬ wr 32 = 41 by decide), cX3_start wc.T (by omega), if_neg (show ¬ (wdB C p = true ∧ wdB C ((p : Int) - 1) = false) from fun k => by rw [hw] at k; exact absurd k.1 (by decide)), Option.bind_some, if_pos wr_0, if_pos hp2, e39, if_neg (show ¬ wr 32 = 40 by decide), if_pos hp2, if_neg (show ¬ wr 32 = 41 by decide), if_pos hp2, if_pos (show wr 32 = 32 by decide), if_pos (Nat.le_refl _)]
  unfold fX5_readGame_b132 fX5_readGame_b142
  rw [if_pos wr_0, hs_id i3]
  exact next C G op mv ⟨w, e34, ⟨i1, i2, i3, i4⟩, i5, by omega, i7⟩ rfl rfl (fun _ _ => rfl) (fun _ _ => rfl)
end ZRGAME
end
section
section ZRWORD
theorem rgR_tr {x y : Option (Int × HS)} {X Y C G : HS} (r : rgR x y X Y) (h : ∀ a : Nat, a < 30 → Y a = G a) (h2 : ∀ a : Nat, 30 ≤ a → X a = C a) : rgR x y C G := by
  obtain ⟨e, C1, G1, a1, a2, a3, a4, a5, a6⟩ := r
  exact ⟨e, C1, G1, a1, a2, a3, a4, fun a ha => by rw [a5 a ha, h a ha], fun a ha => by rw [a6 a ha, h2 a ha]⟩
theorem weN_cg {o h : HS} (e1 : o 19 1 = h 19 1) (e2 : o 20 = h 20) : ∀ (m : Nat) (p : Int), weN o m p = weN h m p
  | 0, p => rfl
  | m + 1, p => by
    unfold weN
    rw [wdB_cg e1 e2, weN_cg e1 e2 m (p + 1)]
theorem midW {H : HS} (w : PcT H) (h13 : H 0 13 = -1) : ∀ (k nf : Nat) (q : Int), 0 ≤ q → (∀ i : Int, q ≤ i → i < q + k → wdB H i = true ∧ wdB H (i - 1) = true) → fX5_readGame_L23 (nf + k) 0 q H = fX5_readGame_L23 nf 0 (q + k) H
  | 0, nf, q, q0, h => by rw [show q + ((0 : Nat) : Int) = q by omega]; rfl
  | k + 1, nf, q, q0, h => by
    have n := w.1
    obtain ⟨a1, a2⟩ := h q (Int.le_refl _) (by omega)
    obtain ⟨b1, b2, b3, b4⟩ := wdB_t.mp a1
    have bb := w.2 q b1.1 b1.2
    have ih := midW w h13 k nf (q + 1) (by omega) (fun i i0 i1 => h i (by omega) (by omega))
    rw [show nf + (k + 1) = (nf + k) + 1 by omega, fX5_readGame_L23]
    unfold fX3_size
    rw [Option.bind_some, wr_of (z := H 19 1) (by omega) (by omega), wr_of (z := q) (by omega) (by omega), if_neg (by omega), if_pos wr_0, ucX3_get n.2 b1, Option.bind_some, Option.bind_some, wr_of (z := H 20 q) (by omega) (by omega), if_neg b3, if_neg b4, cX3_start w (by omega), if_neg (show ¬ (wdB H q = true ∧ wdB H (q - 1) = false) from fun k => by rw [a2] at k; exact absurd k.2 (by decide)), Option.bind_some, if_pos wr_0]
    unfold fX5_readGame_b132 fX5_readGame_b142
    rw [if_pos wr_0, hs_id h13, show q + ((k + 1 : Nat) : Int) = q + 1 + (k : Int) by omega]
    exact ih
theorem L170_at {V g : HS} (w : Psi V) (e : zqm g V) (k20 : Int → Int → Int → HS → Option (Int × HS)) {op b : Int} : ∀ (nf m : Nat) (x : Int), 0 ≤ x → x + m = V 19 1 → m < nf → fX6_readGame_L170 k20 nf op x b g = (fX6_readMove b (weN V m x) g).bind fun r4 => if wr r4.1 = 0 then if wr (r4.2 30 8) = (200 : Int) then (fX6_known (r4.2 30 19) (r4.2 30 20) r4.2).bind fun r5 => if wr r5 = ((-1) : Int) then (fX6_stop 9 b r4.2).bind fun r6 => some (r6.1, r6.2) else if (zk g) ≤ zk r4.2 then fX6_readGame_b242 k20 op (weN V m x) r4.2 else none else if (zk g) ≤ zk r4.2 then fX6_readGame_b242 k20 op (weN V m x) r4.2 else none else (fX6_stop r4.1 b r4.2).bind fun r7 => some (r7.1, r7.2)
  | 0, m, x, x0, hx, hnf => by omega
  | nf + 1, m, x, x0, hx, hnf => by
    have n := w.T.n
    obtain ⟨z1, z2⟩ := zk_of w (g := g) (by rw [e.c30 (b := 8) (by decide), w.R.n2])
    rw [fX6_readGame_L170]
    rw [if_pos z2, mX6_word w e (by omega), Option.bind_some]
    cases m with
    | zero =>
      rw [if_neg (show ¬ wdB V x = true from fun k => by have := (wdB_t.mp k).1; omega), if_pos wr_0]
      rfl
    | succ m =>
      have eu : weN V (m + 1) x = if wdB V x = true then weN V m (x + 1) else x := rfl
      rw [eu]
      by_cases q : wdB V x = true
      · rw [if_pos q, if_neg (show ¬ wr 1 = 0 by decide), if_pos (Nat.le_refl _), if_pos q]
        exact L170_at w e k20 nf m (x + 1) (by omega) (by omega) (by omega)
      · rw [if_neg q, if_pos wr_0, if_neg q]
theorem folT_34 {f t : Int} {h : HS} : folT f t h 34 = h 34 ∧ (∀ b : Int, b ≠ 8 → folT f t h 30 b = h 30 b) ∧ folT f t h 19 = h 19 ∧ folT f t h 20 = h 20 ∧ folT f t h 0 = h 0 := by
  unfold folT
  split
  · exact ⟨grA_ne (by decide), fun b hb => by rw [grA_30, if_neg hb], grA_ne (by decide), grA_ne (by decide), grA_ne (by decide)⟩
  · exact ⟨rfl, fun _ _ => rfl, rfl, rfl, rfl⟩
theorem folT_sz {f t : Int} {h : HS} : folT f t h 9 8 = if knV h f t = -1 then h 9 8 + 1 else h 9 8 := by
  unfold folT
  split
  · exact grA_9
  · rfl
/-- a fact put out of sight of the arithmetic -/
def Hd (P : Prop) : Prop := P
theorem Hd.o {P : Prop} (h : Hd P) : P := h
theorem Hd.i {P : Prop} (h : P) : Hd P := h
/-- a legal move is followed on both sides -/
theorem rg_succ {X Y : HS} (wH : Hd (Psi (mg X Y))) (e34 : X 34 = Y 34) {f t op : Int} {e : Nat} (hf : 0 ≤ f ∧ f < 64) (ht : 0 ≤ t ∧ t < 64) (hb : 0 ≤ X 8 f) (full : ¬ (knV (mg X Y) f t = -1 ∧ 200 ≤ mg X Y 9 8)) (x13 : X 0 13 = -1) (y19 : Y 30 19 = f) (y20 : Y 30 20 = t) : ∃ X2 Y2, fX5_follow f t X = some (1, X2) ∧ (∀ k20 : Int → Int → Int → HS → Option (Int × HS), fX6_readGame_b242 k20 op (e : Int) Y = k20 op 0 (e : Int) Y2) ∧ Hd (Psi (mg (hs (hs X2 0 10 0) 0 13 (-1)) Y2)) ∧ hs (hs X2 0 10 0) 0 13 (-1) 34 = Y2 34 ∧ X2 0 9 = X 0 9 ∧ Y2 30 14 = Y 30 14 ∧ (X2 19 = X 19 ∧ X2 20 = X 20 ∧ X2 24 = X 24 ∧ Y2 42 = Y 42) ∧ X 9 8 ≤ X2 9 8 ∧ (∀ a : Nat, a < 30 → Y2 a = Y a) ∧ (∀ a : Nat, 30 ≤ a → X2 a = X a) := by
  have qY : zqm Y (mg X Y) := mg_qm
  have nY := wH.o.R.n
  have e8 : Y 30 8 = mg X Y 9 8 := by rw [qY.c30 (b := 8) (by decide), wH.o.R.n2]
  obtain ⟨zY1, zY2⟩ := zk_of wH.o (g := Y) e8
  have ekn : knV X f t = knV (mg X Y) f t := knV_qc (mg_qc e34)
  have e98 : mg X Y 9 8 = X 9 8 := by rw [mg_l (by decide)]
  have wX : Hd (PsiC X) := Hd.i (wH.o.cc.sq (mg_qc e34))
  obtain ⟨X2, eX2, m1, m2, m3⟩ := followC wX.o hf ht (by rw [ekn, ← e98]; exact full)
  obtain ⟨qT, qP⟩ := folT_qc (mg_qc e34) (f := f) (t := t)
  have m1b := mC_qc m1 qT
  rw [qP] at m1b
  have wTH : Hd (Psi (folT f t (mg X Y)) ∧ 0 ≤ folP f t (mg X Y) ∧ folP f t (mg X Y) < folT f t (mg X Y) 9 8) := Hd.i (folT_psi wH.o hf ht (by rw [mg_l (by decide)]; exact hb) full)
  obtain ⟨T34, T30, T19, T20, T0⟩ := @folT_34 f t (mg X Y)
  have Tsz := @folT_sz f t (mg X Y)
  have Tn2 := wTH.o.1.R.n2
  have pl : ∃ Y2, mM Y2 (folT f t (mg X Y)) (folP f t (mg X Y)) Y ∧ (∀ k20 : Int → Int → Int → HS → Option (Int × HS), fX6_readGame_b242 k20 op (e : Int) Y = k20 op 0 (e : Int) Y2) := by
    by_cases kn : knV (mg X Y) f t = -1
    · obtain ⟨Y2, eY2, my⟩ := playOnR wH.o qY hf ht full
      refine ⟨Y2, my, fun k20 => ?_⟩
      have e28 : Y2 30 8 = mg X Y 9 8 + 1 := by
        rw [my.1 30 8 (by decide) (by decide) (by decide), Tn2, Tsz, if_pos kn]
      have zk2 : zk Y2 = zk Y + 1 := by
        unfold zk
        rw [e28, e8]
        clear my full Tsz Tn2 T30
        omega
      unfold fX6_readGame_b242
      rw [if_pos zY2, y19, y20, knR wH.o qY hf ht, Option.bind_some, kn, if_pos (show wr (-1) = -1 by decide), if_pos (by clear my Tsz Tn2 T30; omega), eY2, Option.bind_some, if_pos (by rw [zk2]; exact Nat.le_refl _)]
    · have my := playOnK wH.o qY (f := f) (t := t) kn
      refine ⟨_, my, fun k20 => ?_⟩
      obtain ⟨⟨kr1, kr2⟩, -⟩ := knV_rg wH.o.cc kn
      have e28 : mvM f t (hs Y 30 9 (knV (mg X Y) f t)) 30 8 = mg X Y 9 8 := by
        rw [mvM_at (by decide), hs_at, if_pos rfl, if_neg (by decide), e8]
      have zk2 : zk (mvM f t (hs Y 30 9 (knV (mg X Y) f t))) = zk Y := by
        unfold zk
        rw [e28, e8]
      have wk : wr (knV (mg X Y) f t) = knV (mg X Y) f t := wr_of (by clear my Tsz Tn2 T30; omega) (by clear my Tsz Tn2 T30; omega)
      unfold fX6_readGame_b242 fX6_playOn_k
      rw [if_pos zY2, y19, y20, knR wH.o qY hf ht, Option.bind_some, wk, if_neg kn, Option.bind_some, wk, if_neg kn, umX6_play hf ht, Option.bind_some, Option.bind_some, if_pos (by rw [zk2]; exact Nat.le_refl _)]
  obtain ⟨Y2, my, pl2⟩ := pl
  have nS : ∀ a : Nat, ¬ (a = 50 ∨ a = 18 ∨ a = 21 ∨ a = 22 ∨ a = 23 ∨ a = 24 ∨ a = 36 ∨ a = 40 ∨ a = 41 ∨ a = 42 ∨ a = 90 ∨ a = 91 ∨ a = 0 ∨ a = 30) → ∀ b : Int, ¬ scr a b := fun a ha b k => ha (by rcases k with k | k | k <;> omega)
  have f19 : X2 19 = X 19 := by
    funext b
    rw [m1b.1 19 b (by decide) (nS 19 (by decide) b) (by omega), T19, mg_l (by decide)]
  have f20 : X2 20 = X 20 := by
    funext b
    rw [m1b.1 20 b (by decide) (nS 20 (by decide) b) (by omega), T20, mg_l (by decide)]
  have Y234 : Y2 34 = Y 34 := by
    funext b
    rw [my.1 34 b (by decide) (nS 34 (by decide) b) (by omega), T34, mg_r (by decide)]
  have Y214 : Y2 30 14 = Y 30 14 := by
    rw [my.1 30 14 (by decide) (by decide) (by decide), T30 14 (by decide), mg_r (by decide)]
  have X298 : X 9 8 ≤ X2 9 8 := by
    rw [m1b.1 9 8 (by decide) (by decide) (by decide), Tsz, e98]
    split
    · exact Int.le_add_one (Int.le_refl _)
    · exact Int.le_refl _
  refine ⟨X2, Y2, eX2, pl2, Hd.i ?_, ?_, m3 9 (by decide), Y214, ⟨f19, f20, m2, my.2.2.2.2.2.2⟩, X298, my.2.2.2.1, m1b.2.2.2⟩
  · refine fol_psi wTH.o.1 wTH.o.2 m1b my (fun a b ha hn => ?_) (fun a b ha hn => by rw [mg_r ha])
    rw [mg_l ha]
    by_cases a0 : a = 0
    · subst a0
      by_cases h13 : b = 13
      · rw [h13, hs_self, m3 13 (by decide), x13]
      · rw [hs_at, if_pos rfl, if_neg h13, hs_at, if_pos rfl, if_neg (fun k => hn (Or.inr (Or.inl ⟨rfl, Or.inr (Or.inl k)⟩)))]
    · rw [hs_ne _ _ _ a0, hs_ne _ _ _ a0]
  · rw [hs_ne _ _ _ (by decide), hs_ne _ _ _ (by decide), m1b.2.2.2 34 (by decide), Y234, e34]
theorem rg_word {C G : HS} {op mv : Int} {p nfC nfR : Nat} (I : rgI C G op mv p) (hp : (p : Int) < C 19 1) (hw : wdB C p = true) (hb : wdB C ((p : Int) - 1) = false) (hC : (C 19 1).toNat - p < nfC + 1) (hR : (C 19 1).toNat - p < nfR + 1) (next : ∀ (e : Nat) (C2 G2 : HS) (op2 mv2 : Int) (nfC2 nfR2 : Nat), p < e → rgI C2 G2 op2 mv2 e → C2 19 = C 19 → C2 20 = C 20 → (e : Int) ≤ C 19 1 → (C 19 1).toNat - e < nfC2 → (C 19 1).toNat - e < nfR2 → (wdB C2 e = true → wdB C2 ((e : Int) - 1) = false) → rgR (fX5_readGame_L23 nfC2 0 (e : Int) C2) (fX6_readGame_L20 nfR2 op2 mv2 (e : Int) G2) C2 G2) : rgR (fX5_readGame_L23 (nfC + 1) 0 (p : Int) C) (fX6_readGame_L20 (nfR + 1) op mv (p : Int) G) C G := by
  obtain ⟨w0, e34, ⟨i1, i2, i3, i4⟩, i5, i6, i7⟩ := I
  have w : Hd (Psi (mg C G)) := Hd.i w0
  have wc : Hd (PsiC C) := Hd.i (w0.cc.sq (mg_qc e34))
  clear w0
  have qm : zqm G (mg C G) := mg_qm
  have n := wc.o.T.1
  obtain ⟨b1, b2, b3, b4⟩ := wdB_t.mp hw
  have bv := wc.o.T.2 (p : Int) b1.1 b1.2
  have e13 : G 30 13 = C 19 1 := by rw [qm.c30 (b := 13) (by decide), w.o.T.n2, mg_l (by decide)]
  have e39 : G 39 p = C 20 p := by rw [qm.c (a := 39) (by decide), (w.o.T.by_ (p : Int) (by omega) (by rw [mg_l (by decide)]; omega)).1, mg_l (by decide)]
  obtain ⟨z1, z2⟩ := zk_of w.o (g := G) (by rw [qm.c30 (b := 8) (by decide), w.o.R.n2])
  have hp2 : 0 ≤ (p : Int) ∧ (p : Int) < 2000 := by omega
  -- the end of the word
  obtain ⟨m, hm⟩ : ∃ m : Nat, (p : Int) + 1 + m = C 19 1 := ⟨(C 19 1 - p - 1).toNat, by omega⟩
  obtain ⟨w1, w2, w3⟩ := @weN_rg C m ((p : Int) + 1)
  have w4 := @weN_end C m ((p : Int) + 1) (by omega)
  obtain ⟨e, ee⟩ : ∃ e : Nat, (e : Int) = weN C m ((p : Int) + 1) := ⟨(weN C m ((p : Int) + 1)).toNat, by omega⟩
  have ewe : fX3_wordEnd (p : Int) C = some (e : Int) := by
    have := cX3_end wc.o.T zF (m + 1) (p : Int) (by omega) (by omega) (by unfold zF; omega)
    have eu : weN C (m + 1) (p : Int) = if wdB C (p : Int) = true then weN C m ((p : Int) + 1) else (p : Int) := rfl
    rw [eu, if_pos hw, ← ee] at this
    exact this
  rw [← ee] at w1 w2 w3 w4
  obtain ⟨k, hk⟩ : ∃ k : Nat, e = p + 1 + k := ⟨e - p - 1, by omega⟩
  obtain ⟨u, eu⟩ : ∃ u, u = wdL (C 20) (p : Int) (k + 1) := ⟨_, rfl⟩
  have ul : (p : Int) + (u.length : Int) = e := by rw [eu, wdL_len]; omega
  have ub : byL u := by rw [eu]; exact wdL_by wc.o.T (by omega) (by omega)
  have ut : tpL (C 20) (p : Int) u := by rw [eu]; exact wdL_tp
  obtain ⟨X, x1, x2, x3, -⟩ := judgeC wc.o ub (b0 := (p : Int)) (by omega) (by omega) ut
  obtain ⟨Y, y1, y2, y3, y4, -⟩ := judgeR w.o qm ub (b0 := (p : Int)) (by omega) (by rw [mg_l (by decide)]; omega) (by rw [mg_l (by decide)]; exact ut)
  obtain ⟨J, eJ⟩ : ∃ J, J = jdg (C 1 5) (C 2) (kOf C) (C 8) (trn C) u := ⟨_, rfl⟩
  have eJ2 : J = jdg (mg C G 1 5) (mg C G 2) (kOf (mg C G)) (mg C G 8) (trn (mg C G)) u := eJ
  have jr := @jdg_rg (C 1 5) (C 2) (kOf C) (C 8) (trn C) u
  have j0 := @jdg_0 (C 1 5) (C 2) (kOf C) (C 8) (trn C) u trn_01
  rw [← eJ, ul] at x1
  rw [← eJ] at x2 jr j0
  rw [← eJ2, ul] at y1
  rw [← eJ2] at y2
  have Xf : ∀ a : Nat, a ≠ 18 → a ≠ 0 → X a = C a := fun a h1 h2 => by
    funext b
    exact x3 a b h1 (fun k => h2 k.1)
  have X0 : ∀ b : Int, b ≠ 11 → b ≠ 12 → X 0 b = C 0 b := fun b h1 h2 => x3 0 b (by decide) (by omega)
  have Yc : ∀ a : Nat, a < 30 → Y a = G a := fun a ha => y3 a (by omega) (by omega)
  have sqV : zsq (mg X Y) (mg C G) := fun a b hn => by
    by_cases ha : a < 30
    · rw [mg_l ha, mg_l ha]
      exact x3 a b (fun k => hn (Or.inl (by omega))) (fun k => hn (Or.inr (Or.inl ⟨k.1, by omega⟩)))
    · rw [mg_r (by omega), mg_r (by omega)]
      by_cases a30 : a = 30
      · subst a30
        exact y4 b (fun k => hn (Or.inr (Or.inr ⟨rfl, by omega⟩)))
      · rw [y3 a (fun k => hn (Or.inl (by omega))) a30]
  have wV : Hd (Psi (mg X Y)) := Hd.i (w.o.sq sqV)
  have e34X : X 34 = Y 34 := by rw [Xf 34 (by decide) (by decide), y3 34 (by decide) (by decide), e34]
  have wX : Hd (PsiC X) := Hd.i (wV.o.cc.sq (mg_qc e34X))
  have qY : zqm Y (mg X Y) := mg_qm
  -- the class's state with no move due
  have wX10 : Hd (Psi (mg (hs X 0 10 0) Y)) := Hd.i (wV.o.sq (fun a b hn => by
    by_cases ha : a < 30
    · rw [mg_l ha, mg_l ha]
      by_cases a0 : a = 0
      · subst a0
        rw [hs_at, if_pos rfl, if_neg (fun k => hn (Or.inr (Or.inl ⟨rfl, by omega⟩)))]
      · rw [hs_ne _ _ _ a0]
    · rw [mg_r (by omega), mg_r (by omega)]))
  have stop : ∀ err : Int, 1 ≤ err ∧ err ≤ 9 → rgR (fX5_readGame_b127 (fun a0 a1 hh => fX5_readGame_L23 nfC a0 a1 hh) err (p : Int) X) ((fX6_stop err (p : Int) Y).bind fun r => some (r.1, r.2)) C G := fun err herr => by
    obtain ⟨nf2, rfl⟩ : ∃ nf2, nfC = nf2 + 1 := ⟨nfC - 1, by omega⟩
    unfold fX5_readGame_b127
    rw [if_pos (Or.inl rfl)]
    exact rgR_tr (rg_stop wX10.o (by rw [hs_ne _ _ _ (by decide), e34X]) herr (by omega)) Yc (fun a ha => by rw [hs_ne _ _ _ (by omega), Xf a (by omega) (by omega)])
  rw [fX5_readGame_L23, fX6_readGame_L20]
  unfold fX3_size
  rw [Option.bind_some, if_pos z2, e13, wr_of (z := C 19 1) (by omega) (by omega), wr_of (z := (p : Int)) (by omega) (by omega), if_neg (by omega), if_pos wr_0, if_neg (by omega), ucX3_get n.2 b1, Option.bind_some, Option.bind_some, wr_of (z := C 20 (p : Int)) (by omega) (by omega), if_neg b3, if_neg b4, cX3_start wc.o.T (by omega), if_pos (show wdB C p = true ∧ wdB C ((p : Int) - 1) = false from ⟨hw, hb⟩), Option.bind_some, if_neg (show ¬ wr 1 = 0 by decide), ewe, Option.bind_some, x1, Option.bind_some, if_pos hp2, e39, wr_of (z := C 20 (p : Int)) (by omega) (by omega), if_neg b3, if_pos hp2, if_neg b4, if_pos hp2, if_neg b2, if_pos (Nat.le_refl _), L170_at w.o qm _ zF m ((p : Int) + 1) (by omega) (by rw [mg_l (by decide)]; omega) (by unfold zF; omega), weN_cg (o := mg C G) (h := C) (by rw [mg_l (by decide)]) (mg_l (by decide)), ← ee, y1, Option.bind_some]
  dsimp only
  rw [wr_of (z := J.1) (by omega) (by omega)]
  by_cases q0 : J.1 = 0
  · obtain ⟨j1, j2, j3⟩ := j0 q0
    obtain ⟨xa, xb⟩ := x2 q0
    obtain ⟨ya, yb⟩ := y2 q0
    obtain ⟨f, ef⟩ : ∃ f, f = J.2.1 := ⟨_, rfl⟩
    obtain ⟨t, et⟩ : ∃ t, t = J.2.2 := ⟨_, rfl⟩
    rw [← ef] at j1 j3 xa ya
    rw [← et] at j2 xb yb
    have nY := wV.o.R.n
    have e8 : Y 30 8 = mg X Y 9 8 := by rw [qY.c30 (b := 8) (by decide), wV.o.R.n2]
    obtain ⟨zY1, zY2⟩ := zk_of wV.o (g := Y) e8
    have ekn : knV X f t = knV (mg X Y) f t := knV_qc (mg_qc e34X)
    have e98 : mg X Y 9 8 = X 9 8 := by rw [mg_l (by decide)]
    have zkY : zk G = zk Y := by
      unfold zk
      rw [y4 8 (by decide)]
    have ew : wr (Y 30 8) = mg X Y 9 8 := by rw [e8, wr_of (z := mg X Y 9 8) (by omega) (by omega)]
    rw [if_pos q0, if_pos q0, xa, xb, ya, yb, q0, knR wV.o qY j1 j2, Option.bind_some, if_pos (show zk G ≤ zk Y by rw [zkY]; exact Nat.le_refl _)]
    by_cases full : knV (mg X Y) f t = -1 ∧ 200 ≤ mg X Y 9 8
    · rw [followN wX.o j1 j2 ⟨by rw [ekn]; exact full.1, by rw [← e98]; exact full.2⟩, Option.bind_some, if_pos wr_0, if_pos (show wr (Y 30 8) = 200 by omega), full.1, if_pos (show wr (-1) = -1 by decide)]
      exact stop 9 (by omega)
    · obtain ⟨X2, Y2, eX2, pl2, wN, g34, g9, g14, ⟨f19, f20, f24, f42⟩, gsz, gcl, gcr⟩ := rg_succ (op := op) (e := e) wV e34X j1 j2 (by rw [Xf 8 (by decide) (by decide)]; exact j3) full (by rw [X0 13 (by decide) (by decide), i3]) ya yb
      have er : ∀ k20 : Int → Int → Int → HS → Option (Int × HS), (if wr (Y 30 8) = 200 then (if wr (knV (mg X Y) f t) = -1 then (fX6_stop 9 (p : Int) Y).bind fun r6 => some (r6.1, r6.2) else fX6_readGame_b242 k20 op (e : Int) Y) else fX6_readGame_b242 k20 op (e : Int) Y) = k20 op 0 (e : Int) Y2 := fun k20 => by
        rw [pl2 k20]
        by_cases h200 : wr (Y 30 8) = 200
        · have kn : ¬ knV (mg X Y) f t = -1 := fun k => full ⟨k, by omega⟩
          obtain ⟨⟨kr1, kr2⟩, -⟩ := knV_rg wV.o.cc kn
          rw [if_pos h200, wr_of (z := knV (mg X Y) f t) (by omega) (by omega), if_neg kn]
        · rw [if_neg h200]
      rw [er, eX2, Option.bind_some]
      dsimp only
      rw [if_neg (show ¬ wr 1 = 0 by decide)]
      unfold fX5_readGame_b127 fX5_readGame_b132 fX5_readGame_b142
      rw [if_pos (Or.inl rfl), if_pos wr_0]
      obtain ⟨C2, eC⟩ : ∃ C2, C2 = hs (hs X2 0 10 0) 0 13 (-1) := ⟨_, rfl⟩
      have C2ne : ∀ a : Nat, a ≠ 0 → C2 a = X2 a := fun a h1 => by rw [eC, hs_ne _ _ _ h1, hs_ne _ _ _ h1]
      have C20 : ∀ b : Int, b ≠ 10 → b ≠ 13 → C2 0 b = X2 0 b := fun b h1 h2 => by rw [eC, hs_at, if_pos rfl, if_neg h2, hs_at, if_pos rfl, if_neg h1]
      have C210 : C2 0 10 = 0 := by rw [eC, hs_at, if_pos rfl, if_neg (by decide), hs_self]
      have C213 : C2 0 13 = -1 := by rw [eC, hs_self]
      rw [← eC] at wN g34
      have c19 : C2 19 = C 19 := by rw [C2ne 19 (by decide), f19, Xf 19 (by decide) (by decide)]
      have c20 : C2 20 = C 20 := by rw [C2ne 20 (by decide), f20, Xf 20 (by decide) (by decide)]
      have I2 : Hd (rgI C2 Y2 op 0 e) := Hd.i ⟨wN.o, g34, ⟨by rw [C20 9 (by decide) (by decide), g9, X0 9 (by decide) (by decide), i1], C210, C213, by rw [g14, y4 14 (by decide), i4]⟩, Or.inl rfl, by omega, fun i i0 i1 => by
        obtain ⟨s1, s2, s3⟩ := i7 i i0 i1
        have ey : Y2 42 = G 42 := by rw [f42, y3 42 (by decide) (by decide)]
        rw [C2ne 24 (by decide), f24, Xf 24 (by decide) (by decide), ey, C2ne 9 (by decide)]
        rw [← Xf 9 (by decide) (by decide)] at s3
        exact ⟨s1, s2, Int.lt_of_lt_of_le s3 gsz⟩⟩
      have wd2 : ∀ q : Int, wdB C2 q = wdB C q := wdB_cg (by rw [c19]) c20
      have wcT2 : Hd (PcT C2) := Hd.i ⟨by rw [c19]; exact n, by rw [c19, c20]; exact wc.o.T.2⟩
      obtain ⟨nf2, hnf2⟩ : ∃ nf2, nfC = nf2 + k := ⟨nfC - k, by omega⟩
      have em := midW wcT2.o C213 k nf2 ((p : Int) + 1) (by omega) (fun i i0 i1 => by
        rw [wd2, wd2]
        refine ⟨w3 i i0 (by omega), ?_⟩
        rcases (show i = (p : Int) + 1 ∨ (p : Int) + 1 ≤ i - 1 by omega) with k1 | k1
        · rw [k1, show (p : Int) + 1 - 1 = (p : Int) by omega]
          exact hw
        · exact w3 (i - 1) k1 (by omega))
      rw [← hnf2, show (p : Int) + 1 + (k : Int) = (e : Int) by omega] at em
      have res := next e C2 Y2 op 0 nf2 nfR (by omega) I2.o c19 c20 (by omega) (by omega) (by omega) (fun k1 => by rw [wd2, w4] at k1; exact absurd k1 (by decide))
      rw [← em] at res
      rw [eC] at res
      exact rgR_tr res (fun a ha => by rw [gcl a ha, Yc a ha]) (fun a ha => by rw [hs_ne _ _ _ (by omega), hs_ne _ _ _ (by omega), gcr a ha, Xf a (by omega) (by omega)])
  · rw [if_neg q0, if_neg q0]
    exact stop J.1 (by omega)
end ZRWORD
end
section
section ZGAME
/-- the whole walk over a game -/
theorem rg_all : ∀ (n : Nat) (C G : HS) (op mv : Int) (p nfC nfR : Nat), rgI C G op mv p → (p : Int) ≤ C 19 1 → (C 19 1).toNat - p ≤ n → (C 19 1).toNat - p < nfC → (C 19 1).toNat - p < nfR → (wdB C p = true → wdB C ((p : Int) - 1) = false) → rgR (fX5_readGame_L23 nfC 0 (p : Int) C) (fX6_readGame_L20 nfR op mv (p : Int) G) C G
  | n, C, G, op, mv, p, 0, _, _, _, _, h, _, _ => by omega
  | n, C, G, op, mv, p, _ + 1, 0, _, _, _, _, h, _ => by omega
  | n, C, G, op, mv, p, nfC + 1, nfR + 1, I, hp, hn, hC, hR, hb => by
    by_cases he : (p : Int) = C 19 1
    · exact rg_end I he
    · obtain ⟨n, rfl⟩ : ∃ m, n = m + 1 := ⟨n - 1, by omega⟩
      obtain ⟨nfC, rfl⟩ : ∃ m, nfC = m + 1 := ⟨nfC - 1, by omega⟩
      have hp2 : (p : Int) < C 19 1 := by omega
      have step : (wdB C p = false) → ∀ C2 G2 op2 mv2, rgI C2 G2 op2 mv2 (p + 1) → C2 19 = C 19 → C2 20 = C 20 → (∀ a : Nat, a < 30 → G2 a = G a) → (∀ a : Nat, 30 ≤ a → C2 a = C a) → rgR (fX5_readGame_L23 (nfC + 1) 0 ((p + 1 : Nat) : Int) C2) (fX6_readGame_L20 nfR op2 mv2 ((p + 1 : Nat) : Int) G2) C G := fun hw C2 G2 op2 mv2 I2 c19 c20 cg cc => by
        refine rgR_tr (rg_all n C2 G2 op2 mv2 (p + 1) (nfC + 1) nfR I2 (by rw [c19]; omega) (by rw [c19]; omega) (by rw [c19]; omega) (by rw [c19]; omega) (fun _ => ?_)) cg cc
        rw [wdB_cg (by rw [c19]) c20, show ((p + 1 : Nat) : Int) - 1 = (p : Int) by omega]
        exact hw
      by_cases q1 : C 20 p = 40
      · exact rg_open I hp2 q1 (step (wdB_f.mpr (fun k => k.2.2.1 q1)))
      · by_cases q2 : C 20 p = 41
        · exact rg_close I hp2 q2 (step (wdB_f.mpr (fun k => k.2.2.2 q2)))
        · by_cases q3 : C 20 p = 32
          · exact rg_blank I hp2 q3 (step (wdB_f.mpr (fun k => k.2.1 q3)))
          · have hw : wdB C p = true := wdB_t.mpr ⟨by omega, q3, q1, q2⟩
            exact rg_word I hp2 hw (hb hw) hC hR (fun e C2 G2 op2 mv2 nfC2 nfR2 pe I2 c19 c20 el f1 f2 b2 => rg_all n C2 G2 op2 mv2 e nfC2 nfR2 I2 (by rw [c19]; exact el) (by rw [c19]; omega) (by rw [c19]; exact f1) (by rw [c19]; exact f2) b2)
theorem rg_begin {h X Y g : HS} (w : Psi h) (e : zqm g h) (eX : fX5_beginAnew h = some X) (eY : fX6_clearNodes g = some Y) : rgI (hs (hs (hs X 0 9 0) 0 10 0) 0 13 (-1)) (hs Y 30 14 (-1)) 0 0 0 ∧ (∀ a : Nat, 30 ≤ a → X a = h a) ∧ (∀ a : Nat, a < 30 → Y a = g a) ∧ Y 30 8 = 1 ∧ X 19 = h 19 := by
  have n := w.T.n
  obtain ⟨X2, eX2, x1, x2, x3, x4, x5, x6⟩ := clearC w.cc
  obtain ⟨Y2, eY2, y1, y2, y3, y4, y5, y6, y7, y8⟩ := clearR w e
  obtain rfl : X2 = X := Option.some.inj (eX2.symm.trans eX)
  obtain rfl : Y2 = Y := Option.some.inj (eY2.symm.trans eY)
  have X0 : hs (hs X2 0 9 0) 0 10 0 0 8 = X2 0 8 := by simp [hs_at]
  have w1 : Psi (mg (hs (hs X2 0 9 0) 0 10 0) Y2) := by
    refine clr_psi w (fun a b hn hm => ?_) ?_ ?_ ?_ ?_ ?_ ?_ (fun s s0 s1 => ⟨?_, ?_⟩)
    · by_cases ha : a < 30
      · rw [mg_l ha]
        by_cases a0 : a = 0
        · subst a0
          rw [hs_at, if_pos rfl, if_neg (fun k => hn (Or.inr (Or.inl ⟨rfl, by omega⟩))), hs_at, if_pos rfl, if_neg (fun k => hn (Or.inr (Or.inl ⟨rfl, by omega⟩)))]
          exact x1 0 b (by omega) hn (by omega)
        · rw [hs_ne _ _ _ a0, hs_ne _ _ _ a0]
          exact x1 a b ha hn (by omega)
      · rw [mg_r (by omega)]
        exact y1 a b (by omega) hn (by omega)
    · rw [mg_l (by decide), hs_ne _ _ _ (by decide), hs_ne _ _ _ (by decide), x2]
    · rw [mg_l (by decide), X0, x3]
    · rw [mg_r (by decide), y2]
    · rw [mg_r (by decide), y3]
    · rw [mg_l (by decide), mg_l (by decide), mg_l (by decide), mg_l (by decide), mg_l (by decide)]
      simp only [hs_at]
      exact x4
    · rw [mg_r (by decide)]
      exact y4
    · rw [mg_l (by decide), hs_ne _ _ _ (by decide), hs_ne _ _ _ (by decide), x5 s s0 s1]
    · rw [mg_r (by decide), y5 s s0 s1]
  refine ⟨⟨rg_err w1 (by omega), ?_, ⟨?_, ?_, ?_, ?_⟩, Or.inl rfl, by omega, fun i i0 i1 => by omega⟩, x6, y6, y2, ?_⟩
  · rw [hs_ne _ _ _ (by decide), hs_ne _ _ _ (by decide), hs_ne _ _ _ (by decide), hs_ne _ _ _ (by decide), x6 34 (by decide)]
    funext b
    rw [y1 34 b (by decide) (by omega) (by omega)]
  · simp [hs_at]
  · simp [hs_at]
  · simp [hs_at]
  · simp [hs_at]
  · funext b
    exact x1 19 b (by decide) (by omega) (by omega)
theorem qc_18 {h : HS} (w : Psi h) : ∃ o, fL_c18 h = some o ∧ Psi o := by
  have n := w.T.n
  obtain ⟨X, eX, -⟩ := clearC w.cc
  obtain ⟨Y, eY, -⟩ := clearR w (zqm.rf (h := h))
  obtain ⟨I, b1, b2, b3, b4⟩ := rg_begin w zqm.rf eX eY
  obtain ⟨C, eC⟩ : ∃ C, C = hs (hs (hs X 0 9 0) 0 10 0) 0 13 (-1) := ⟨_, rfl⟩
  rw [← eC] at I
  have C19 : C 19 = h 19 := by rw [eC, hs_ne _ _ _ (by decide), hs_ne _ _ _ (by decide), hs_ne _ _ _ (by decide), b4]
  have wd : wdB C ((0 : Nat) : Int) = true → wdB C (((0 : Nat) : Int) - 1) = false := fun _ => wdB_f.mpr (fun k => by omega)
  obtain ⟨e, C1, G1, r1, r2, r3, r4, r5, r6⟩ := rg_all 2000 C _ 0 0 0 zF zF I (by rw [C19]; omega) (by rw [C19]; omega) (by rw [C19]; unfold zF; omega) (by rw [C19]; unfold zF; omega) wd
  have q1 : zqm (hs C1 30 0 0) h := (show zqm C1 h from fun a b ha _ => by
    rw [r6 a ha, eC, hs_ne _ _ _ (by omega), hs_ne _ _ _ (by omega), hs_ne _ _ _ (by omega), b1 a ha]).h30 0
  obtain ⟨Z, eZ, -⟩ := clearR w q1
  obtain ⟨J, c1, c2, c3, -⟩ := rg_begin w q1 eX eZ
  rw [← eC] at J
  obtain ⟨e2, C2, G2, s1, s2, s3, s4, s5, s6⟩ := rg_all 2000 C _ 0 0 0 zF zF J (by rw [C19]; omega) (by rw [C19]; omega) (by rw [C19]; unfold zF; omega) (by rw [C19]; unfold zF; omega) wd
  obtain ⟨rfl, rfl⟩ : e = e2 ∧ C1 = C2 := by
    have := Option.some.inj (r1.symm.trans s1)
    exact ⟨congrArg Prod.fst this, congrArg Prod.snd this⟩
  unfold fL_c18 fX5_readGame fX6_readGame
  rw [eX, Option.bind_some, if_pos (Or.inl rfl), ← eC]
  have r1' : fX5_readGame_L23 zF 0 0 C = some (e, C1) := r1
  have s2' : fX6_readGame_L20 zF 0 0 0 (hs Z 30 14 (-1)) = some (e, G2) := s2
  rw [r1', Option.bind_some]
  dsimp only
  rw [eZ, Option.bind_some, if_pos (Nat.zero_le _), s2', Option.bind_some, if_pos rfl]
  refine ⟨G2, rfl, ?_⟩
  have eG : mg C1 G2 = G2 := by
    funext a
    by_cases ha : a < 30
    · rw [mg_l ha, s5 a ha, hs_ne _ _ _ (by omega), c2 a ha, hs_ne _ _ _ (by omega)]
    · rw [mg_r (by omega)]
  rw [eG] at s3
  exact s3
end ZGAME
end
section
section ZGTEXT
/-! the text of a game -/
def spc (D : List Int) : List Int := if D.length = 0 then D else if D[D.length - 1]? = some 40 then D else D ++ [32]
def mvt (h : HS) (n : Int) (j : Nat) (D : List Int) : List Int := spc D ++ mvB (kOf h) (h 2) (bd h n) (h 11 (kid h n j)) (h 12 (kid h n j))
def gV (h : HS) (r : Int → List Int → List Int) (n : Int) : Nat → Nat → List Int → List Int
  | 0, _, D => D
  | m + 1, j, D => gV h r n m (j + 1) (r (kid h n j) (mvt h n j (spc D ++ [40])) ++ [41])
def gT (h : HS) : Nat → Int → List Int → List Int
  | 0, _, D => D
  | f + 1, n, D => if h 15 n ≤ 0 then D else gT h f (kid h n 0) (gV h (gT h f) n ((h 15 n).toNat - 1) 1 (mvt h n 0 D))
def gCn (h : HS) (r : Int → Nat) (n : Int) : Nat → Nat → Nat
  | 0, _ => 0
  | m + 1, j => 1 + r (kid h n j) + gCn h r n m (j + 1)
def gN (h : HS) : Nat → Int → Nat
  | 0, _ => 0
  | f + 1, n => gCn h (gN h f) n (h 15 n).toNat 0
theorem spc_len {D : List Int} : (spc D).length ≤ D.length + 1 := by
  unfold spc
  split
  · omega
  · split
    · omega
    · rw [List.length_append]; exact Nat.le_refl _
theorem spc_by {D : List Int} (b : byL D) : byL (spc D) := by
  unfold spc
  split
  · exact b
  · split
    · exact b
    · intro v hv
      rcases List.mem_append.mp hv with k | k
      · exact b v k
      · rw [List.mem_singleton] at k; omega
theorem by_app {D u : List Int} (b : byL D) (c : byL u) : byL (D ++ u) := fun v hv => by
  rcases List.mem_append.mp hv with k | k
  · exact b v k
  · exact c v k
theorem by_1 {v : Int} (hv : 0 ≤ v ∧ v ≤ 255) : byL [v] := fun u hu => by
  rw [List.mem_singleton] at hu
  rw [hu]
  exact hv
theorem spc_40 {D : List Int} : spc (D ++ [40]) = D ++ [40] := by
  unfold spc
  rw [List.length_append]
  rw [if_neg (by simp), if_pos]
  simp
theorem mvt_len {h : HS} {n : Int} {j : Nat} {D : List Int} : (mvt h n j D).length ≤ D.length + 8 := by
  have h1 := spc_len (D := D)
  have h2 := mvB_len (K := kOf h) (L := h 2) (b := bd h n) (f := h 11 (kid h n j)) (t := h 12 (kid h n j))
  unfold mvt
  rw [List.length_append]
  omega
theorem mvt_len40 {h : HS} {n : Int} {j : Nat} {D : List Int} : (mvt h n j (spc D ++ [40])).length ≤ D.length + 9 := by
  have h1 := spc_len (D := D)
  have h2 := mvB_len (K := kOf h) (L := h 2) (b := bd h n) (f := h 11 (kid h n j)) (t := h 12 (kid h n j))
  unfold mvt
  rw [spc_40, List.length_append, List.length_append]
  simp only [List.length_cons, List.length_nil]
  omega
theorem gV_len {h : HS} {r : Int → List Int → List Int} {rc : Int → Nat} (hr : ∀ c D, (r c D).length ≤ D.length + 10 * rc c) {n : Int} : ∀ (m j : Nat) (D : List Int), (gV h r n m j D).length ≤ D.length + 10 * gCn h rc n m j
  | 0, j, D => Nat.le_refl _
  | m + 1, j, D => by
    have h1 := gV_len (h := h) hr (n := n) m (j + 1) (r (kid h n j) (mvt h n j (spc D ++ [40])) ++ [41])
    have h2 := hr (kid h n j) (mvt h n j (spc D ++ [40]))
    have h3 := mvt_len40 (h := h) (n := n) (j := j) (D := D)
    rw [List.length_append] at h1
    simp only [List.length_cons, List.length_nil] at h1
    show (gV h r n m (j + 1) (r (kid h n j) (mvt h n j (spc D ++ [40])) ++ [41])).length ≤ D.length + 10 * (1 + rc (kid h n j) + gCn h rc n m (j + 1))
    omega
theorem gN_s {h : HS} {f : Nat} {n : Int} (k : 0 < h 15 n) : gN h (f + 1) n = 1 + gN h f (kid h n 0) + gCn h (gN h f) n ((h 15 n).toNat - 1) 1 := by
  show gCn h (gN h f) n (h 15 n).toNat 0 = _
  obtain ⟨m, hm⟩ : ∃ m, (h 15 n).toNat = m + 1 := ⟨(h 15 n).toNat - 1, by omega⟩
  rw [hm]
  rfl
theorem gN_z {h : HS} {f : Nat} {n : Int} (k : h 15 n ≤ 0) : gN h (f + 1) n = 0 := by
  show gCn h (gN h f) n (h 15 n).toNat 0 = _
  rw [show (h 15 n).toNat = 0 by omega]
  rfl
theorem gT_len {h : HS} : ∀ (f : Nat) (n : Int) (D : List Int), (gT h f n D).length ≤ D.length + 10 * gN h f n
  | 0, n, D => Nat.le_refl _
  | f + 1, n, D => by
    unfold gT
    by_cases k : h 15 n ≤ 0
    · rw [if_pos k]
      omega
    · rw [if_neg k, gN_s (by omega)]
      have h1 := gT_len (h := h) f (kid h n 0) (gV h (gT h f) n ((h 15 n).toNat - 1) 1 (mvt h n 0 D))
      have h2 := gV_len (h := h) (r := gT h f) (rc := gN h f) (gT_len f) (n := n) ((h 15 n).toNat - 1) 1 (mvt h n 0 D)
      have h3 := mvt_len (h := h) (n := n) (j := 0) (D := D)
      omega
/-! the number of nodes below -/
theorem gCn_sg {h : HS} {r : Int → Nat} {n : Int} : ∀ (m j : Nat), gCn h r n m j + sg (fun i => 1 + r (kid h n i)) j = sg (fun i => 1 + r (kid h n i)) (j + m)
  | 0, j => by
    show 0 + _ = _
    rw [Nat.zero_add]
    rfl
  | m + 1, j => by
    have ih := gCn_sg (h := h) (r := r) (n := n) m (j + 1)
    have e : sg (fun i => 1 + r (kid h n i)) (j + 1) = sg (fun i => 1 + r (kid h n i)) j + (1 + r (kid h n j)) := rfl
    rw [e, show j + 1 + m = j + (m + 1) by omega] at ih
    rw [← ih]
    show 1 + r (kid h n j) + gCn h r n m (j + 1) + _ = _
    omega
theorem sg_mul {p : Nat → Nat} {c : Nat} : ∀ n : Nat, sg (fun i => c * p i) n = c * sg p n
  | 0 => rfl
  | n + 1 => by
    show sg _ n + c * p n = c * (sg p n + p n)
    rw [sg_mul n, Nat.mul_add]
theorem sgGe {p : Nat → Nat} {n a : Nat} (ha : a < n) : p a ≤ sg p n := by
  induction n with
  | zero => omega
  | succ n ih =>
    show p a ≤ sg p n + p n
    by_cases e : a = n
    · rw [e]; omega
    · have := ih (by omega)
      omega
theorem sg_pick {F : Nat → Nat} {n a : Nat} (ha : a < n) : sg (fun i => if i = a then F i else 0) n = F a := by
  induction n with
  | zero => omega
  | succ n ih =>
    show sg _ n + (if n = a then F n else 0) = F a
    by_cases e : n = a
    · rw [if_pos e, e, sg_0 (fun i hi => if_neg (by omega)), Nat.zero_add]
    · rw [if_neg e, ih (by omega)]
      rfl
theorem gCn_all {h : HS} (w : Hd (Psi h)) {r : Int → Nat} {n : Nat} (hn : (n : Int) < h 9 8) : gCn h r (n : Int) (chC h n) 0 = sg (fun p => (1 + r (p : Int)) * (if 1 ≤ p ∧ h 10 (p : Int) = (n : Int) then 1 else 0)) (h 9 8).toNat := by
  have e := gCn_sg (h := h) (r := r) (n := (n : Int)) (chC h n) 0
  rw [Nat.zero_add] at e
  have e0 : sg (fun i => 1 + r (kid h (n : Int) i)) 0 = 0 := rfl
  rw [e0, Nat.add_zero] at e
  rw [e, sg_cg (q := fun j => sg (fun p => (1 + r (p : Int)) * (if kid h (n : Int) j = (p : Int) then 1 else 0)) (h 9 8).toNat) (fun j hj => ?_), sg_swap]
  · refine sg_cg (fun p hp => ?_)
    rw [sg_mul, kid_uq w.o hn (by omega)]
  · unfold chC at hj
    obtain ⟨b1, b2, b3⟩ := w.o.C.c (n : Int) (by omega) hn j (by omega)
    rw [sg_cg (q := fun p => if p = (kid h (n : Int) j).toNat then 1 + r (p : Int) else 0) (fun p hp => ?_), sg_pick (by omega), Int.toNat_of_nonneg (by omega)]
    by_cases e : kid h (n : Int) j = (p : Int)
    · rw [if_pos e, if_pos (by omega), Nat.mul_one]
    · rw [if_neg e, if_neg (by omega), Nat.mul_zero]
def gJ (h : HS) (i f : Nat) : Nat := sg (fun p => if 1 ≤ p ∧ h 14 (p : Int) ≤ (i : Int) then 1 else 0) (h 9 8).toNat + sg (fun p => (if h 14 (p : Int) = (i : Int) then 1 else 0) * gN h f (p : Int)) (h 9 8).toNat
theorem gJ_s {h : HS} (w : Hd (Psi h)) (i f : Nat) : gJ h i (f + 1) = gJ h (i + 1) f := by
  have z := w.o.P.z.2.2.2
  unfold gJ
  have key : sg (fun p => (if h 14 (p : Int) = (i : Int) then 1 else 0) * gN h (f + 1) (p : Int)) (h 9 8).toNat = sg (fun p => (1 + gN h f (p : Int)) * (if 1 ≤ p ∧ h 14 (p : Int) = ((i + 1 : Nat) : Int) then 1 else 0)) (h 9 8).toNat := by
    rw [sg_cg (q := fun n : Nat => sg (fun p : Nat => (if h 14 (n : Int) = (i : Int) then 1 else 0) * ((1 + gN h f (p : Int)) * (if 1 ≤ p ∧ h 10 (p : Int) = (n : Int) then 1 else 0))) (h 9 8).toNat) (fun n hn => ?_), sg_swap]
    · refine sg_cg (fun p hp => ?_)
      by_cases p1 : 1 ≤ p
      · obtain ⟨a1, a2, -⟩ := w.o.P.t (p : Int) (by omega) (by omega)
        rw [sg_cg (q := fun n : Nat => if n = (h 10 (p : Int)).toNat then (if h 14 (n : Int) = (i : Int) then 1 else 0) * (1 + gN h f (p : Int)) else 0) (fun n hn => ?_), sg_pick (by omega), Int.toNat_of_nonneg a1.1]
        · by_cases q : h 14 (h 10 (p : Int)) = (i : Int)
          · rw [if_pos q, if_pos ⟨p1, by omega⟩, Nat.one_mul, Nat.mul_one]
          · rw [if_neg q, if_neg (by omega), Nat.zero_mul, Nat.mul_zero]
        · by_cases e : n = (h 10 (p : Int)).toNat
          · rw [if_pos (show 1 ≤ p ∧ h 10 (p : Int) = (n : Int) by omega), if_pos e, Nat.mul_one]
          · rw [if_neg (show ¬ (1 ≤ p ∧ h 10 (p : Int) = (n : Int)) by omega), if_neg e, Nat.mul_zero, Nat.mul_zero]
      · rw [if_neg (show ¬ (1 ≤ p ∧ h 14 (p : Int) = ((i + 1 : Nat) : Int)) from fun k => p1 k.1), Nat.mul_zero]
        refine sg_0 (fun n hn => ?_)
        rw [if_neg (show ¬ (1 ≤ p ∧ h 10 (p : Int) = (n : Int)) from fun k => p1 k.1), Nat.mul_zero, Nat.mul_zero]
    · have e := gCn_all w (r := gN h f) (n := n) (by omega)
      show _ * gCn h (gN h f) (n : Int) (chC h n) 0 = _
      rw [e, sg_mul]
  rw [key, ← sg_add, ← sg_add]
  refine sg_cg (fun p hp => ?_)
  by_cases p1 : 1 ≤ p
  · by_cases q : h 14 (p : Int) = ((i + 1 : Nat) : Int)
    · rw [if_neg (show ¬ (1 ≤ p ∧ h 14 (p : Int) ≤ (i : Int)) by omega), if_pos (show 1 ≤ p ∧ h 14 (p : Int) = ((i + 1 : Nat) : Int) from ⟨p1, q⟩), if_pos (show 1 ≤ p ∧ h 14 (p : Int) ≤ ((i + 1 : Nat) : Int) by omega), if_pos q]
      omega
    · rw [if_neg (show ¬ (1 ≤ p ∧ h 14 (p : Int) = ((i + 1 : Nat) : Int)) from fun k => q k.2), if_neg q]
      by_cases q2 : h 14 (p : Int) ≤ (i : Int)
      · rw [if_pos (show 1 ≤ p ∧ h 14 (p : Int) ≤ (i : Int) from ⟨p1, q2⟩), if_pos (show 1 ≤ p ∧ h 14 (p : Int) ≤ ((i + 1 : Nat) : Int) by omega)]
        omega
      · rw [if_neg (show ¬ (1 ≤ p ∧ h 14 (p : Int) ≤ (i : Int)) from fun k => q2 k.2), if_neg (show ¬ (1 ≤ p ∧ h 14 (p : Int) ≤ ((i + 1 : Nat) : Int)) by omega)]
        omega
  · obtain rfl : p = 0 := by omega
    rw [if_neg (fun k => p1 k.1), if_neg (fun k => p1 k.1), if_neg (fun k => p1 k.1), if_neg (show ¬ h 14 ((0 : Nat) : Int) = ((i + 1 : Nat) : Int) from fun k => by
      have z' : h 14 ((0 : Nat) : Int) = 0 := z
      omega)]
    omega
theorem gJ_d {h : HS} (w : Hd (Psi h)) : ∀ (f i : Nat), gJ h i f = gJ h (i + f) 0
  | 0, i => rfl
  | f + 1, i => by
    rw [gJ_s w, gJ_d w f (i + 1), show i + 1 + f = i + (f + 1) by omega]
theorem gN_le {h : HS} (w : Hd (Psi h)) (f : Nat) : gN h f 0 ≤ 199 := by
  have n := w.o.R.n
  have z := w.o.P.z.2.2.2
  have e := gJ_d w f 0
  have h1 : gN h f 0 ≤ gJ h 0 f := by
    have := sgGe (p := fun p : Nat => (if h 14 (p : Int) = ((0 : Nat) : Int) then 1 else 0) * gN h f (p : Int)) (n := (h 9 8).toNat) (a := 0) (by omega)
    have e0 : (if h 14 ((0 : Nat) : Int) = ((0 : Nat) : Int) then 1 else 0) * gN h f ((0 : Nat) : Int) = gN h f 0 := by
      rw [if_pos (show h 14 ((0 : Nat) : Int) = ((0 : Nat) : Int) from z), Nat.one_mul]
      rfl
    unfold gJ
    simp only [e0] at this
    omega
  have h2 : gJ h (0 + f) 0 ≤ 199 := by
    unfold gJ
    rw [sg_0 (p := fun p : Nat => (if h 14 (p : Int) = ((0 + f : Nat) : Int) then 1 else 0) * gN h 0 (p : Int)) (fun p hp => Nat.mul_zero _), Nat.add_zero]
    obtain ⟨m, hm⟩ : ∃ m, (h 9 8).toNat = m + 1 := ⟨(h 9 8).toNat - 1, by omega⟩
    rw [hm]
    have key : ∀ m : Nat, sg (fun p : Nat => if 1 ≤ p ∧ h 14 (p : Int) ≤ ((0 + f : Nat) : Int) then 1 else 0) (m + 1) ≤ m := fun m => by
      induction m with
      | zero =>
        show 0 + (if 1 ≤ 0 ∧ _ then 1 else 0) ≤ 0
        rw [if_neg (fun k => absurd k.1 (by decide))]
        exact Nat.le_refl _
      | succ m ih =>
        show sg _ (m + 1) + (if _ then 1 else 0) ≤ m + 1
        split <;> omega
    have := key m
    omega
  omega
end ZGTEXT
end
section
section ZGCLS
/-! the class writes a game -/
theorem bd_atN {h : HS} {q : Int} : bd (atN h q) = bd h := bd_eq (atN_ne (by decide) (by decide)) (atN_ne (by decide) (by decide)) (atN_ne (by decide) (by decide)) (atN_ne (by decide) (by decide)) (atN_ne (by decide) (by decide))
theorem PsiC.at {h : HS} (w : PsiC h) {q : Int} (q0 : 0 ≤ q) (q1 : q < h 9 8) : PsiC (atN h q) := by
  have e : ∀ a : Nat, a ≠ 8 → a ≠ 0 → atN h q a = h a := fun a h8 h0 => atN_ne h8 h0
  have ek : ∀ i j, kid (atN h q) i j = kid h i j := fun i j => kid_cg (fun i => by rw [e 16 (by decide) (by decide)]) (fun i => by rw [e 17 (by decide) (by decide)]) i j
  refine ⟨?_, ?_, ?_, ?_, ?_, ?_, ⟨?_, ?_, ?_, fun s s0 s1 => ?_, ?_⟩⟩
  · unfold PcT
    rw [e 19 (by decide) (by decide), e 20 (by decide) (by decide)]
    exact w.T
  · unfold PcK
    rw [e 1 (by decide) (by decide), e 2 (by decide) (by decide)]
    exact w.K
  · unfold PcS
    rw [e 3 (by decide) (by decide), e 4 (by decide) (by decide), e 5 (by decide) (by decide), e 6 (by decide) (by decide)]
    exact w.S
  · unfold PcR
    rw [e 9 (by decide) (by decide), e 10 (by decide) (by decide), e 11 (by decide) (by decide), e 12 (by decide) (by decide), e 14 (by decide) (by decide), e 15 (by decide) (by decide)]
    exact w.R
  · unfold PcC
    simp only [ek]
    rw [e 9 (by decide) (by decide), e 10 (by decide) (by decide), e 15 (by decide) (by decide)]
    exact w.C
  · exact w.A.cg (e 9 (by decide) (by decide)) (e 10 (by decide) (by decide)) (e 15 (by decide) (by decide)) (e 16 (by decide) (by decide)) (e 17 (by decide) (by decide))
  · rw [atN_08, e 9 (by decide) (by decide)]
    exact ⟨q0, q1⟩
  · rw [e 10 (by decide) (by decide), e 11 (by decide) (by decide), e 12 (by decide) (by decide), e 14 (by decide) (by decide)]
    exact w.P.z
  · rw [bd_atN, e 9 (by decide) (by decide), e 10 (by decide) (by decide), e 11 (by decide) (by decide), e 12 (by decide) (by decide), e 13 (by decide) (by decide), e 14 (by decide) (by decide)]
    exact w.P.t
  · rw [bd_atN, atN_08]
    exact atN_8 ⟨s0, s1⟩
  · rw [e 34 (by decide) (by decide), e 1 (by decide) (by decide)]
    exact w.P.f
theorem atN_qc {X h : HS} {q p : Int} (e : zqc X (atN h q)) : zqc (atN X p) (atN h p) := fun a b ha hn => by
  have eb : bd X = bd h := (bd_qc e).trans bd_atN
  by_cases h8 : a = 8
  · subst h8
    by_cases hb : 0 ≤ b ∧ b < 64
    · rw [atN_8 hb, atN_8 hb, eb]
    · rw [atN_8o hb, atN_8o hb, e 8 b ha hn, atN_8o hb]
  · by_cases h0 : a = 0
    · subst h0
      by_cases hb : b = 8
      · rw [hb, atN_08, atN_08]
      · rw [atN_0 hb, atN_0 hb, e 0 b ha hn, atN_0 hb]
    · rw [atN_ne h8 h0, atN_ne h8 h0, e a b ha hn, atN_ne h8 h0]
/-- the class stands at node q, its draft holds D -/
def cI (h : HS) (q : Int) (D : List Int) (X : HS) : Prop := zqc X (atN h q) ∧ (∀ a : Nat, 30 ≤ a → X a = h a) ∧ X 21 2 = 0 ∧ txt (X 21 1) (X 22) D ∧ byL D
theorem cI.c {h X : HS} {q : Int} {D : List Int} (c : cI h q D X) {a : Nat} (ha : (a < 30 ∨ a = 34) ∧ ¬ (a = 18 ∨ a = 21 ∨ a = 22 ∨ a = 23 ∨ a = 24 ∨ a = 0)) (h8 : a ≠ 8) : X a = h a := by
  rw [c.1.c ha, atN_ne h8 (fun k => ha.2 (by omega))]
theorem cI.c08 {h X : HS} {q : Int} {D : List Int} (c : cI h q D X) : X 0 8 = q := by
  rw [c.1.c0 (by decide), atN_08]
theorem cI.pc {h X : HS} {q : Int} {D : List Int} (w : Hd (Psi h)) (hq : 0 ≤ q ∧ q < h 9 8) (c : cI h q D X) : Hd (PsiC X) := Hd.i ((w.o.cc.at hq.1 hq.2).sq c.1)
theorem cI.k {h X : HS} {q : Int} {D : List Int} (c : cI h q D X) (i : Int) (j : Nat) : kid X i j = kid h i j := kid_cg (fun i => by rw [c.c (a := 16) (by decide) (by decide)]) (fun i => by rw [c.c (a := 17) (by decide) (by decide)]) i j
theorem cI.R {h X : HS} {q : Int} {D : List Int} (w : Hd (Psi h)) (c : cI h q D X) : Hd (PsR X) := Hd.i (w.o.R.cg (by rw [c.c (by decide) (by decide)]) (by rw [c.2.1 30 (by decide)]) (fun i => by rw [c.2.1 37 (by decide)]) (fun i => by
  rw [c.c (a := 10) (by decide) (by decide), c.c (a := 11) (by decide) (by decide), c.c (a := 12) (by decide) (by decide), c.c (a := 14) (by decide) (by decide), c.c (a := 15) (by decide) (by decide)]
  exact ⟨rfl, rfl, rfl, rfl, rfl⟩))
theorem cI.C {h X : HS} {q : Int} {D : List Int} (w : Hd (Psi h)) (c : cI h q D X) : Hd (PsC X) := Hd.i (w.o.C.cg (by rw [c.c (by decide) (by decide)]) (fun i => by rw [c.c (a := 16) (by decide) (by decide)]) (fun i => by rw [c.c (a := 17) (by decide) (by decide)]) (fun i => by rw [c.2.1 38 (by decide)]) (fun i => by rw [c.c (a := 10) (by decide) (by decide)]) (fun i => by rw [c.c (a := 15) (by decide) (by decide)]))
theorem cI.go {h X : HS} {q p : Int} {D : List Int} (c : cI h q D X) : cI h p D (atN X p) := ⟨atN_qc c.1, fun a ha => by rw [atN_ne (by omega) (by omega), c.2.1 a ha], by rw [atN_ne (by decide) (by decide)]; exact c.2.2.1, by rw [atN_ne (by decide) (by decide), atN_ne (by decide) (by decide)]; exact c.2.2.2.1, c.2.2.2.2⟩
theorem cI.dn {h X : HS} {q p : Int} {D : List Int} (w : Hd (Psi h)) (hp : 1 ≤ p ∧ p < h 9 8) (hq : h 10 p = q) (c : cI h q D X) : fX5_stepDown p X = some (atN X p) := by
  obtain ⟨a1, -⟩ := w.o.P.t p hp.1 hp.2
  have wX := c.pc w ⟨by omega, by omega⟩
  have e := stepDown_at wX.o (p := p) hp.1 (by rw [c.c (a := 9) (by decide) (by decide)]; exact hp.2)
  rw [c.c (a := 10) (by decide) (by decide), hq, ← c.c08, atN_self wX.o] at e
  exact e
theorem cI.up {h X : HS} {p : Int} {D : List Int} (w : Hd (Psi h)) (hp : 1 ≤ p ∧ p < h 9 8) (c : cI h p D X) : fX5_stepUp X = some (atN X (h 10 p)) := by
  have wX := c.pc w ⟨by omega, by omega⟩
  have e := stepUp_at wX.o (p := p) hp.1 (by rw [c.c (a := 9) (by decide) (by decide)]; exact hp.2)
  have es := atN_self wX.o
  rw [c.c08] at es
  rw [c.c (a := 10) (by decide) (by decide), es] at e
  exact e
theorem cI.app {h X : HS} {q v : Int} {D : List Int} (c : cI h q D X) (hl : D.length < 2000) (hv : 0 ≤ v ∧ v ≤ 255) : fX3_append_d v X = some (apD2 v X) ∧ cI h q (D ++ [v]) (apD2 v X) := by
  have sz := c.2.2.2.1.1
  refine ⟨pX3_appD2 (by omega), fun a b ha hn => ?_, fun a ha => ?_, ?_, apD2_txt c.2.2.2.1, by_app c.2.2.2.2 (by_1 hv)⟩
  · rw [apD2_ne (fun k => hn (Or.inl (by omega))) (fun k => hn (Or.inl (by omega)))]
    exact c.1 a b ha hn
  · rw [apD2_ne (by omega) (by omega), c.2.1 a ha]
  · rw [apD2_o (by decide)]
    exact c.2.2.1
theorem cI.sp {h X : HS} {q : Int} {D : List Int} (c : cI h q D X) (hl : D.length < 2000) : ∃ Y, fX3_separate_d X = some Y ∧ cI h q (spc D) Y := by
  have sz := c.2.2.2.1.1
  unfold fX3_separate_d spc
  rw [wr_of (z := X 21 1) (by omega) (by omega)]
  by_cases q0 : D.length = 0
  · rw [if_pos (by omega), if_pos q0]
    exact ⟨X, rfl, c⟩
  · have e := c.2.2.2.1.2 (D.length - 1) (by omega)
    rw [show ((D.length - 1 : Nat) : Int) = X 21 1 - 1 by omega] at e
    have bv := c.2.2.2.2 _ (List.mem_of_getElem? e)
    rw [if_neg (by omega), if_neg q0, e]
    unfold fX3_get_d
    rw [wr_of (z := X 21 1 - 1) (by omega) (by omega), wr_of (z := X 21 1) (by omega) (by omega), if_neg (by omega), if_neg (by omega), if_pos (by omega), Option.bind_some, wr_of (z := X 22 (X 21 1 - 1)) (by omega) (by omega)]
    by_cases q1 : X 22 (X 21 1 - 1) = 40
    · rw [if_pos q1, if_pos (by rw [q1])]
      exact ⟨X, rfl, c⟩
    · rw [if_neg q1, if_neg (fun k => q1 (Option.some.inj k))]
      obtain ⟨e1, e2⟩ := c.app hl (v := 32) (by omega)
      rw [e1, Option.bind_some]
      exact ⟨_, rfl, e2⟩
theorem alD2_cI {h : HS} {q : Int} : ∀ (u : List Int) {X : HS} {D : List Int}, cI h q D X → D.length + u.length ≤ 2000 → byL u → cI h q (D ++ u) (alD2 u X)
  | [], X, D, c, hl, hu => by
    rw [List.append_nil]
    exact c
  | v :: u, X, D, c, hl, hu => by
    rw [List.length_cons] at hl
    have e := alD2_cI u (c.app (by omega) (hu v List.mem_cons_self)).2 (by rw [List.length_append]; simp only [List.length_cons, List.length_nil]; omega) (fun x hx => hu x (List.mem_cons_of_mem v hx))
    rw [List.append_assoc] at e
    exact e
theorem gdN {h : HS} (w : Hd (Psi h)) {n : Int} (hn : 0 ≤ n ∧ n < h 9 8) : gd (kOf h) (h 1 5) (bd h n) := by
  have g := w.o.gg
  exact ⟨g.1, fun s s0 s1 => w.o.P.rg w.o.R n.toNat n (by omega) hn.1 hn.2 s s0 s1, g.2.2⟩
/-- the move of a child: its squares, its man -/
theorem kidM {h : HS} (w : Hd (Psi h)) {n : Int} (hn : 0 ≤ n ∧ n < h 9 8) {j : Nat} (hj : (j : Int) < h 15 n) : (1 ≤ kid h n j ∧ kid h n j < h 9 8) ∧ h 10 (kid h n j) = n ∧ n < kid h n j ∧ (0 ≤ h 11 (kid h n j) ∧ h 11 (kid h n j) < 64) ∧ (0 ≤ h 12 (kid h n j) ∧ h 12 (kid h n j) < 64) ∧ 0 ≤ bd h n (h 11 (kid h n j)) := by
  obtain ⟨k1, k2, k3⟩ := w.o.C.c n hn.1 hn.2 j hj
  obtain ⟨a1, a2, a3, a4, a5, a6⟩ := w.o.P.t (kid h n j) (by omega) k1.2
  rw [k3] at a5 a1
  exact ⟨⟨by omega, k1.2⟩, k3, a1.2, a3, a4, a5⟩
theorem kidB {h : HS} (w : Hd (Psi h)) {n : Int} (hn : 0 ≤ n ∧ n < h 9 8) {j : Nat} (hj : (j : Int) < h 15 n) : byL (mvB (kOf h) (h 2) (bd h n) (h 11 (kid h n j)) (h 12 (kid h n j))) ∧ h 31 (bd h n (h 11 (kid h n j)) / 2) = h 2 (bd h n (h 11 (kid h n j)) / 2) := by
  obtain ⟨m1, m2, m3, m4, m5, m6⟩ := kidM w hn hj
  have r := (gdN w hn).2.1 (h 11 (kid h n j)) m4.1 m4.2
  have l := w.o.K.le (bd h n (h 11 (kid h n j)) / 2) (by omega) (by omega)
  refine ⟨fun v hv => ?_, l.1⟩
  have := mvB_rg l.2 m4 m5 v hv
  omega
theorem cI.mv {h X : HS} {n : Int} {D : List Int} (w : Hd (Psi h)) (hn : 0 ≤ n ∧ n < h 9 8) {j : Nat} (hj : (j : Int) < h 15 n) (c : cI h n D X) (hl : D.length + 7 ≤ 2000) : ∃ Y, fX5_writeMove_d (h 11 (kid h n j)) (h 12 (kid h n j)) X = some Y ∧ cI h n (D ++ mvB (kOf h) (h 2) (bd h n) (h 11 (kid h n j)) (h 12 (kid h n j))) Y := by
  obtain ⟨m1, m2, m3, m4, m5, m6⟩ := kidM w hn hj
  have sz := c.2.2.2.1.1
  have c0 : cSt (kOf h) (h 1 5) (bd h n) X := ⟨by rw [c.c (a := 1) (by decide) (by decide)], fun s s0 s1 => by rw [c.1.c (a := 8) (by decide), atN_8 ⟨s0, s1⟩], fun i _ _ => by rw [c.c (a := 3) (by decide) (by decide)]; rfl, fun i j _ _ _ _ => by rw [c.c (a := 4) (by decide) (by decide), c.c (a := 5) (by decide) (by decide), c.c (a := 6) (by decide) (by decide)]; exact ⟨rfl, rfl, rfl⟩⟩
  have e := wmD2 (gdN w hn) c0 m4 m5 m6 (by omega)
  rw [c.c (a := 2) (by decide) (by decide)] at e
  have ul := mvB_len (K := kOf h) (L := h 2) (b := bd h n) (f := h 11 (kid h n j)) (t := h 12 (kid h n j))
  exact ⟨_, e, alD2_cI _ c (by omega) (kidB w hn hj).1⟩
/-! a line is left -/
theorem lv_fuel : ∀ (d nf nf2 : Nat) (X : HS), d < nf → d < nf2 → d ≤ 1000 → fX5_leaveLine_L12 nf (d : Int) X = fX5_leaveLine_L12 nf2 (d : Int) X
  | d, 0, nf2, X, h1, h2, h3 => by omega
  | d, _ + 1, 0, X, h1, h2, h3 => by omega
  | 0, nf + 1, nf2 + 1, X, h1, h2, h3 => by
    rw [fX5_leaveLine_L12, fX5_leaveLine_L12]
    rw [if_pos (by decide), if_pos (by decide)]
  | d + 1, nf + 1, nf2 + 1, X, h1, h2, h3 => by
    have ih : ∀ Y, fX5_leaveLine_L12 nf (((d + 1 : Nat) : Int) + -1) Y = fX5_leaveLine_L12 nf2 (((d + 1 : Nat) : Int) + -1) Y := fun Y => by
      rw [show ((d + 1 : Nat) : Int) + -1 = (d : Int) by omega]
      exact lv_fuel d nf nf2 Y (by omega) (by omega) (by omega)
    rw [fX5_leaveLine_L12, fX5_leaveLine_L12]
    simp only [ih]
theorem lv_top {h X : HS} {D : List Int} (w : Hd (Psi h)) (c : cI h 0 D X) : fX5_leaveLine X = some (-1, X) := by
  have n := w.o.R.n
  have wX := c.pc w ⟨by omega, by omega⟩
  have z := w.o.P.z.2.2.2
  unfold fX5_leaveLine
  rw [c.c08, pX4_depth wX.o.R (by rw [c.c (a := 9) (by decide) (by decide)]; omega), Option.bind_some, c.c (a := 14) (by decide) (by decide), z]
  show fX5_leaveLine_L12 (4999 + 1) 0 X = _
  rw [fX5_leaveLine_L12]
  rw [if_pos (by decide)]
theorem lv_step {h X : HS} {D : List Int} {n : Int} {j : Nat} (w : Hd (Psi h)) (hn : 0 ≤ n ∧ n < h 9 8) (hj : (j : Int) < h 15 n) (c : cI h (kid h n j) D X) : fX5_leaveLine X = if (j : Int) ≤ 0 then fX5_leaveLine (atN X n) else (fX3_append_d 41 (atN X n)).bind fun r3 => some ((j : Int) + 1, r3) := by
  obtain ⟨m1, m2, m3, -⟩ := kidM w hn hj
  obtain ⟨a1, a2, -⟩ := w.o.P.t (kid h n j) m1.1 m1.2
  have nn := w.o.R.n
  have gk := (w.o.R.g n hn.1 hn.2).2.2.2.2
  have dn := w.o.P.dp w.o.R n hn.1 hn.2
  have wX := c.pc w ⟨by omega, by omega⟩
  have c2 : cI h n D (atN X n) := c.go
  have wX2 := c2.pc w hn
  obtain ⟨d, hd⟩ : ∃ d : Nat, h 14 n = d := ⟨(h 14 n).toNat, by omega⟩
  have e2 : fX5_leaveLine (atN X n) = fX5_leaveLine_L12 zF (d : Int) (atN X n) := by
    unfold fX5_leaveLine
    rw [c2.c08, pX4_depth wX2.o.R (by rw [c2.c (a := 9) (by decide) (by decide)]; exact hn), Option.bind_some, c2.c (a := 14) (by decide) (by decide), hd]
  rw [e2]
  unfold fX5_leaveLine
  rw [c.c08, pX4_depth wX.o.R (by rw [c.c (a := 9) (by decide) (by decide)]; omega), Option.bind_some, c.c (a := 14) (by decide) (by decide), a2, m2, hd]
  show fX5_leaveLine_L12 (4999 + 1) ((d : Int) + 1) X = _
  have ep : fX4_placeOf (kid h n j) X = some (j : Int) := pX4_placeOf (c.R w).o (c.C w).o (by rw [c.c (a := 9) (by decide) (by decide)]; exact m1) (a := n) (by rw [c.c (a := 10) (by decide) (by decide)]; exact m2) (by rw [c.c (a := 9) (by decide) (by decide)]; exact hn) (j := j) (by rw [c.c (a := 15) (by decide) (by decide)]; exact hj) (c.k n j)
  have eu := c.up w m1
  rw [m2] at eu
  rw [fX5_leaveLine_L12]
  rw [wr_of (z := (d : Int) + 1) (by omega) (by omega), if_neg (by omega), c.c08, ep, Option.bind_some, eu, Option.bind_some, wr_of (z := (j : Int)) (by omega) (by omega), show (d : Int) + 1 + -1 = (d : Int) by omega, lv_fuel d 4999 zF (atN X n) (by omega) (by unfold zF; omega) (by omega)]
theorem lv_0 {h X : HS} {D : List Int} {n : Int} (w : Hd (Psi h)) (hn : 0 ≤ n ∧ n < h 9 8) (hk : 0 < h 15 n) (c : cI h (kid h n 0) D X) : fX5_leaveLine X = fX5_leaveLine (atN X n) := by
  rw [lv_step w hn (j := 0) hk c, if_pos (by decide)]
theorem lv_j {h X : HS} {D : List Int} {n : Int} {j : Nat} (w : Hd (Psi h)) (hn : 0 ≤ n ∧ n < h 9 8) (hj : (j : Int) < h 15 n) (j1 : 1 ≤ j) (c : cI h (kid h n j) D X) (hl : D.length < 2000) : ∃ Y, fX5_leaveLine X = some ((j : Int) + 1, Y) ∧ cI h n (D ++ [41]) Y := by
  obtain ⟨e1, e2⟩ := (c.go (p := n)).app hl (v := 41) (by omega)
  rw [lv_step w hn hj c, if_neg (by omega), e1, Option.bind_some]
  exact ⟨_, rfl, e2⟩
end ZGCLS
end
section
section ZGWALK
/-! the class's turns over a game -/
theorem turn_leaf {h X : HS} {n stay : Int} {D : List Int} {t nf : Nat} (w : Hd (Psi h)) (hn : 0 ≤ n ∧ n < h 9 8) (c : cI h n D X) (hk : h 15 n ≤ 0) (ht : t < 800) : fX5_writeGame_L21 (nf + 1) stay 0 (t : Int) X = (fX5_leaveLine X).bind fun r => fX5_writeGame_L21 nf stay r.1 ((t + 1 : Nat) : Int) r.2 := by
  have wX := c.pc w hn
  have e9 : X 9 = h 9 := c.c (by decide) (by decide)
  have e15 : X 15 = h 15 := c.c (by decide) (by decide)
  have ec := pX4_childN wX.o (p := n) (x := 0) (by rw [e9]; exact hn) (by unfold zr; omega) (Or.inr (by rw [e15]; exact hk))
  rw [fX5_writeGame_L21]
  unfold fX5_writeGame_b91 fX5_goOn fX5_goOn_b11 fX5_goOn_b32
  rw [wr_of (z := (t : Int)) (by omega) (by omega), if_neg (by omega), if_neg (show ¬ wr 0 = -1 by decide), c.c08, ec, Option.bind_some, if_pos (show wr (-1) = -1 by decide), if_pos wr_0, if_pos (show wr (-1) = -1 by decide), if_pos (show wr (-1) = -1 by decide), Option.bind_some, if_pos (show wr (-1) = -1 by decide)]
  cases fX5_leaveLine X with
  | none => rfl
  | some r => rfl
theorem turn_0 {h X : HS} {n : Int} {D : List Int} {t : Nat} (w : Hd (Psi h)) (hn : 0 ≤ n ∧ n < h 9 8) (c : cI h n D X) (hk : 0 < h 15 n) (ht : t < 800) (hl : D.length + 8 ≤ 2000) : ∃ Y, cI h n (mvt h n 0 D) Y ∧ ∀ (nf : Nat) (stay : Int), fX5_writeGame_L21 (nf + 1) stay 0 (t : Int) X = fX5_writeGame_L21 nf stay 1 ((t + 1 : Nat) : Int) Y := by
  have wX := c.pc w hn
  have nn := w.o.R.n
  have e9 : X 9 = h 9 := c.c (by decide) (by decide)
  have e15 : X 15 = h 15 := c.c (by decide) (by decide)
  obtain ⟨m1, m2, m3, m4, m5, m6⟩ := kidM w hn (j := 0) hk
  have ec := pX4_childC wX.o (p := n) (x := 0) (by rw [e9]; exact hn) (by rw [e15]; omega)
  rw [show (0 : Int).toNat = 0 from rfl, c.k n 0] at ec
  obtain ⟨S, s1, s2⟩ := c.sp (by omega)
  have sl := spc_len (D := D)
  obtain ⟨Y, y1, y2⟩ := s2.mv w hn (j := 0) hk (by omega)
  have wS := s2.pc w hn
  have f1 : fX4_from (kid h n 0) S = some (h 11 (kid h n 0)) := by
    unfold fX4_from
    rw [pX4_row (a := 11) (by unfold zr; omega) (by rw [s2.c (a := 9) (by decide) (by decide)]; exact nn) (by rw [s2.c (a := 9) (by decide) (by decide)]; omega), s2.c (a := 11) (by decide) (by decide)]
  have f2 : fX4_to (kid h n 0) S = some (h 12 (kid h n 0)) := by
    unfold fX4_to
    rw [pX4_row (a := 12) (by unfold zr; omega) (by rw [s2.c (a := 9) (by decide) (by decide)]; exact nn) (by rw [s2.c (a := 9) (by decide) (by decide)]; omega), s2.c (a := 12) (by decide) (by decide)]
  refine ⟨Y, y2, fun nf stay => ?_⟩
  have wk := wr_of (z := kid h n 0) (by omega) (by omega)
  rw [fX5_writeGame_L21]
  unfold fX5_writeGame_b91 fX5_goOn fX5_writeOpening
  rw [wr_of (z := (t : Int)) (by omega) (by omega), if_neg (by omega), if_neg (show ¬ wr 0 = -1 by decide), c.c08, ec, Option.bind_some, wk, if_neg (by omega), if_pos (show wr 0 ≤ 0 by decide), Option.bind_some, s1, Option.bind_some, f1, Option.bind_some, f2, Option.bind_some, y1, Option.bind_some, if_pos wr_0, if_neg (by omega), Option.bind_some]
  rfl
theorem turn_j {h X : HS} {n : Int} {D : List Int} {t j : Nat} (w : Hd (Psi h)) (hn : 0 ≤ n ∧ n < h 9 8) (c : cI h n D X) (hj : (j : Int) < h 15 n) (j1 : 1 ≤ j) (ht : t < 800) (hl : D.length + 10 ≤ 2000) : ∃ Y, cI h (kid h n j) (mvt h n j (spc D ++ [40])) Y ∧ ∀ (nf : Nat) (stay : Int), fX5_writeGame_L21 (nf + 1) stay (j : Int) (t : Int) X = fX5_writeGame_L21 nf stay 0 ((t + 1 : Nat) : Int) Y := by
  have wX := c.pc w hn
  have nn := w.o.R.n
  have gk := (w.o.R.g n hn.1 hn.2).2.2.2.2
  have e9 : X 9 = h 9 := c.c (by decide) (by decide)
  have e15 : X 15 = h 15 := c.c (by decide) (by decide)
  obtain ⟨m1, m2, m3, m4, m5, m6⟩ := kidM w hn hj
  have ec := pX4_childC wX.o (p := n) (x := (j : Int)) (by rw [e9]; exact hn) (by rw [e15]; omega)
  rw [Int.toNat_natCast, c.k n j] at ec
  obtain ⟨S, s1, s2⟩ := c.sp (by omega)
  have sl := spc_len (D := D)
  obtain ⟨a1, a2⟩ := s2.app (v := 40) (by omega) (by omega)
  obtain ⟨Q, q1, q2⟩ := a2.sp (by rw [List.length_append]; simp only [List.length_cons, List.length_nil]; omega)
  rw [spc_40] at q2
  obtain ⟨Y, y1, y2⟩ := q2.mv w hn hj (by rw [List.length_append]; simp only [List.length_cons, List.length_nil]; omega)
  have f1 : fX4_from (kid h n j) Q = some (h 11 (kid h n j)) := by
    unfold fX4_from
    rw [pX4_row (a := 11) (by unfold zr; omega) (by rw [q2.c (a := 9) (by decide) (by decide)]; exact nn) (by rw [q2.c (a := 9) (by decide) (by decide)]; omega), q2.c (a := 11) (by decide) (by decide)]
  have f2 : fX4_to (kid h n j) Q = some (h 12 (kid h n j)) := by
    unfold fX4_to
    rw [pX4_row (a := 12) (by unfold zr; omega) (by rw [q2.c (a := 9) (by decide) (by decide)]; exact nn) (by rw [q2.c (a := 9) (by decide) (by decide)]; omega), q2.c (a := 12) (by decide) (by decide)]
  have ed := y2.dn w m1 m2
  refine ⟨atN Y (kid h n j), ?_, fun nf stay => ?_⟩
  · have := y2.go (p := kid h n j)
    unfold mvt
    rw [spc_40]
    exact this
  have wk := wr_of (z := kid h n j) (by omega) (by omega)
  have wj := wr_of (z := (j : Int)) (by omega) (by omega)
  rw [fX5_writeGame_L21]
  unfold fX5_writeGame_b91 fX5_goOn fX5_writeOpening fX5_goOn_b11 fX5_goOn_b32
  rw [wr_of (z := (t : Int)) (by omega) (by omega), if_neg (by omega), wj, if_neg (by omega), c.c08, ec, Option.bind_some, wk, if_neg (by omega), if_neg (by omega), s1, Option.bind_some, a1, Option.bind_some, Option.bind_some, q1, Option.bind_some, f1, Option.bind_some, f2, Option.bind_some, y1, Option.bind_some, if_neg (by omega), if_neg (by omega), if_neg (by omega), ed, Option.bind_some, Option.bind_some]
  rfl
theorem turn_k {h X : HS} {n stay : Int} {D : List Int} {t j nf : Nat} (w : Hd (Psi h)) (hn : 0 ≤ n ∧ n < h 9 8) (c : cI h n D X) (hj : (j : Int) = h 15 n) (j1 : 1 ≤ j) (ht : t < 800) : fX5_writeGame_L21 (nf + 1) stay (j : Int) (t : Int) X = fX5_writeGame_L21 nf stay 0 ((t + 1 : Nat) : Int) (atN X (kid h n 0)) := by
  have wX := c.pc w hn
  have nn := w.o.R.n
  have gk := (w.o.R.g n hn.1 hn.2).2.2.2.2
  have e9 : X 9 = h 9 := c.c (by decide) (by decide)
  have e15 : X 15 = h 15 := c.c (by decide) (by decide)
  obtain ⟨m1, m2, m3, m4, m5, m6⟩ := kidM w hn (j := 0) (show ((0 : Nat) : Int) < h 15 n by omega)
  have en := pX4_childN wX.o (p := n) (x := (j : Int)) (by rw [e9]; exact hn) (by unfold zr; omega) (Or.inr (by rw [e15]; omega))
  have ec := pX4_childC wX.o (p := n) (x := 0) (by rw [e9]; exact hn) (by rw [e15]; omega)
  rw [show (0 : Int).toNat = 0 from rfl, c.k n 0] at ec
  have ed := c.dn w m1 m2
  have wk := wr_of (z := kid h n 0) (by omega) (by omega)
  have wj := wr_of (z := (j : Int)) (by omega) (by omega)
  rw [fX5_writeGame_L21]
  unfold fX5_writeGame_b91 fX5_goOn fX5_goOn_b11 fX5_goOn_b32
  rw [wr_of (z := (t : Int)) (by omega) (by omega), if_neg (by omega), wj, if_neg (by omega), c.c08, en, Option.bind_some, if_pos (show wr (-1) = -1 by decide), if_neg (by omega), if_pos (show wr (-1) = -1 by decide), ec, Option.bind_some, wk, if_neg (by omega), ed, Option.bind_some, Option.bind_some]
  rfl
/-- all that is below a node is written, then its line is left -/
theorem cwalk {h : HS} {stay : Int} (w : Hd (Psi h)) : ∀ (f : Nat) (n : Int) (D : List Int) (X : HS) (t nf : Nat), 0 ≤ n ∧ n < h 9 8 → h 9 8 ≤ n + f → cI h n D X → D.length + 10 * gN h f n ≤ 2000 → t + (2 * gN h f n + 1) ≤ 800 → ∃ Y, cI h n (gT h f n D) Y ∧ fX5_writeGame_L21 (nf + (2 * gN h f n + 1)) stay 0 (t : Int) X = (fX5_leaveLine Y).bind fun r => fX5_writeGame_L21 nf stay r.1 ((t + (2 * gN h f n + 1) : Nat) : Int) r.2
  | 0, n, D, X, t, nf, hn, hf, c, hl, ht => by omega
  | f + 1, n, D, X, t, nf, hn, hf, c, hl, ht => by
    by_cases k0 : h 15 n ≤ 0
    · rw [gN_z k0] at hl ht ⊢
      refine ⟨X, ?_, turn_leaf w hn c k0 (by omega)⟩
      unfold gT
      rw [if_pos k0]
      exact c
    · have gk := (w.o.R.g n hn.1 hn.2).2.2.2.2
      obtain ⟨m1, m2, m3, -⟩ := kidM w hn (j := 0) (show ((0 : Nat) : Int) < h 15 n by omega)
      have inner : ∀ (m j : Nat) (D : List Int) (X : HS) (t nf : Nat), (j : Int) + m = h 15 n → 1 ≤ j → cI h n D X → D.length + 10 * (gN h f (kid h n 0) + gCn h (gN h f) n m j) ≤ 2000 → t + (2 * (gN h f (kid h n 0) + gCn h (gN h f) n m j) + 2) ≤ 800 → ∃ Y, cI h n (gT h f (kid h n 0) (gV h (gT h f) n m j D)) Y ∧ fX5_writeGame_L21 (nf + (2 * (gN h f (kid h n 0) + gCn h (gN h f) n m j) + 2)) stay (j : Int) (t : Int) X = (fX5_leaveLine Y).bind fun r => fX5_writeGame_L21 nf stay r.1 ((t + (2 * (gN h f (kid h n 0) + gCn h (gN h f) n m j) + 2) : Nat) : Int) r.2 := by
        intro m
        induction m with
        | zero =>
          intro j D X t nf hj j1 c hl ht
          have ez : gCn h (gN h f) n 0 j = 0 := rfl
          simp only [ez, Nat.add_zero] at hl ht ⊢
          obtain ⟨Y, y1, y2⟩ := cwalk w f (kid h n 0) D (atN X (kid h n 0)) (t + 1) nf (by omega) (by omega) c.go (by omega) (by omega)
          refine ⟨atN Y n, y1.go, ?_⟩
          rw [← lv_0 w hn (by omega) y1, show nf + (2 * gN h f (kid h n 0) + 2) = (nf + (2 * gN h f (kid h n 0) + 1)) + 1 by omega, turn_k w hn c (by omega) j1 (by omega), y2, show t + 1 + (2 * gN h f (kid h n 0) + 1) = t + (2 * gN h f (kid h n 0) + 2) by omega]
        | succ m ih =>
          intro j D X t nf hj j1 c hl ht
          have ez : gCn h (gN h f) n (m + 1) j = 1 + gN h f (kid h n j) + gCn h (gN h f) n m (j + 1) := rfl
          rw [ez] at hl ht ⊢
          obtain ⟨p1, p2, p3, -⟩ := kidM w hn (j := j) (by omega)
          obtain ⟨A, a1, a2⟩ := turn_j (t := t) w hn c (j := j) (by omega) j1 (by omega) (by omega)
          have l1 := mvt_len40 (h := h) (n := n) (j := j) (D := D)
          obtain ⟨B, b1, b2⟩ := cwalk w f (kid h n j) (mvt h n j (spc D ++ [40])) A (t + 1) (nf + (2 * (gN h f (kid h n 0) + gCn h (gN h f) n m (j + 1)) + 2)) (by omega) (by omega) a1 (by omega) (by omega)
          have l2 := gT_len (h := h) f (kid h n j) (mvt h n j (spc D ++ [40]))
          obtain ⟨E, e1, e2⟩ := lv_j w hn (j := j) (by omega) j1 b1 (by omega)
          obtain ⟨Y, y1, y2⟩ := ih (j + 1) _ E (t + 1 + (2 * gN h f (kid h n j) + 1)) nf (by omega) (by omega) e2 (by rw [List.length_append]; simp only [List.length_cons, List.length_nil]; omega) (by omega)
          refine ⟨Y, y1, ?_⟩
          rw [show nf + (2 * (gN h f (kid h n 0) + (1 + gN h f (kid h n j) + gCn h (gN h f) n m (j + 1))) + 2) = (nf + (2 * (gN h f (kid h n 0) + gCn h (gN h f) n m (j + 1)) + 2) + (2 * gN h f (kid h n j) + 1)) + 1 by omega, a2, b2, e1, Option.bind_some]
          dsimp only
          rw [show ((j : Int) + 1) = ((j + 1 : Nat) : Int) by omega, y2, show t + 1 + (2 * gN h f (kid h n j) + 1) + (2 * (gN h f (kid h n 0) + gCn h (gN h f) n m (j + 1)) + 2) = t + (2 * (gN h f (kid h n 0) + (1 + gN h f (kid h n j) + gCn h (gN h f) n m (j + 1))) + 2) by omega]
      rw [gN_s (by omega)] at hl ht ⊢
      obtain ⟨A, a1, a2⟩ := turn_0 (t := t) w hn c (by omega) (by omega) (by omega)
      have l1 := mvt_len (h := h) (n := n) (j := 0) (D := D)
      obtain ⟨Y, y1, y2⟩ := inner ((h 15 n).toNat - 1) 1 (mvt h n 0 D) A (t + 1) nf (by omega) (Nat.le_refl _) a1 (by omega) (by omega)
      refine ⟨Y, ?_, ?_⟩
      · unfold gT
        rw [if_neg k0]
        exact y1
      · rw [show nf + (2 * (1 + gN h f (kid h n 0) + gCn h (gN h f) n ((h 15 n).toNat - 1) 1) + 1) = (nf + (2 * (gN h f (kid h n 0) + gCn h (gN h f) n ((h 15 n).toNat - 1) 1) + 2)) + 1 by omega, a2]
        rw [show t + 1 + (2 * (gN h f (kid h n 0) + gCn h (gN h f) n ((h 15 n).toNat - 1) 1) + 2) = t + (2 * (1 + gN h f (kid h n 0) + gCn h (gN h f) n ((h 15 n).toNat - 1) 1) + 1) by omega] at y2
        exact y2
end ZGWALK
end
section
section ZGREF
/-! the reference writes a game -/
def rI (h g0 : HS) (D : List Int) (g : HS) : Prop := (∀ (a : Nat) (b : Int), 30 ≤ a → ¬ scr a b → a ≠ 35 → g a b = h a b) ∧ (∀ a : Nat, a < 30 → g a = g0 a) ∧ g 50 = g0 50 ∧ g 30 0 = g0 30 0 ∧ MT D g ∧ byL D
theorem rI.c {h g0 g : HS} {D : List Int} (r : rI h g0 D g) {a : Nat} (ha : 30 < a ∧ ¬ (a = 50 ∨ a = 36 ∨ a = 40 ∨ a = 41 ∨ a = 42 ∨ a = 90 ∨ a = 91 ∨ a = 35)) : g a = h a := by
  funext b
  exact r.1 a b (by omega) (fun k => ha.2 (by rcases k with k | k | k <;> omega)) (by omega)
theorem rI.P {h g0 g g1 : HS} {D D1 : List Int} (r : rI h g0 D g) (f : frP g1 g) (m : MT D1 g1) (b1 : byL D1) : rI h g0 D1 g1 := by
  refine ⟨fun a b ha hn h35 => ?_, fun a ha => by rw [f.1 a (by omega) (by omega) (by omega), r.2.1 a ha], by rw [f.1 50 (by decide) (by decide) (by decide), r.2.2.1], by rw [f.2 0 (by decide) (by decide), r.2.2.2.1], m, b1⟩
  by_cases a30 : a = 30
  · subst a30
    rw [f.2 b (fun k => hn (Or.inr (Or.inr ⟨rfl, by omega⟩))) (fun k => hn (Or.inr (Or.inr ⟨rfl, by omega⟩)))]
    exact r.1 30 b ha hn h35
  · rw [f.1 a (fun k => hn (Or.inl (by omega))) (fun k => hn (Or.inl (by omega))) a30]
    exact r.1 a b ha hn h35
theorem mBlank {g : HS} {D : List Int} (m : MT D g) (b : byL D) (hl : D.length < 2000) : ∃ g1, fX6_blank g = some g1 ∧ MT (spc D) g1 ∧ frP g1 g := by
  have sz := m.2.1
  unfold fX6_blank spc
  rw [wr_of (z := g 30 23) (by omega) (by omega)]
  by_cases q0 : D.length = 0
  · rw [if_pos (by omega), if_pos q0]
    exact ⟨g, rfl, m, frP_rf⟩
  · have e := m.2.2 (D.length - 1) (by omega)
    rw [show ((D.length - 1 : Nat) : Int) = g 30 23 - 1 by omega] at e
    have bv := b _ (List.mem_of_getElem? e)
    rw [if_neg (by omega), if_neg q0, e, if_pos (by omega), wr_of (z := g 41 (g 30 23 - 1)) (by omega) (by omega)]
    by_cases q1 : g 41 (g 30 23 - 1) = 40
    · rw [if_pos q1, if_pos (by rw [q1])]
      exact ⟨g, rfl, m, frP_rf⟩
    · rw [if_neg q1, if_neg (fun k => q1 (Option.some.inj k))]
      obtain ⟨g1, e1, m1, f1⟩ := mPut m hl 32
      rw [e1, Option.bind_some]
      exact ⟨g1, rfl, m1, f1⟩
theorem rI.put {h g0 g : HS} {D : List Int} {v : Int} (r : rI h g0 D g) (hl : D.length < 2000) (hv : 0 ≤ v ∧ v ≤ 255) : ∃ g1, fX6_put_ v g = some g1 ∧ rI h g0 (D ++ [v]) g1 := by
  obtain ⟨g1, e1, m1, f1⟩ := mPut r.2.2.2.2.1 hl v
  exact ⟨g1, e1, r.P f1 m1 (by_app r.2.2.2.2.2 (by_1 hv))⟩
theorem rI.sp {h g0 g : HS} {D : List Int} (r : rI h g0 D g) (hl : D.length < 2000) : ∃ g1, fX6_blank g = some g1 ∧ rI h g0 (spc D) g1 := by
  obtain ⟨g1, e1, m1, f1⟩ := mBlank r.2.2.2.2.1 r.2.2.2.2.2 hl
  exact ⟨g1, e1, r.P f1 m1 (spc_by r.2.2.2.2.2)⟩
theorem rI.set {h g0 g : HS} {D : List Int} (w : Hd (Psi h)) (r : rI h g0 D g) {n : Int} (hn : 0 ≤ n ∧ n < h 9 8) : ∃ g1, fX6_set n g = some g1 ∧ rI h g0 D g1 ∧ (∀ s : Int, 0 ≤ s → s < 64 → g1 35 s = bd h n s) ∧ (∀ a : Nat, a ≠ 35 → a ≠ 40 → g1 a = g a) := by
  obtain ⟨g1, e1, e2, e3⟩ := set_at w.o (h6 := g) (r.c (by decide)) (r.c (by decide)) hn.1 hn.2
  refine ⟨g1, e1, ⟨fun a b ha hs1 h35 => ?_, fun a ha => by rw [e2 a (by omega) (by omega), r.2.1 a ha], by rw [e2 50 (by decide) (by decide), r.2.2.1], by rw [e2 30 (by decide) (by decide), r.2.2.2.1], ⟨by rw [e2 30 (by decide) (by decide)]; exact r.2.2.2.2.1.1, by rw [e2 30 (by decide) (by decide), e2 41 (by decide) (by decide)]; exact r.2.2.2.2.1.2⟩, r.2.2.2.2.2⟩, e3, e2⟩
  rw [e2 a h35 (fun k => hs1 (Or.inl (by omega)))]
  exact r.1 a b ha hs1 h35
theorem rI.node {h g0 g : HS} {D : List Int} (w : Hd (Psi h)) (r : rI h g0 D g) {n : Int} (hn : 0 ≤ n ∧ n < h 9 8) {j : Nat} (hj : (j : Int) < h 15 n) (hl : D.length + 8 ≤ 2000) : ∃ g1, fX6_putNode (kid h n j) g = some g1 ∧ rI h g0 (mvt h n j D) g1 := by
  obtain ⟨m1, m2, m3, m4, m5, m6⟩ := kidM w hn hj
  have hk : 0 ≤ kid h n j ∧ kid h n j < h 9 8 := by omega
  obtain ⟨S, s1, s2, s3, -⟩ := r.set w hn
  obtain ⟨B, b1, bm, bf⟩ := mBlank s2.2.2.2.2.1 s2.2.2.2.2.2 (by omega)
  have b2 : rI h g0 (spc D) B := s2.P bf bm (spc_by s2.2.2.2.2.2)
  have sl := spc_len (D := D)
  have ms0 := w.o.ms (zqm.rf (h := h))
  have ms : mSt 35 (kOf h) (bd h n) B := ⟨fun s s0 s1 => by rw [bf.1 35 (by decide) (by decide) (by decide)]; exact s3 s s0 s1, fun i i0 i1 => by rw [b2.c (a := 32) (by decide)]; exact ms0.2.1 i i0 i1, fun i j i0 i1 j0 j1 => by rw [b2.c (a := 33) (by decide)]; exact ms0.2.2 i j i0 i1 j0 j1⟩
  obtain ⟨kb1, kb2⟩ := kidB w hn hj
  obtain ⟨G, g1, gm, gf⟩ := mMove (gdN w hn) m4 m5 m6 (L := h 2) (w := spc D) (by omega) ms bm (by rw [b2.c (a := 31) (by decide)]; exact kb2)
  have q1 := (pX6_get w.o (g := g) (r.c (by decide)) hk).1
  have q2 := (pX6_get w.o (g := B) (b2.c (by decide)) hk).2
  unfold fX6_putNode
  rw [q1, Option.bind_some, m2, s1, Option.bind_some, b1, Option.bind_some, q2.1, Option.bind_some, q2.2.1, Option.bind_some, g1, Option.bind_some]
  exact ⟨G, rfl, b2.P gf gm (by_app (spc_by r.2.2.2.2.2) kb1)⟩
/-- all that is below a node -/
theorem rwalk {h g0 : HS} (w : Hd (Psi h)) : ∀ (f : Nat) (n : Int) (D : List Int) (g : HS) (d nf : Nat), 0 ≤ n ∧ n < h 9 8 → h 9 8 ≤ n + f → h 9 8 ≤ n + d → h 9 8 ≤ n + nf → rI h g0 D g → D.length + 10 * gN h f n ≤ 2000 → ∃ g1, fX6_putBelow_L2 (fun a hh => fX6_putBelow d a hh) nf n g = some g1 ∧ rI h g0 (gT h f n D) g1
  | 0, n, D, g, d, nf, hn, hf, hd, hnf, r, hl => by omega
  | f + 1, n, D, g, d, 0, hn, hf, hd, hnf, r, hl => by omega
  | f + 1, n, D, g, d, nf + 1, hn, hf, hd, hnf, r, hl => by
    have gk := (w.o.R.g n hn.1 hn.2).2.2.2.2
    have nn := w.o.R.n
    have q4 : ∀ (D : List Int) (g : HS), rI h g0 D g → fX6_get n 4 g = some (h 15 n) := fun D g r => (pX6_get w.o (g := g) (r.c (by decide)) hn).2.2.2.2
    have wk := wr_of (z := h 15 n) (by omega) (by omega)
    rw [fX6_putBelow_L2]
    rw [q4 D g r, Option.bind_some, wk]
    unfold gT
    by_cases k0 : h 15 n ≤ 0
    · rw [if_pos k0, if_pos k0]
      exact ⟨g, rfl, r⟩
    · obtain ⟨m1, m2, m3, -⟩ := kidM w hn (j := 0) (show ((0 : Nat) : Int) < h 15 n by omega)
      rw [gN_s (by omega)] at hl
      obtain ⟨A, a1, a2⟩ := r.node w hn (j := 0) (by omega) (by omega)
      have l1 := mvt_len (h := h) (n := n) (j := 0) (D := D)
      have c0 : ∀ (D : List Int) (g : HS), rI h g0 D g → ∀ j : Nat, (j : Int) < h 15 n → fX6_continuation0 n (j : Int) g = some (kid h n j) := fun D g r j hj => pX6_cont0 w.o (g := g) (r.c (by decide)) hn hj
      have inner : ∀ (m j : Nat) (D : List Int) (g : HS) (nf2 : Nat), (j : Int) + m = h 15 n → 1 ≤ j → m < nf2 → rI h g0 D g → D.length + 10 * (gN h f (kid h n 0) + gCn h (gN h f) n m j) ≤ 2000 → ∃ g1, fX6_putBelow_L30 (fun a hh => fX6_putBelow d a hh) (fun a0 hh => fX6_putBelow_L2 (fun a hh => fX6_putBelow d a hh) nf a0 hh) nf2 n (j : Int) g = some g1 ∧ rI h g0 (gT h f (kid h n 0) (gV h (gT h f) n m j D)) g1 := by
        intro m
        induction m with
        | zero =>
          intro j D g nf2 hj j1 hm r hl
          obtain ⟨nf2, rfl⟩ : ∃ x, nf2 = x + 1 := ⟨nf2 - 1, by omega⟩
          have ez : gCn h (gN h f) n 0 j = 0 := rfl
          rw [ez, Nat.add_zero] at hl
          obtain ⟨G, e1, e2⟩ := rwalk w f (kid h n 0) D g d nf (by omega) (by omega) (by omega) (by omega) r hl
          rw [fX6_putBelow_L30]
          unfold fX6_putBelow_b89
          rw [q4 D g r, Option.bind_some, wk, wr_of (z := (j : Int)) (by omega) (by omega), if_pos (by omega)]
          have cc := c0 D g r 0 (by omega)
          rw [show ((0 : Nat) : Int) = 0 from rfl] at cc
          rw [cc, Option.bind_some]
          exact ⟨G, e1, e2⟩
        | succ m ih =>
          intro j D g nf2 hj j1 hm r hl
          obtain ⟨nf2, rfl⟩ : ∃ x, nf2 = x + 1 := ⟨nf2 - 1, by omega⟩
          have ez : gCn h (gN h f) n (m + 1) j = 1 + gN h f (kid h n j) + gCn h (gN h f) n m (j + 1) := rfl
          rw [ez] at hl
          obtain ⟨p1, p2, p3, -⟩ := kidM w hn (j := j) (by omega)
          obtain ⟨d2, rfl⟩ : ∃ x, d = x + 1 := ⟨d - 1, by omega⟩
          have sl := spc_len (D := D)
          obtain ⟨S, s1, s2⟩ := r.sp (by omega)
          obtain ⟨P, t1, t2⟩ := s2.put (v := 40) (by omega) (by omega)
          have l2 := mvt_len40 (h := h) (n := n) (j := j) (D := D)
          obtain ⟨Q, u1, u2⟩ := t2.node w hn (j := j) (by omega) (by rw [List.length_append]; simp only [List.length_cons, List.length_nil]; omega)
          obtain ⟨B, b1, b2⟩ := rwalk w f (kid h n j) _ Q d2 zF (by omega) (by omega) (by omega) (by unfold zF; omega) u2 (by omega)
          have l3 := gT_len (h := h) f (kid h n j) (mvt h n j (spc D ++ [40]))
          obtain ⟨E, v1, v2⟩ := b2.put (v := 41) (by omega) (by omega)
          obtain ⟨G, e1, e2⟩ := ih (j + 1) _ E nf2 (by omega) (by omega) (by omega) v2 (by rw [List.length_append]; simp only [List.length_cons, List.length_nil]; omega)
          refine ⟨G, ?_, e2⟩
          have ekr : fX6_putBelow (d2 + 1) (kid h n j) Q = some B := b1
          rw [fX6_putBelow_L30]
          rw [q4 D g r, Option.bind_some, wk, wr_of (z := (j : Int)) (by omega) (by omega), if_neg (by omega), r.2.2.2.2.1.1, if_pos wr_0, s1, Option.bind_some, t1, Option.bind_some, c0 _ P t2 j (by omega), Option.bind_some, u1, Option.bind_some, c0 _ Q u2 j (by omega), Option.bind_some, ekr, Option.bind_some, v1, Option.bind_some, show (j : Int) + 1 = ((j + 1 : Nat) : Int) by omega]
          exact e1
      obtain ⟨G, e1, e2⟩ := inner ((h 15 n).toNat - 1) 1 (mvt h n 0 D) A zF (by omega) (Nat.le_refl _) (by unfold zF; omega) a2 (by omega)
      have cc := c0 D g r 0 (by omega)
      rw [show ((0 : Nat) : Int) = 0 from rfl] at cc
      rw [if_neg k0, if_neg k0, r.2.2.2.2.1.1, if_pos wr_0, cc, Option.bind_some, a1, Option.bind_some]
      exact ⟨G, e1, e2⟩
end ZGREF
end
section
section ZCASE17
theorem cI.v {h X : HS} {q : Int} {D : List Int} {v : Int → Int} (c : cI h q D X) : cI h q D (h23 X v) := ⟨fun a b ha hn => by
  rw [h23_ne (fun k => hn (Or.inl (by omega)))]
  exact c.1 a b ha hn, fun a ha => by rw [h23_ne (by omega), c.2.1 a ha], by rw [h23_ne (by decide)]; exact c.2.2.1, by rw [h23_ne (by decide), h23_ne (by decide)]; exact c.2.2.2.1, c.2.2.2.2⟩
/-- the class's text of a game -/
theorem gameC {h : HS} (w : Hd (Psi h)) : ∃ Z, fX5_writeGame h = some (0, ((gT h 200 0 []).length : Int), hsw Z) ∧ cI h (h 0 8) (gT h 200 0 []) Z := by
  have n := w.o.R.n
  have p := w.o.P.n
  have gn := gN_le w 200
  obtain ⟨v, ev⟩ := visit_at w.o.cc (p := 0) (by omega) (by omega) p.1.1 p.1.2
  rw [atN_self w.o.cc] at ev
  obtain ⟨W, eW⟩ : ∃ W, W = hs (hs (atN (h23 h v) 0) 21 1 0) 21 2 0 := ⟨_, rfl⟩
  have Wne : ∀ a : Nat, a ≠ 21 → W a = atN (h23 h v) 0 a := fun a ha => by rw [eW, hs_ne _ _ _ ha, hs_ne _ _ _ ha]
  have c0 : cI h 0 [] W := by
    have q := atN_qc (p := 0) (X := h23 h v) (h := h) (q := h 0 8) (by rw [atN_self w.o.cc]; exact h23_sq.qc)
    refine ⟨fun a b ha hn => ?_, fun a ha => ?_, by rw [eW, hs_self], ?_, fun x hx => absurd hx List.not_mem_nil⟩
    · rw [Wne a (fun k => hn (Or.inl (by omega)))]
      exact q a b ha hn
    · rw [Wne a (by omega), atN_ne (by omega) (by omega), h23_ne (by omega)]
    · have e1 : W 21 1 = 0 := by rw [eW, hs_at, if_pos rfl, if_neg (by decide), hs_self]
      rw [e1]
      exact txt_nil
  obtain ⟨Y, y1, y2⟩ := cwalk (stay := h 0 8) w 200 0 [] W 0 (zF - (2 * gN h 200 0 + 1)) (by omega) (by omega) c0 (by simp only [List.length_nil]; omega) (by omega)
  rw [lv_top w y1, Option.bind_some, show zF - (2 * gN h 200 0 + 1) + (2 * gN h 200 0 + 1) = zF by unfold zF; omega] at y2
  dsimp only at y2
  obtain ⟨m, hm⟩ : ∃ m, zF - (2 * gN h 200 0 + 1) = m + 1 := ⟨zF - (2 * gN h 200 0 + 1) - 1, by unfold zF; omega⟩
  have wY := y1.pc w ⟨by omega, by omega⟩
  have eY9 : Y 9 = h 9 := y1.c (by decide) (by decide)
  obtain ⟨v2, ev2⟩ := visit_at wY.o (p := h 0 8) p.1.1 (by rw [eY9]; exact p.1.2) (q := 0) (by omega) (by rw [eY9]; omega)
  have es := atN_self wY.o
  rw [y1.c08] at es
  rw [es] at ev2
  obtain ⟨Z, eZ⟩ : ∃ Z, Z = atN (h23 Y v2) (h 0 8) := ⟨_, rfl⟩
  have cZ : cI h (h 0 8) (gT h 200 0 []) Z := by
    rw [eZ]
    exact (y1.v).go
  have sz := cZ.2.2.2.1.1
  have e105 : fX5_writeGame_b105 (h 0 8) Y = some (0, ((gT h 200 0 []).length : Int), hsw Z) := by
    unfold fX5_writeGame_b105 fX3_hasSpilled_d fX3_size_d
    rw [ev2, Option.bind_some, ← eZ, cZ.2.2.1, if_pos (Or.inl rfl), Option.bind_some, if_pos wr_0, Option.bind_some, sz]
  have eL : fX5_writeGame_L21 (m + 1) (h 0 8) (-1) ((0 + (2 * gN h 200 0 + 1) : Nat) : Int) Y = some (0, ((gT h 200 0 []).length : Int), hsw Z) := by
    rw [fX5_writeGame_L21]
    rw [if_pos (show wr (-1) = -1 by decide), ite_self]
    exact e105
  rw [hm, eL] at y2
  refine ⟨Z, ?_, cZ⟩
  unfold fX5_writeGame fX3_wipe_d
  rw [ev, Option.bind_some, if_pos (Or.inl rfl), Option.bind_some, ← eW]
  exact y2
theorem hsw_ne {h : HS} {a : Nat} (ha : ¬ (a = 19 ∨ a = 20 ∨ a = 21 ∨ a = 22)) : hsw h a = h a := by
  unfold hsw zsw
  rw [if_neg (by omega), if_neg (by omega), if_neg (by omega), if_neg (by omega)]
theorem qc_17 {h : HS} (w0 : Psi h) : ∃ o, fL_c17 h = some o ∧ Psi o := by
  have w : Hd (Psi h) := Hd.i w0
  clear w0
  have eg : fL_c17 h = gC (fL_writeGame h) fX6_writeGame := rfl
  have n := w.o.R.n
  have p := w.o.P.n
  have gn := gN_le w 200
  obtain ⟨Z, z1, z2⟩ := gameC w
  obtain ⟨u, eu⟩ : ∃ u, u = gT h 200 0 [] := ⟨_, rfl⟩
  have ul := gT_len (h := h) 200 0 []
  rw [← eu] at z1 z2 ul
  simp only [List.length_nil] at ul
  have qZ : zqc Z h := by
    have := z2.1
    rw [atN_self w.o.cc] at this
    exact this
  obtain ⟨X, eX⟩ : ∃ X, X = hsw Z := ⟨_, rfl⟩
  have X19 : X 19 = Z 21 := by rw [eX]; rfl
  have X20 : X 20 = Z 22 := by rw [eX]; rfl
  have Xne : ∀ a : Nat, ¬ (a = 19 ∨ a = 20 ∨ a = 21 ∨ a = 22) → X a = Z a := fun a ha => by rw [eX, hsw_ne ha]
  rw [eg]
  unfold fL_writeGame
  rw [z1, Option.bind_some, if_pos rfl, ← eX]
  obtain ⟨g, eg2⟩ : ∃ g, g = hs X 50 0 (wr (u.length : Int)) := ⟨_, rfl⟩
  have gne : ∀ a : Nat, a ≠ 50 → g a = X a := fun a ha => by rw [eg2, hs_ne _ _ _ ha]
  have g30 : ∀ a : Nat, 30 ≤ a → a ≠ 50 → g a = h a := fun a h1 h2 => by rw [gne a h2, Xne a (by omega), z2.2.1 a h1]
  obtain ⟨P, eP⟩ : ∃ P, P = hs (hs (hs g 30 0 0) 30 23 0) 30 24 0 := ⟨_, rfl⟩
  have Pne : ∀ a : Nat, a ≠ 30 → P a = g a := fun a ha => by rw [eP, hs_ne _ _ _ ha, hs_ne _ _ _ ha, hs_ne _ _ _ ha]
  have Pb : ∀ b : Int, b ≠ 0 → b ≠ 23 → b ≠ 24 → P 30 b = g 30 b := fun b h0 h1 h2 => by rw [eP, hs_at, if_pos rfl, if_neg h2, hs_at, if_pos rfl, if_neg h1, hs_at, if_pos rfl, if_neg h0]
  have P0 : P 30 0 = 0 := by rw [eP, hs_at, if_pos rfl, if_neg (by decide), hs_at, if_pos rfl, if_neg (by decide), hs_self]
  have rP : rI h P [] P := by
    refine ⟨fun a b ha hn h35 => ?_, fun _ _ => rfl, rfl, rfl, ⟨by rw [eP, hs_self], ?_⟩, fun x hx => absurd hx List.not_mem_nil⟩
    · by_cases a30 : a = 30
      · subst a30
        rw [Pb b (fun k => hn (Or.inr (Or.inr ⟨rfl, by omega⟩))) (fun k => hn (Or.inr (Or.inr ⟨rfl, by omega⟩))) (fun k => hn (Or.inr (Or.inr ⟨rfl, by omega⟩))), g30 30 (by decide) (by decide)]
      · rw [Pne a a30, g30 a ha (fun k => hn (Or.inl (by omega)))]
    · have e1 : P 30 23 = 0 := by rw [eP, hs_at, if_pos rfl, if_neg (by decide), hs_self]
      rw [e1]
      exact txt_nil
  obtain ⟨G, e1, r1⟩ := rwalk w 200 0 [] P 200 zF (by omega) (by omega) (by omega) (by unfold zF; omega) rP (by simp only [List.length_nil]; omega)
  rw [← eu] at r1
  have e201 : fX6_putBelow 201 0 P = some G := e1
  have G9 : G 30 9 = h 0 8 := by rw [r1.1 30 9 (by decide) (by omega) (by decide), p.2]
  obtain ⟨S, s1, s2, s3, -⟩ := r1.set w (n := h 0 8) p.1
  obtain ⟨t1, t2, t3⟩ := toTape_at s2.2.2.2.2.1 (by omega)
  obtain ⟨Y, eY⟩ : ∃ Y, Y = hs (hcp S 41 0 39 0 (S 30 23)) 30 13 (S 30 23) := ⟨_, rfl⟩
  rw [← eY] at t1 t2 t3
  have ek : fX6_writeGame g = some ((u.length : Int), Y) := by
    unfold fX6_writeGame
    rw [if_pos (Or.inl rfl), ← eP, e201, Option.bind_some, G9, s1, Option.bind_some, s2.2.2.2.2.1.1, if_pos wr_0, t1, Option.bind_some]
  have Yc : ∀ a : Nat, a < 30 → Y a = X a := fun a ha => by
    funext b
    rw [t3 a b (by omega) (by omega), s2.2.1 a ha, Pne a (by omega), gne a (by omega)]
  have by2 := z2.2.2.2.2
  have tx : txt (Y 19 1) (Y 20) u := by
    rw [Yc 19 (by decide), Yc 20 (by decide), X19, X20]
    exact z2.2.2.2.1
  have hp2 : PsT Y := PsT_of (u := u) tx t2 (by omega) by2
  obtain ⟨H, eH⟩ : ∃ H : HS, H = fun a => if a = 35 then Y 35 else h a := ⟨_, rfl⟩
  have Hne : ∀ a : Nat, a ≠ 35 → H a = h a := fun a ha => by rw [eH]; exact if_neg ha
  have H35 : H 35 = Y 35 := by rw [eH]; exact if_pos rfl
  have wH : Psi H := by
    refine w.o.go (p := h 0 8) p.1 (fun a b hn hm => by rw [Hne a (fun k => hm (Or.inr (Or.inl k)))]) (by rw [Hne 0 (by decide)]) (by rw [Hne 30 (by decide), p.2]) (fun s s0 s1 => by rw [Hne 8 (by decide)]; exact (w.o.P.b s s0 s1).1) (fun s s0 s1 => ?_)
    rw [H35, t3 35 s (by decide) (by omega), s3 s s0 s1]
  refine ⟨Y, gC_ok (h1 := X) (by rw [← eg2]; exact ek) (by show zr (u.length : Int); unfold zr; omega) rfl ?_ ?_, wH.tape2 hp2 (fun a b hn hm => ?_)⟩
  · rw [t3 30 0 (by decide) (by decide), s2.2.2.2.1, P0]
  · rw [t3 50 0 (by decide) (by decide), s2.2.2.1, Pne 50 (by decide), eg2, hs_self]
  · by_cases h35 : a = 35
    · rw [h35, H35]
    · rw [Hne a h35]
      by_cases ha : a < 30
      · rw [Yc a ha, Xne a (fun k => hn (Or.inl (by omega)))]
        exact qZ a b (Or.inl ha) hn
      · rw [t3 a b (by omega) (by omega)]
        exact s2.1 a b (by omega) hn h35
end ZCASE17
end
section
section ZPSTEP
/-! one step keeps the invariant -/
theorem ifx {c : Prop} [Decidable c] {a b : Option HS} (ha : ∃ o, a = some o ∧ Psi o) (hb : ∃ o, b = some o ∧ Psi o) : ∃ o, (if c then a else b) = some o ∧ Psi o := by
  by_cases e : c
  · rw [if_pos e]
    exact ha
  · rw [if_neg e]
    exact hb
theorem pStep {xs : Nat → Int32} (i : Int) (h : HS) (w : Psi h) : ∃ o, fL_step xs i h = some o ∧ Psi o := by
  have r := fun k => zxs_r xs k
  unfold fL_step
  refine ifx (qc_0 (r _) w) ?_
  refine ifx (qc_1 (r _) (r _) (r _) (r _) w) ?_
  refine ifx (qc_2 (r _) (r _) (r _) w) ?_
  refine ifx (qc_3 (r _) w) ?_
  refine ifx (qc_4 (r _) w) ?_
  refine ifx (qc_5 (r _) (r _) w) ?_
  refine ifx (qc_6 (r _) (r _) w) ?_
  refine ifx (qc_7 (r _) (r _) (r _) (r _) w) ?_
  refine ifx (qc_8  w) ?_
  refine ifx (qc_9  w) ?_
  refine ifx (qc_10 (r _) w) ?_
  refine ifx (qc_11 (r _) (r _) w) ?_
  refine ifx (qc_12 (r _) w) ?_
  refine ifx (qc_13 (r _) (r _) w) ?_
  refine ifx (qc_14 (r _) (r _) w) ?_
  refine ifx (qc_15 (r _) w) ?_
  refine ifx (qc_16 (r _) w) ?_
  refine ifx (qc_17  w) ?_
  refine ifx (qc_18  w) ?_
  refine ifx (qc_19  w) ?_
  refine ifx (qc_20  w) ?_
  refine ifx (qc_21  w) ?_
  exact ⟨h, rfl, w⟩
end ZPSTEP
end
