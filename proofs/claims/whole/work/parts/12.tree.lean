def fX4_occupy (p1 : Int) (p2 : Int) (p3 : Int) (p4 : Int) (h : HS) : Option (Int × HS) := if wr (h 9 8) < (200 : Int) then if (0 : Int) ≤ (h 9 8) ∧ (h 9 8) < 200 then if (0 : Int) ≤ (((hs h 10 (h 9 8) p1)) 9 8) ∧ (((hs h 10 (h 9 8) p1)) 9 8) < 200 then if (0 : Int) ≤ (((hs (hs h 10 (h 9 8) p1) 11 (((hs h 10 (h 9 8) p1)) 9 8) p2)) 9 8) ∧ (((hs (hs h 10 (h 9 8) p1) 11 (((hs h 10 (h 9 8) p1)) 9 8) p2)) 9 8) < 200 then if (0 : Int) ≤ (((hs (hs (hs h 10 (h 9 8) p1) 11 (((hs h 10 (h 9 8) p1)) 9 8) p2) 12 (((hs (hs h 10 (h 9 8) p1) 11 (((hs h 10 (h 9 8) p1)) 9 8) p2)) 9 8) p3)) 9 8) ∧ (((hs (hs (hs h 10 (h 9 8) p1) 11 (((hs h 10 (h 9 8) p1)) 9 8) p2) 12 (((hs (hs h 10 (h 9 8) p1) 11 (((hs h 10 (h 9 8) p1)) 9 8) p2)) 9 8) p3)) 9 8) < 200 then if (0 : Int) ≤ (((hs (hs (hs (hs h 10 (h 9 8) p1) 11 (((hs h 10 (h 9 8) p1)) 9 8) p2) 12 (((hs (hs h 10 (h 9 8) p1) 11 (((hs h 10 (h 9 8) p1)) 9 8) p2)) 9 8) p3) 13 (((hs (hs (hs h 10 (h 9 8) p1) 11 (((hs h 10 (h 9 8) p1)) 9 8) p2) 12 (((hs (hs h 10 (h 9 8) p1) 11 (((hs h 10 (h 9 8) p1)) 9 8) p2)) 9 8) p3)) 9 8) (-1))) 9 8) ∧ (((hs (hs (hs (hs h 10 (h 9 8) p1) 11 (((hs h 10 (h 9 8) p1)) 9 8) p2) 12 (((hs (hs h 10 (h 9 8) p1) 11 (((hs h 10 (h 9 8) p1)) 9 8) p2)) 9 8) p3) 13 (((hs (hs (hs h 10 (h 9 8) p1) 11 (((hs h 10 (h 9 8) p1)) 9 8) p2) 12 (((hs (hs h 10 (h 9 8) p1) 11 (((hs h 10 (h 9 8) p1)) 9 8) p2)) 9 8) p3)) 9 8) (-1))) 9 8) < 200 then if (0 : Int) ≤ (((hs (hs (hs (hs (hs h 10 (h 9 8) p1) 11 (((hs h 10 (h 9 8) p1)) 9 8) p2) 12 (((hs (hs h 10 (h 9 8) p1) 11 (((hs h 10 (h 9 8) p1)) 9 8) p2)) 9 8) p3) 13 (((hs (hs (hs h 10 (h 9 8) p1) 11 (((hs h 10 (h 9 8) p1)) 9 8) p2) 12 (((hs (hs h 10 (h 9 8) p1) 11 (((hs h 10 (h 9 8) p1)) 9 8) p2)) 9 8) p3)) 9 8) (-1)) 14 (((hs (hs (hs (hs h 10 (h 9 8) p1) 11 (((hs h 10 (h 9 8) p1)) 9 8) p2) 12 (((hs (hs h 10 (h 9 8) p1) 11 (((hs h 10 (h 9 8) p1)) 9 8) p2)) 9 8) p3) 13 (((hs (hs (hs h 10 (h 9 8) p1) 11 (((hs h 10 (h 9 8) p1)) 9 8) p2) 12 (((hs (hs h 10 (h 9 8) p1) 11 (((hs h 10 (h 9 8) p1)) 9 8) p2)) 9 8) p3)) 9 8) (-1))) 9 8) p4)) 9 8) ∧ (((hs (hs (hs (hs (hs h 10 (h 9 8) p1) 11 (((hs h 10 (h 9 8) p1)) 9 8) p2) 12 (((hs (hs h 10 (h 9 8) p1) 11 (((hs h 10 (h 9 8) p1)) 9 8) p2)) 9 8) p3) 13 (((hs (hs (hs h 10 (h 9 8) p1) 11 (((hs h 10 (h 9 8) p1)) 9 8) p2) 12 (((hs (hs h 10 (h 9 8) p1) 11 (((hs h 10 (h 9 8) p1)) 9 8) p2)) 9 8) p3)) 9 8) (-1)) 14 (((hs (hs (hs (hs h 10 (h 9 8) p1) 11 (((hs h 10 (h 9 8) p1)) 9 8) p2) 12 (((hs (hs h 10 (h 9 8) p1) 11 (((hs h 10 (h 9 8) p1)) 9 8) p2)) 9 8) p3) 13 (((hs (hs (hs h 10 (h 9 8) p1) 11 (((hs h 10 (h 9 8) p1)) 9 8) p2) 12 (((hs (hs h 10 (h 9 8) p1) 11 (((hs h 10 (h 9 8) p1)) 9 8) p2)) 9 8) p3)) 9 8) (-1))) 9 8) p4)) 9 8) < 200 then if (0 : Int) ≤ (((hs (hs (hs (hs (hs (hs h 10 (h 9 8) p1) 11 (((hs h 10 (h 9 8) p1)) 9 8) p2) 12 (((hs (hs h 10 (h 9 8) p1) 11 (((hs h 10 (h 9 8) p1)) 9 8) p2)) 9 8) p3) 13 (((hs (hs (hs h 10 (h 9 8) p1) 11 (((hs h 10 (h 9 8) p1)) 9 8) p2) 12 (((hs (hs h 10 (h 9 8) p1) 11 (((hs h 10 (h 9 8) p1)) 9 8) p2)) 9 8) p3)) 9 8) (-1)) 14 (((hs (hs (hs (hs h 10 (h 9 8) p1) 11 (((hs h 10 (h 9 8) p1)) 9 8) p2) 12 (((hs (hs h 10 (h 9 8) p1) 11 (((hs h 10 (h 9 8) p1)) 9 8) p2)) 9 8) p3) 13 (((hs (hs (hs h 10 (h 9 8) p1) 11 (((hs h 10 (h 9 8) p1)) 9 8) p2) 12 (((hs (hs h 10 (h 9 8) p1) 11 (((hs h 10 (h 9 8) p1)) 9 8) p2)) 9 8) p3)) 9 8) (-1))) 9 8) p4) 15 (((hs (hs (hs (hs (hs h 10 (h 9 8) p1) 11 (((hs h 10 (h 9 8) p1)) 9 8) p2) 12 (((hs (hs h 10 (h 9 8) p1) 11 (((hs h 10 (h 9 8) p1)) 9 8) p2)) 9 8) p3) 13 (((hs (hs (hs h 10 (h 9 8) p1) 11 (((hs h 10 (h 9 8) p1)) 9 8) p2) 12 (((hs (hs h 10 (h 9 8) p1) 11 (((hs h 10 (h 9 8) p1)) 9 8) p2)) 9 8) p3)) 9 8) (-1)) 14 (((hs (hs (hs (hs h 10 (h 9 8) p1) 11 (((hs h 10 (h 9 8) p1)) 9 8) p2) 12 (((hs (hs h 10 (h 9 8) p1) 11 (((hs h 10 (h 9 8) p1)) 9 8) p2)) 9 8) p3) 13 (((hs (hs (hs h 10 (h 9 8) p1) 11 (((hs h 10 (h 9 8) p1)) 9 8) p2) 12 (((hs (hs h 10 (h 9 8) p1) 11 (((hs h 10 (h 9 8) p1)) 9 8) p2)) 9 8) p3)) 9 8) (-1))) 9 8) p4)) 9 8) 0)) 9 8) ∧ (((hs (hs (hs (hs (hs (hs h 10 (h 9 8) p1) 11 (((hs h 10 (h 9 8) p1)) 9 8) p2) 12 (((hs (hs h 10 (h 9 8) p1) 11 (((hs h 10 (h 9 8) p1)) 9 8) p2)) 9 8) p3) 13 (((hs (hs (hs h 10 (h 9 8) p1) 11 (((hs h 10 (h 9 8) p1)) 9 8) p2) 12 (((hs (hs h 10 (h 9 8) p1) 11 (((hs h 10 (h 9 8) p1)) 9 8) p2)) 9 8) p3)) 9 8) (-1)) 14 (((hs (hs (hs (hs h 10 (h 9 8) p1) 11 (((hs h 10 (h 9 8) p1)) 9 8) p2) 12 (((hs (hs h 10 (h 9 8) p1) 11 (((hs h 10 (h 9 8) p1)) 9 8) p2)) 9 8) p3) 13 (((hs (hs (hs h 10 (h 9 8) p1) 11 (((hs h 10 (h 9 8) p1)) 9 8) p2) 12 (((hs (hs h 10 (h 9 8) p1) 11 (((hs h 10 (h 9 8) p1)) 9 8) p2)) 9 8) p3)) 9 8) (-1))) 9 8) p4) 15 (((hs (hs (hs (hs (hs h 10 (h 9 8) p1) 11 (((hs h 10 (h 9 8) p1)) 9 8) p2) 12 (((hs (hs h 10 (h 9 8) p1) 11 (((hs h 10 (h 9 8) p1)) 9 8) p2)) 9 8) p3) 13 (((hs (hs (hs h 10 (h 9 8) p1) 11 (((hs h 10 (h 9 8) p1)) 9 8) p2) 12 (((hs (hs h 10 (h 9 8) p1) 11 (((hs h 10 (h 9 8) p1)) 9 8) p2)) 9 8) p3)) 9 8) (-1)) 14 (((hs (hs (hs (hs h 10 (h 9 8) p1) 11 (((hs h 10 (h 9 8) p1)) 9 8) p2) 12 (((hs (hs h 10 (h 9 8) p1) 11 (((hs h 10 (h 9 8) p1)) 9 8) p2)) 9 8) p3) 13 (((hs (hs (hs h 10 (h 9 8) p1) 11 (((hs h 10 (h 9 8) p1)) 9 8) p2) 12 (((hs (hs h 10 (h 9 8) p1) 11 (((hs h 10 (h 9 8) p1)) 9 8) p2)) 9 8) p3)) 9 8) (-1))) 9 8) p4)) 9 8) 0)) 9 8) < 200 then if (0 : Int) ≤ (((hs (hs (hs (hs (hs (hs (hs h 10 (h 9 8) p1) 11 (((hs h 10 (h 9 8) p1)) 9 8) p2) 12 (((hs (hs h 10 (h 9 8) p1) 11 (((hs h 10 (h 9 8) p1)) 9 8) p2)) 9 8) p3) 13 (((hs (hs (hs h 10 (h 9 8) p1) 11 (((hs h 10 (h 9 8) p1)) 9 8) p2) 12 (((hs (hs h 10 (h 9 8) p1) 11 (((hs h 10 (h 9 8) p1)) 9 8) p2)) 9 8) p3)) 9 8) (-1)) 14 (((hs (hs (hs (hs h 10 (h 9 8) p1) 11 (((hs h 10 (h 9 8) p1)) 9 8) p2) 12 (((hs (hs h 10 (h 9 8) p1) 11 (((hs h 10 (h 9 8) p1)) 9 8) p2)) 9 8) p3) 13 (((hs (hs (hs h 10 (h 9 8) p1) 11 (((hs h 10 (h 9 8) p1)) 9 8) p2) 12 (((hs (hs h 10 (h 9 8) p1) 11 (((hs h 10 (h 9 8) p1)) 9 8) p2)) 9 8) p3)) 9 8) (-1))) 9 8) p4) 15 (((hs (hs (hs (hs (hs h 10 (h 9 8) p1) 11 (((hs h 10 (h 9 8) p1)) 9 8) p2) 12 (((hs (hs h 10 (h 9 8) p1) 11 (((hs h 10 (h 9 8) p1)) 9 8) p2)) 9 8) p3) 13 (((hs (hs (hs h 10 (h 9 8) p1) 11 (((hs h 10 (h 9 8) p1)) 9 8) p2) 12 (((hs (hs h 10 (h 9 8) p1) 11 (((hs h 10 (h 9 8) p1)) 9 8) p2)) 9 8) p3)) 9 8) (-1)) 14 (((hs (hs (hs (hs h 10 (h 9 8) p1) 11 (((hs h 10 (h 9 8) p1)) 9 8) p2) 12 (((hs (hs h 10 (h 9 8) p1) 11 (((hs h 10 (h 9 8) p1)) 9 8) p2)) 9 8) p3) 13 (((hs (hs (hs h 10 (h 9 8) p1) 11 (((hs h 10 (h 9 8) p1)) 9 8) p2) 12 (((hs (hs h 10 (h 9 8) p1) 11 (((hs h 10 (h 9 8) p1)) 9 8) p2)) 9 8) p3)) 9 8) (-1))) 9 8) p4)) 9 8) 0) 16 (((hs (hs (hs (hs (hs (hs h 10 (h 9 8) p1) 11 (((hs h 10 (h 9 8) p1)) 9 8) p2) 12 (((hs (hs h 10 (h 9 8) p1) 11 (((hs h 10 (h 9 8) p1)) 9 8) p2)) 9 8) p3) 13 (((hs (hs (hs h 10 (h 9 8) p1) 11 (((hs h 10 (h 9 8) p1)) 9 8) p2) 12 (((hs (hs h 10 (h 9 8) p1) 11 (((hs h 10 (h 9 8) p1)) 9 8) p2)) 9 8) p3)) 9 8) (-1)) 14 (((hs (hs (hs (hs h 10 (h 9 8) p1) 11 (((hs h 10 (h 9 8) p1)) 9 8) p2) 12 (((hs (hs h 10 (h 9 8) p1) 11 (((hs h 10 (h 9 8) p1)) 9 8) p2)) 9 8) p3) 13 (((hs (hs (hs h 10 (h 9 8) p1) 11 (((hs h 10 (h 9 8) p1)) 9 8) p2) 12 (((hs (hs h 10 (h 9 8) p1) 11 (((hs h 10 (h 9 8) p1)) 9 8) p2)) 9 8) p3)) 9 8) (-1))) 9 8) p4) 15 (((hs (hs (hs (hs (hs h 10 (h 9 8) p1) 11 (((hs h 10 (h 9 8) p1)) 9 8) p2) 12 (((hs (hs h 10 (h 9 8) p1) 11 (((hs h 10 (h 9 8) p1)) 9 8) p2)) 9 8) p3) 13 (((hs (hs (hs h 10 (h 9 8) p1) 11 (((hs h 10 (h 9 8) p1)) 9 8) p2) 12 (((hs (hs h 10 (h 9 8) p1) 11 (((hs h 10 (h 9 8) p1)) 9 8) p2)) 9 8) p3)) 9 8) (-1)) 14 (((hs (hs (hs (hs h 10 (h 9 8) p1) 11 (((hs h 10 (h 9 8) p1)) 9 8) p2) 12 (((hs (hs h 10 (h 9 8) p1) 11 (((hs h 10 (h 9 8) p1)) 9 8) p2)) 9 8) p3) 13 (((hs (hs (hs h 10 (h 9 8) p1) 11 (((hs h 10 (h 9 8) p1)) 9 8) p2) 12 (((hs (hs h 10 (h 9 8) p1) 11 (((hs h 10 (h 9 8) p1)) 9 8) p2)) 9 8) p3)) 9 8) (-1))) 9 8) p4)) 9 8) 0)) 9 8) (-1))) 9 8) ∧ (((hs (hs (hs (hs (hs (hs (hs h 10 (h 9 8) p1) 11 (((hs h 10 (h 9 8) p1)) 9 8) p2) 12 (((hs (hs h 10 (h 9 8) p1) 11 (((hs h 10 (h 9 8) p1)) 9 8) p2)) 9 8) p3) 13 (((hs (hs (hs h 10 (h 9 8) p1) 11 (((hs h 10 (h 9 8) p1)) 9 8) p2) 12 (((hs (hs h 10 (h 9 8) p1) 11 (((hs h 10 (h 9 8) p1)) 9 8) p2)) 9 8) p3)) 9 8) (-1)) 14 (((hs (hs (hs (hs h 10 (h 9 8) p1) 11 (((hs h 10 (h 9 8) p1)) 9 8) p2) 12 (((hs (hs h 10 (h 9 8) p1) 11 (((hs h 10 (h 9 8) p1)) 9 8) p2)) 9 8) p3) 13 (((hs (hs (hs h 10 (h 9 8) p1) 11 (((hs h 10 (h 9 8) p1)) 9 8) p2) 12 (((hs (hs h 10 (h 9 8) p1) 11 (((hs h 10 (h 9 8) p1)) 9 8) p2)) 9 8) p3)) 9 8) (-1))) 9 8) p4) 15 (((hs (hs (hs (hs (hs h 10 (h 9 8) p1) 11 (((hs h 10 (h 9 8) p1)) 9 8) p2) 12 (((hs (hs h 10 (h 9 8) p1) 11 (((hs h 10 (h 9 8) p1)) 9 8) p2)) 9 8) p3) 13 (((hs (hs (hs h 10 (h 9 8) p1) 11 (((hs h 10 (h 9 8) p1)) 9 8) p2) 12 (((hs (hs h 10 (h 9 8) p1) 11 (((hs h 10 (h 9 8) p1)) 9 8) p2)) 9 8) p3)) 9 8) (-1)) 14 (((hs (hs (hs (hs h 10 (h 9 8) p1) 11 (((hs h 10 (h 9 8) p1)) 9 8) p2) 12 (((hs (hs h 10 (h 9 8) p1) 11 (((hs h 10 (h 9 8) p1)) 9 8) p2)) 9 8) p3) 13 (((hs (hs (hs h 10 (h 9 8) p1) 11 (((hs h 10 (h 9 8) p1)) 9 8) p2) 12 (((hs (hs h 10 (h 9 8) p1) 11 (((hs h 10 (h 9 8) p1)) 9 8) p2)) 9 8) p3)) 9 8) (-1))) 9 8) p4)) 9 8) 0) 16 (((hs (hs (hs (hs (hs (hs h 10 (h 9 8) p1) 11 (((hs h 10 (h 9 8) p1)) 9 8) p2) 12 (((hs (hs h 10 (h 9 8) p1) 11 (((hs h 10 (h 9 8) p1)) 9 8) p2)) 9 8) p3) 13 (((hs (hs (hs h 10 (h 9 8) p1) 11 (((hs h 10 (h 9 8) p1)) 9 8) p2) 12 (((hs (hs h 10 (h 9 8) p1) 11 (((hs h 10 (h 9 8) p1)) 9 8) p2)) 9 8) p3)) 9 8) (-1)) 14 (((hs (hs (hs (hs h 10 (h 9 8) p1) 11 (((hs h 10 (h 9 8) p1)) 9 8) p2) 12 (((hs (hs h 10 (h 9 8) p1) 11 (((hs h 10 (h 9 8) p1)) 9 8) p2)) 9 8) p3) 13 (((hs (hs (hs h 10 (h 9 8) p1) 11 (((hs h 10 (h 9 8) p1)) 9 8) p2) 12 (((hs (hs h 10 (h 9 8) p1) 11 (((hs h 10 (h 9 8) p1)) 9 8) p2)) 9 8) p3)) 9 8) (-1))) 9 8) p4) 15 (((hs (hs (hs (hs (hs h 10 (h 9 8) p1) 11 (((hs h 10 (h 9 8) p1)) 9 8) p2) 12 (((hs (hs h 10 (h 9 8) p1) 11 (((hs h 10 (h 9 8) p1)) 9 8) p2)) 9 8) p3) 13 (((hs (hs (hs h 10 (h 9 8) p1) 11 (((hs h 10 (h 9 8) p1)) 9 8) p2) 12 (((hs (hs h 10 (h 9 8) p1) 11 (((hs h 10 (h 9 8) p1)) 9 8) p2)) 9 8) p3)) 9 8) (-1)) 14 (((hs (hs (hs (hs h 10 (h 9 8) p1) 11 (((hs h 10 (h 9 8) p1)) 9 8) p2) 12 (((hs (hs h 10 (h 9 8) p1) 11 (((hs h 10 (h 9 8) p1)) 9 8) p2)) 9 8) p3) 13 (((hs (hs (hs h 10 (h 9 8) p1) 11 (((hs h 10 (h 9 8) p1)) 9 8) p2) 12 (((hs (hs h 10 (h 9 8) p1) 11 (((hs h 10 (h 9 8) p1)) 9 8) p2)) 9 8) p3)) 9 8) (-1))) 9 8) p4)) 9 8) 0)) 9 8) (-1))) 9 8) < 200 then some (((((hs (hs (hs (hs (hs (hs (hs (hs (hs h 10 (h 9 8) p1) 11 (((hs h 10 (h 9 8) p1)) 9 8) p2) 12 (((hs (hs h 10 (h 9 8) p1) 11 (((hs h 10 (h 9 8) p1)) 9 8) p2)) 9 8) p3) 13 (((hs (hs (hs h 10 (h 9 8) p1) 11 (((hs h 10 (h 9 8) p1)) 9 8) p2) 12 (((hs (hs h 10 (h 9 8) p1) 11 (((hs h 10 (h 9 8) p1)) 9 8) p2)) 9 8) p3)) 9 8) (-1)) 14 (((hs (hs (hs (hs h 10 (h 9 8) p1) 11 (((hs h 10 (h 9 8) p1)) 9 8) p2) 12 (((hs (hs h 10 (h 9 8) p1) 11 (((hs h 10 (h 9 8) p1)) 9 8) p2)) 9 8) p3) 13 (((hs (hs (hs h 10 (h 9 8) p1) 11 (((hs h 10 (h 9 8) p1)) 9 8) p2) 12 (((hs (hs h 10 (h 9 8) p1) 11 (((hs h 10 (h 9 8) p1)) 9 8) p2)) 9 8) p3)) 9 8) (-1))) 9 8) p4) 15 (((hs (hs (hs (hs (hs h 10 (h 9 8) p1) 11 (((hs h 10 (h 9 8) p1)) 9 8) p2) 12 (((hs (hs h 10 (h 9 8) p1) 11 (((hs h 10 (h 9 8) p1)) 9 8) p2)) 9 8) p3) 13 (((hs (hs (hs h 10 (h 9 8) p1) 11 (((hs h 10 (h 9 8) p1)) 9 8) p2) 12 (((hs (hs h 10 (h 9 8) p1) 11 (((hs h 10 (h 9 8) p1)) 9 8) p2)) 9 8) p3)) 9 8) (-1)) 14 (((hs (hs (hs (hs h 10 (h 9 8) p1) 11 (((hs h 10 (h 9 8) p1)) 9 8) p2) 12 (((hs (hs h 10 (h 9 8) p1) 11 (((hs h 10 (h 9 8) p1)) 9 8) p2)) 9 8) p3) 13 (((hs (hs (hs h 10 (h 9 8) p1) 11 (((hs h 10 (h 9 8) p1)) 9 8) p2) 12 (((hs (hs h 10 (h 9 8) p1) 11 (((hs h 10 (h 9 8) p1)) 9 8) p2)) 9 8) p3)) 9 8) (-1))) 9 8) p4)) 9 8) 0) 16 (((hs (hs (hs (hs (hs (hs h 10 (h 9 8) p1) 11 (((hs h 10 (h 9 8) p1)) 9 8) p2) 12 (((hs (hs h 10 (h 9 8) p1) 11 (((hs h 10 (h 9 8) p1)) 9 8) p2)) 9 8) p3) 13 (((hs (hs (hs h 10 (h 9 8) p1) 11 (((hs h 10 (h 9 8) p1)) 9 8) p2) 12 (((hs (hs h 10 (h 9 8) p1) 11 (((hs h 10 (h 9 8) p1)) 9 8) p2)) 9 8) p3)) 9 8) (-1)) 14 (((hs (hs (hs (hs h 10 (h 9 8) p1) 11 (((hs h 10 (h 9 8) p1)) 9 8) p2) 12 (((hs (hs h 10 (h 9 8) p1) 11 (((hs h 10 (h 9 8) p1)) 9 8) p2)) 9 8) p3) 13 (((hs (hs (hs h 10 (h 9 8) p1) 11 (((hs h 10 (h 9 8) p1)) 9 8) p2) 12 (((hs (hs h 10 (h 9 8) p1) 11 (((hs h 10 (h 9 8) p1)) 9 8) p2)) 9 8) p3)) 9 8) (-1))) 9 8) p4) 15 (((hs (hs (hs (hs (hs h 10 (h 9 8) p1) 11 (((hs h 10 (h 9 8) p1)) 9 8) p2) 12 (((hs (hs h 10 (h 9 8) p1) 11 (((hs h 10 (h 9 8) p1)) 9 8) p2)) 9 8) p3) 13 (((hs (hs (hs h 10 (h 9 8) p1) 11 (((hs h 10 (h 9 8) p1)) 9 8) p2) 12 (((hs (hs h 10 (h 9 8) p1) 11 (((hs h 10 (h 9 8) p1)) 9 8) p2)) 9 8) p3)) 9 8) (-1)) 14 (((hs (hs (hs (hs h 10 (h 9 8) p1) 11 (((hs h 10 (h 9 8) p1)) 9 8) p2) 12 (((hs (hs h 10 (h 9 8) p1) 11 (((hs h 10 (h 9 8) p1)) 9 8) p2)) 9 8) p3) 13 (((hs (hs (hs h 10 (h 9 8) p1) 11 (((hs h 10 (h 9 8) p1)) 9 8) p2) 12 (((hs (hs h 10 (h 9 8) p1) 11 (((hs h 10 (h 9 8) p1)) 9 8) p2)) 9 8) p3)) 9 8) (-1))) 9 8) p4)) 9 8) 0)) 9 8) (-1)) 17 (((hs (hs (hs (hs (hs (hs (hs h 10 (h 9 8) p1) 11 (((hs h 10 (h 9 8) p1)) 9 8) p2) 12 (((hs (hs h 10 (h 9 8) p1) 11 (((hs h 10 (h 9 8) p1)) 9 8) p2)) 9 8) p3) 13 (((hs (hs (hs h 10 (h 9 8) p1) 11 (((hs h 10 (h 9 8) p1)) 9 8) p2) 12 (((hs (hs h 10 (h 9 8) p1) 11 (((hs h 10 (h 9 8) p1)) 9 8) p2)) 9 8) p3)) 9 8) (-1)) 14 (((hs (hs (hs (hs h 10 (h 9 8) p1) 11 (((hs h 10 (h 9 8) p1)) 9 8) p2) 12 (((hs (hs h 10 (h 9 8) p1) 11 (((hs h 10 (h 9 8) p1)) 9 8) p2)) 9 8) p3) 13 (((hs (hs (hs h 10 (h 9 8) p1) 11 (((hs h 10 (h 9 8) p1)) 9 8) p2) 12 (((hs (hs h 10 (h 9 8) p1) 11 (((hs h 10 (h 9 8) p1)) 9 8) p2)) 9 8) p3)) 9 8) (-1))) 9 8) p4) 15 (((hs (hs (hs (hs (hs h 10 (h 9 8) p1) 11 (((hs h 10 (h 9 8) p1)) 9 8) p2) 12 (((hs (hs h 10 (h 9 8) p1) 11 (((hs h 10 (h 9 8) p1)) 9 8) p2)) 9 8) p3) 13 (((hs (hs (hs h 10 (h 9 8) p1) 11 (((hs h 10 (h 9 8) p1)) 9 8) p2) 12 (((hs (hs h 10 (h 9 8) p1) 11 (((hs h 10 (h 9 8) p1)) 9 8) p2)) 9 8) p3)) 9 8) (-1)) 14 (((hs (hs (hs (hs h 10 (h 9 8) p1) 11 (((hs h 10 (h 9 8) p1)) 9 8) p2) 12 (((hs (hs h 10 (h 9 8) p1) 11 (((hs h 10 (h 9 8) p1)) 9 8) p2)) 9 8) p3) 13 (((hs (hs (hs h 10 (h 9 8) p1) 11 (((hs h 10 (h 9 8) p1)) 9 8) p2) 12 (((hs (hs h 10 (h 9 8) p1) 11 (((hs h 10 (h 9 8) p1)) 9 8) p2)) 9 8) p3)) 9 8) (-1))) 9 8) p4)) 9 8) 0) 16 (((hs (hs (hs (hs (hs (hs h 10 (h 9 8) p1) 11 (((hs h 10 (h 9 8) p1)) 9 8) p2) 12 (((hs (hs h 10 (h 9 8) p1) 11 (((hs h 10 (h 9 8) p1)) 9 8) p2)) 9 8) p3) 13 (((hs (hs (hs h 10 (h 9 8) p1) 11 (((hs h 10 (h 9 8) p1)) 9 8) p2) 12 (((hs (hs h 10 (h 9 8) p1) 11 (((hs h 10 (h 9 8) p1)) 9 8) p2)) 9 8) p3)) 9 8) (-1)) 14 (((hs (hs (hs (hs h 10 (h 9 8) p1) 11 (((hs h 10 (h 9 8) p1)) 9 8) p2) 12 (((hs (hs h 10 (h 9 8) p1) 11 (((hs h 10 (h 9 8) p1)) 9 8) p2)) 9 8) p3) 13 (((hs (hs (hs h 10 (h 9 8) p1) 11 (((hs h 10 (h 9 8) p1)) 9 8) p2) 12 (((hs (hs h 10 (h 9 8) p1) 11 (((hs h 10 (h 9 8) p1)) 9 8) p2)) 9 8) p3)) 9 8) (-1))) 9 8) p4) 15 (((hs (hs (hs (hs (hs h 10 (h 9 8) p1) 11 (((hs h 10 (h 9 8) p1)) 9 8) p2) 12 (((hs (hs h 10 (h 9 8) p1) 11 (((hs h 10 (h 9 8) p1)) 9 8) p2)) 9 8) p3) 13 (((hs (hs (hs h 10 (h 9 8) p1) 11 (((hs h 10 (h 9 8) p1)) 9 8) p2) 12 (((hs (hs h 10 (h 9 8) p1) 11 (((hs h 10 (h 9 8) p1)) 9 8) p2)) 9 8) p3)) 9 8) (-1)) 14 (((hs (hs (hs (hs h 10 (h 9 8) p1) 11 (((hs h 10 (h 9 8) p1)) 9 8) p2) 12 (((hs (hs h 10 (h 9 8) p1) 11 (((hs h 10 (h 9 8) p1)) 9 8) p2)) 9 8) p3) 13 (((hs (hs (hs h 10 (h 9 8) p1) 11 (((hs h 10 (h 9 8) p1)) 9 8) p2) 12 (((hs (hs h 10 (h 9 8) p1) 11 (((hs h 10 (h 9 8) p1)) 9 8) p2)) 9 8) p3)) 9 8) (-1))) 9 8) p4)) 9 8) 0)) 9 8) (-1))) 9 8) (-1)) 9 8 ((((hs (hs (hs (hs (hs (hs (hs (hs h 10 (h 9 8) p1) 11 (((hs h 10 (h 9 8) p1)) 9 8) p2) 12 (((hs (hs h 10 (h 9 8) p1) 11 (((hs h 10 (h 9 8) p1)) 9 8) p2)) 9 8) p3) 13 (((hs (hs (hs h 10 (h 9 8) p1) 11 (((hs h 10 (h 9 8) p1)) 9 8) p2) 12 (((hs (hs h 10 (h 9 8) p1) 11 (((hs h 10 (h 9 8) p1)) 9 8) p2)) 9 8) p3)) 9 8) (-1)) 14 (((hs (hs (hs (hs h 10 (h 9 8) p1) 11 (((hs h 10 (h 9 8) p1)) 9 8) p2) 12 (((hs (hs h 10 (h 9 8) p1) 11 (((hs h 10 (h 9 8) p1)) 9 8) p2)) 9 8) p3) 13 (((hs (hs (hs h 10 (h 9 8) p1) 11 (((hs h 10 (h 9 8) p1)) 9 8) p2) 12 (((hs (hs h 10 (h 9 8) p1) 11 (((hs h 10 (h 9 8) p1)) 9 8) p2)) 9 8) p3)) 9 8) (-1))) 9 8) p4) 15 (((hs (hs (hs (hs (hs h 10 (h 9 8) p1) 11 (((hs h 10 (h 9 8) p1)) 9 8) p2) 12 (((hs (hs h 10 (h 9 8) p1) 11 (((hs h 10 (h 9 8) p1)) 9 8) p2)) 9 8) p3) 13 (((hs (hs (hs h 10 (h 9 8) p1) 11 (((hs h 10 (h 9 8) p1)) 9 8) p2) 12 (((hs (hs h 10 (h 9 8) p1) 11 (((hs h 10 (h 9 8) p1)) 9 8) p2)) 9 8) p3)) 9 8) (-1)) 14 (((hs (hs (hs (hs h 10 (h 9 8) p1) 11 (((hs h 10 (h 9 8) p1)) 9 8) p2) 12 (((hs (hs h 10 (h 9 8) p1) 11 (((hs h 10 (h 9 8) p1)) 9 8) p2)) 9 8) p3) 13 (((hs (hs (hs h 10 (h 9 8) p1) 11 (((hs h 10 (h 9 8) p1)) 9 8) p2) 12 (((hs (hs h 10 (h 9 8) p1) 11 (((hs h 10 (h 9 8) p1)) 9 8) p2)) 9 8) p3)) 9 8) (-1))) 9 8) p4)) 9 8) 0) 16 (((hs (hs (hs (hs (hs (hs h 10 (h 9 8) p1) 11 (((hs h 10 (h 9 8) p1)) 9 8) p2) 12 (((hs (hs h 10 (h 9 8) p1) 11 (((hs h 10 (h 9 8) p1)) 9 8) p2)) 9 8) p3) 13 (((hs (hs (hs h 10 (h 9 8) p1) 11 (((hs h 10 (h 9 8) p1)) 9 8) p2) 12 (((hs (hs h 10 (h 9 8) p1) 11 (((hs h 10 (h 9 8) p1)) 9 8) p2)) 9 8) p3)) 9 8) (-1)) 14 (((hs (hs (hs (hs h 10 (h 9 8) p1) 11 (((hs h 10 (h 9 8) p1)) 9 8) p2) 12 (((hs (hs h 10 (h 9 8) p1) 11 (((hs h 10 (h 9 8) p1)) 9 8) p2)) 9 8) p3) 13 (((hs (hs (hs h 10 (h 9 8) p1) 11 (((hs h 10 (h 9 8) p1)) 9 8) p2) 12 (((hs (hs h 10 (h 9 8) p1) 11 (((hs h 10 (h 9 8) p1)) 9 8) p2)) 9 8) p3)) 9 8) (-1))) 9 8) p4) 15 (((hs (hs (hs (hs (hs h 10 (h 9 8) p1) 11 (((hs h 10 (h 9 8) p1)) 9 8) p2) 12 (((hs (hs h 10 (h 9 8) p1) 11 (((hs h 10 (h 9 8) p1)) 9 8) p2)) 9 8) p3) 13 (((hs (hs (hs h 10 (h 9 8) p1) 11 (((hs h 10 (h 9 8) p1)) 9 8) p2) 12 (((hs (hs h 10 (h 9 8) p1) 11 (((hs h 10 (h 9 8) p1)) 9 8) p2)) 9 8) p3)) 9 8) (-1)) 14 (((hs (hs (hs (hs h 10 (h 9 8) p1) 11 (((hs h 10 (h 9 8) p1)) 9 8) p2) 12 (((hs (hs h 10 (h 9 8) p1) 11 (((hs h 10 (h 9 8) p1)) 9 8) p2)) 9 8) p3) 13 (((hs (hs (hs h 10 (h 9 8) p1) 11 (((hs h 10 (h 9 8) p1)) 9 8) p2) 12 (((hs (hs h 10 (h 9 8) p1) 11 (((hs h 10 (h 9 8) p1)) 9 8) p2)) 9 8) p3)) 9 8) (-1))) 9 8) p4)) 9 8) 0)) 9 8) (-1)) 17 (((hs (hs (hs (hs (hs (hs (hs h 10 (h 9 8) p1) 11 (((hs h 10 (h 9 8) p1)) 9 8) p2) 12 (((hs (hs h 10 (h 9 8) p1) 11 (((hs h 10 (h 9 8) p1)) 9 8) p2)) 9 8) p3) 13 (((hs (hs (hs h 10 (h 9 8) p1) 11 (((hs h 10 (h 9 8) p1)) 9 8) p2) 12 (((hs (hs h 10 (h 9 8) p1) 11 (((hs h 10 (h 9 8) p1)) 9 8) p2)) 9 8) p3)) 9 8) (-1)) 14 (((hs (hs (hs (hs h 10 (h 9 8) p1) 11 (((hs h 10 (h 9 8) p1)) 9 8) p2) 12 (((hs (hs h 10 (h 9 8) p1) 11 (((hs h 10 (h 9 8) p1)) 9 8) p2)) 9 8) p3) 13 (((hs (hs (hs h 10 (h 9 8) p1) 11 (((hs h 10 (h 9 8) p1)) 9 8) p2) 12 (((hs (hs h 10 (h 9 8) p1) 11 (((hs h 10 (h 9 8) p1)) 9 8) p2)) 9 8) p3)) 9 8) (-1))) 9 8) p4) 15 (((hs (hs (hs (hs (hs h 10 (h 9 8) p1) 11 (((hs h 10 (h 9 8) p1)) 9 8) p2) 12 (((hs (hs h 10 (h 9 8) p1) 11 (((hs h 10 (h 9 8) p1)) 9 8) p2)) 9 8) p3) 13 (((hs (hs (hs h 10 (h 9 8) p1) 11 (((hs h 10 (h 9 8) p1)) 9 8) p2) 12 (((hs (hs h 10 (h 9 8) p1) 11 (((hs h 10 (h 9 8) p1)) 9 8) p2)) 9 8) p3)) 9 8) (-1)) 14 (((hs (hs (hs (hs h 10 (h 9 8) p1) 11 (((hs h 10 (h 9 8) p1)) 9 8) p2) 12 (((hs (hs h 10 (h 9 8) p1) 11 (((hs h 10 (h 9 8) p1)) 9 8) p2)) 9 8) p3) 13 (((hs (hs (hs h 10 (h 9 8) p1) 11 (((hs h 10 (h 9 8) p1)) 9 8) p2) 12 (((hs (hs h 10 (h 9 8) p1) 11 (((hs h 10 (h 9 8) p1)) 9 8) p2)) 9 8) p3)) 9 8) (-1))) 9 8) p4)) 9 8) 0) 16 (((hs (hs (hs (hs (hs (hs h 10 (h 9 8) p1) 11 (((hs h 10 (h 9 8) p1)) 9 8) p2) 12 (((hs (hs h 10 (h 9 8) p1) 11 (((hs h 10 (h 9 8) p1)) 9 8) p2)) 9 8) p3) 13 (((hs (hs (hs h 10 (h 9 8) p1) 11 (((hs h 10 (h 9 8) p1)) 9 8) p2) 12 (((hs (hs h 10 (h 9 8) p1) 11 (((hs h 10 (h 9 8) p1)) 9 8) p2)) 9 8) p3)) 9 8) (-1)) 14 (((hs (hs (hs (hs h 10 (h 9 8) p1) 11 (((hs h 10 (h 9 8) p1)) 9 8) p2) 12 (((hs (hs h 10 (h 9 8) p1) 11 (((hs h 10 (h 9 8) p1)) 9 8) p2)) 9 8) p3) 13 (((hs (hs (hs h 10 (h 9 8) p1) 11 (((hs h 10 (h 9 8) p1)) 9 8) p2) 12 (((hs (hs h 10 (h 9 8) p1) 11 (((hs h 10 (h 9 8) p1)) 9 8) p2)) 9 8) p3)) 9 8) (-1))) 9 8) p4) 15 (((hs (hs (hs (hs (hs h 10 (h 9 8) p1) 11 (((hs h 10 (h 9 8) p1)) 9 8) p2) 12 (((hs (hs h 10 (h 9 8) p1) 11 (((hs h 10 (h 9 8) p1)) 9 8) p2)) 9 8) p3) 13 (((hs (hs (hs h 10 (h 9 8) p1) 11 (((hs h 10 (h 9 8) p1)) 9 8) p2) 12 (((hs (hs h 10 (h 9 8) p1) 11 (((hs h 10 (h 9 8) p1)) 9 8) p2)) 9 8) p3)) 9 8) (-1)) 14 (((hs (hs (hs (hs h 10 (h 9 8) p1) 11 (((hs h 10 (h 9 8) p1)) 9 8) p2) 12 (((hs (hs h 10 (h 9 8) p1) 11 (((hs h 10 (h 9 8) p1)) 9 8) p2)) 9 8) p3) 13 (((hs (hs (hs h 10 (h 9 8) p1) 11 (((hs h 10 (h 9 8) p1)) 9 8) p2) 12 (((hs (hs h 10 (h 9 8) p1) 11 (((hs h 10 (h 9 8) p1)) 9 8) p2)) 9 8) p3)) 9 8) (-1))) 9 8) p4)) 9 8) 0)) 9 8) (-1))) 9 8) (-1))) 9 8) + 1))) 9 8) - 1), (hs (hs (hs (hs (hs (hs (hs (hs (hs h 10 (h 9 8) p1) 11 (((hs h 10 (h 9 8) p1)) 9 8) p2) 12 (((hs (hs h 10 (h 9 8) p1) 11 (((hs h 10 (h 9 8) p1)) 9 8) p2)) 9 8) p3) 13 (((hs (hs (hs h 10 (h 9 8) p1) 11 (((hs h 10 (h 9 8) p1)) 9 8) p2) 12 (((hs (hs h 10 (h 9 8) p1) 11 (((hs h 10 (h 9 8) p1)) 9 8) p2)) 9 8) p3)) 9 8) (-1)) 14 (((hs (hs (hs (hs h 10 (h 9 8) p1) 11 (((hs h 10 (h 9 8) p1)) 9 8) p2) 12 (((hs (hs h 10 (h 9 8) p1) 11 (((hs h 10 (h 9 8) p1)) 9 8) p2)) 9 8) p3) 13 (((hs (hs (hs h 10 (h 9 8) p1) 11 (((hs h 10 (h 9 8) p1)) 9 8) p2) 12 (((hs (hs h 10 (h 9 8) p1) 11 (((hs h 10 (h 9 8) p1)) 9 8) p2)) 9 8) p3)) 9 8) (-1))) 9 8) p4) 15 (((hs (hs (hs (hs (hs h 10 (h 9 8) p1) 11 (((hs h 10 (h 9 8) p1)) 9 8) p2) 12 (((hs (hs h 10 (h 9 8) p1) 11 (((hs h 10 (h 9 8) p1)) 9 8) p2)) 9 8) p3) 13 (((hs (hs (hs h 10 (h 9 8) p1) 11 (((hs h 10 (h 9 8) p1)) 9 8) p2) 12 (((hs (hs h 10 (h 9 8) p1) 11 (((hs h 10 (h 9 8) p1)) 9 8) p2)) 9 8) p3)) 9 8) (-1)) 14 (((hs (hs (hs (hs h 10 (h 9 8) p1) 11 (((hs h 10 (h 9 8) p1)) 9 8) p2) 12 (((hs (hs h 10 (h 9 8) p1) 11 (((hs h 10 (h 9 8) p1)) 9 8) p2)) 9 8) p3) 13 (((hs (hs (hs h 10 (h 9 8) p1) 11 (((hs h 10 (h 9 8) p1)) 9 8) p2) 12 (((hs (hs h 10 (h 9 8) p1) 11 (((hs h 10 (h 9 8) p1)) 9 8) p2)) 9 8) p3)) 9 8) (-1))) 9 8) p4)) 9 8) 0) 16 (((hs (hs (hs (hs (hs (hs h 10 (h 9 8) p1) 11 (((hs h 10 (h 9 8) p1)) 9 8) p2) 12 (((hs (hs h 10 (h 9 8) p1) 11 (((hs h 10 (h 9 8) p1)) 9 8) p2)) 9 8) p3) 13 (((hs (hs (hs h 10 (h 9 8) p1) 11 (((hs h 10 (h 9 8) p1)) 9 8) p2) 12 (((hs (hs h 10 (h 9 8) p1) 11 (((hs h 10 (h 9 8) p1)) 9 8) p2)) 9 8) p3)) 9 8) (-1)) 14 (((hs (hs (hs (hs h 10 (h 9 8) p1) 11 (((hs h 10 (h 9 8) p1)) 9 8) p2) 12 (((hs (hs h 10 (h 9 8) p1) 11 (((hs h 10 (h 9 8) p1)) 9 8) p2)) 9 8) p3) 13 (((hs (hs (hs h 10 (h 9 8) p1) 11 (((hs h 10 (h 9 8) p1)) 9 8) p2) 12 (((hs (hs h 10 (h 9 8) p1) 11 (((hs h 10 (h 9 8) p1)) 9 8) p2)) 9 8) p3)) 9 8) (-1))) 9 8) p4) 15 (((hs (hs (hs (hs (hs h 10 (h 9 8) p1) 11 (((hs h 10 (h 9 8) p1)) 9 8) p2) 12 (((hs (hs h 10 (h 9 8) p1) 11 (((hs h 10 (h 9 8) p1)) 9 8) p2)) 9 8) p3) 13 (((hs (hs (hs h 10 (h 9 8) p1) 11 (((hs h 10 (h 9 8) p1)) 9 8) p2) 12 (((hs (hs h 10 (h 9 8) p1) 11 (((hs h 10 (h 9 8) p1)) 9 8) p2)) 9 8) p3)) 9 8) (-1)) 14 (((hs (hs (hs (hs h 10 (h 9 8) p1) 11 (((hs h 10 (h 9 8) p1)) 9 8) p2) 12 (((hs (hs h 10 (h 9 8) p1) 11 (((hs h 10 (h 9 8) p1)) 9 8) p2)) 9 8) p3) 13 (((hs (hs (hs h 10 (h 9 8) p1) 11 (((hs h 10 (h 9 8) p1)) 9 8) p2) 12 (((hs (hs h 10 (h 9 8) p1) 11 (((hs h 10 (h 9 8) p1)) 9 8) p2)) 9 8) p3)) 9 8) (-1))) 9 8) p4)) 9 8) 0)) 9 8) (-1)) 17 (((hs (hs (hs (hs (hs (hs (hs h 10 (h 9 8) p1) 11 (((hs h 10 (h 9 8) p1)) 9 8) p2) 12 (((hs (hs h 10 (h 9 8) p1) 11 (((hs h 10 (h 9 8) p1)) 9 8) p2)) 9 8) p3) 13 (((hs (hs (hs h 10 (h 9 8) p1) 11 (((hs h 10 (h 9 8) p1)) 9 8) p2) 12 (((hs (hs h 10 (h 9 8) p1) 11 (((hs h 10 (h 9 8) p1)) 9 8) p2)) 9 8) p3)) 9 8) (-1)) 14 (((hs (hs (hs (hs h 10 (h 9 8) p1) 11 (((hs h 10 (h 9 8) p1)) 9 8) p2) 12 (((hs (hs h 10 (h 9 8) p1) 11 (((hs h 10 (h 9 8) p1)) 9 8) p2)) 9 8) p3) 13 (((hs (hs (hs h 10 (h 9 8) p1) 11 (((hs h 10 (h 9 8) p1)) 9 8) p2) 12 (((hs (hs h 10 (h 9 8) p1) 11 (((hs h 10 (h 9 8) p1)) 9 8) p2)) 9 8) p3)) 9 8) (-1))) 9 8) p4) 15 (((hs (hs (hs (hs (hs h 10 (h 9 8) p1) 11 (((hs h 10 (h 9 8) p1)) 9 8) p2) 12 (((hs (hs h 10 (h 9 8) p1) 11 (((hs h 10 (h 9 8) p1)) 9 8) p2)) 9 8) p3) 13 (((hs (hs (hs h 10 (h 9 8) p1) 11 (((hs h 10 (h 9 8) p1)) 9 8) p2) 12 (((hs (hs h 10 (h 9 8) p1) 11 (((hs h 10 (h 9 8) p1)) 9 8) p2)) 9 8) p3)) 9 8) (-1)) 14 (((hs (hs (hs (hs h 10 (h 9 8) p1) 11 (((hs h 10 (h 9 8) p1)) 9 8) p2) 12 (((hs (hs h 10 (h 9 8) p1) 11 (((hs h 10 (h 9 8) p1)) 9 8) p2)) 9 8) p3) 13 (((hs (hs (hs h 10 (h 9 8) p1) 11 (((hs h 10 (h 9 8) p1)) 9 8) p2) 12 (((hs (hs h 10 (h 9 8) p1) 11 (((hs h 10 (h 9 8) p1)) 9 8) p2)) 9 8) p3)) 9 8) (-1))) 9 8) p4)) 9 8) 0) 16 (((hs (hs (hs (hs (hs (hs h 10 (h 9 8) p1) 11 (((hs h 10 (h 9 8) p1)) 9 8) p2) 12 (((hs (hs h 10 (h 9 8) p1) 11 (((hs h 10 (h 9 8) p1)) 9 8) p2)) 9 8) p3) 13 (((hs (hs (hs h 10 (h 9 8) p1) 11 (((hs h 10 (h 9 8) p1)) 9 8) p2) 12 (((hs (hs h 10 (h 9 8) p1) 11 (((hs h 10 (h 9 8) p1)) 9 8) p2)) 9 8) p3)) 9 8) (-1)) 14 (((hs (hs (hs (hs h 10 (h 9 8) p1) 11 (((hs h 10 (h 9 8) p1)) 9 8) p2) 12 (((hs (hs h 10 (h 9 8) p1) 11 (((hs h 10 (h 9 8) p1)) 9 8) p2)) 9 8) p3) 13 (((hs (hs (hs h 10 (h 9 8) p1) 11 (((hs h 10 (h 9 8) p1)) 9 8) p2) 12 (((hs (hs h 10 (h 9 8) p1) 11 (((hs h 10 (h 9 8) p1)) 9 8) p2)) 9 8) p3)) 9 8) (-1))) 9 8) p4) 15 (((hs (hs (hs (hs (hs h 10 (h 9 8) p1) 11 (((hs h 10 (h 9 8) p1)) 9 8) p2) 12 (((hs (hs h 10 (h 9 8) p1) 11 (((hs h 10 (h 9 8) p1)) 9 8) p2)) 9 8) p3) 13 (((hs (hs (hs h 10 (h 9 8) p1) 11 (((hs h 10 (h 9 8) p1)) 9 8) p2) 12 (((hs (hs h 10 (h 9 8) p1) 11 (((hs h 10 (h 9 8) p1)) 9 8) p2)) 9 8) p3)) 9 8) (-1)) 14 (((hs (hs (hs (hs h 10 (h 9 8) p1) 11 (((hs h 10 (h 9 8) p1)) 9 8) p2) 12 (((hs (hs h 10 (h 9 8) p1) 11 (((hs h 10 (h 9 8) p1)) 9 8) p2)) 9 8) p3) 13 (((hs (hs (hs h 10 (h 9 8) p1) 11 (((hs h 10 (h 9 8) p1)) 9 8) p2) 12 (((hs (hs h 10 (h 9 8) p1) 11 (((hs h 10 (h 9 8) p1)) 9 8) p2)) 9 8) p3)) 9 8) (-1))) 9 8) p4)) 9 8) 0)) 9 8) (-1))) 9 8) (-1)) 9 8 ((((hs (hs (hs (hs (hs (hs (hs (hs h 10 (h 9 8) p1) 11 (((hs h 10 (h 9 8) p1)) 9 8) p2) 12 (((hs (hs h 10 (h 9 8) p1) 11 (((hs h 10 (h 9 8) p1)) 9 8) p2)) 9 8) p3) 13 (((hs (hs (hs h 10 (h 9 8) p1) 11 (((hs h 10 (h 9 8) p1)) 9 8) p2) 12 (((hs (hs h 10 (h 9 8) p1) 11 (((hs h 10 (h 9 8) p1)) 9 8) p2)) 9 8) p3)) 9 8) (-1)) 14 (((hs (hs (hs (hs h 10 (h 9 8) p1) 11 (((hs h 10 (h 9 8) p1)) 9 8) p2) 12 (((hs (hs h 10 (h 9 8) p1) 11 (((hs h 10 (h 9 8) p1)) 9 8) p2)) 9 8) p3) 13 (((hs (hs (hs h 10 (h 9 8) p1) 11 (((hs h 10 (h 9 8) p1)) 9 8) p2) 12 (((hs (hs h 10 (h 9 8) p1) 11 (((hs h 10 (h 9 8) p1)) 9 8) p2)) 9 8) p3)) 9 8) (-1))) 9 8) p4) 15 (((hs (hs (hs (hs (hs h 10 (h 9 8) p1) 11 (((hs h 10 (h 9 8) p1)) 9 8) p2) 12 (((hs (hs h 10 (h 9 8) p1) 11 (((hs h 10 (h 9 8) p1)) 9 8) p2)) 9 8) p3) 13 (((hs (hs (hs h 10 (h 9 8) p1) 11 (((hs h 10 (h 9 8) p1)) 9 8) p2) 12 (((hs (hs h 10 (h 9 8) p1) 11 (((hs h 10 (h 9 8) p1)) 9 8) p2)) 9 8) p3)) 9 8) (-1)) 14 (((hs (hs (hs (hs h 10 (h 9 8) p1) 11 (((hs h 10 (h 9 8) p1)) 9 8) p2) 12 (((hs (hs h 10 (h 9 8) p1) 11 (((hs h 10 (h 9 8) p1)) 9 8) p2)) 9 8) p3) 13 (((hs (hs (hs h 10 (h 9 8) p1) 11 (((hs h 10 (h 9 8) p1)) 9 8) p2) 12 (((hs (hs h 10 (h 9 8) p1) 11 (((hs h 10 (h 9 8) p1)) 9 8) p2)) 9 8) p3)) 9 8) (-1))) 9 8) p4)) 9 8) 0) 16 (((hs (hs (hs (hs (hs (hs h 10 (h 9 8) p1) 11 (((hs h 10 (h 9 8) p1)) 9 8) p2) 12 (((hs (hs h 10 (h 9 8) p1) 11 (((hs h 10 (h 9 8) p1)) 9 8) p2)) 9 8) p3) 13 (((hs (hs (hs h 10 (h 9 8) p1) 11 (((hs h 10 (h 9 8) p1)) 9 8) p2) 12 (((hs (hs h 10 (h 9 8) p1) 11 (((hs h 10 (h 9 8) p1)) 9 8) p2)) 9 8) p3)) 9 8) (-1)) 14 (((hs (hs (hs (hs h 10 (h 9 8) p1) 11 (((hs h 10 (h 9 8) p1)) 9 8) p2) 12 (((hs (hs h 10 (h 9 8) p1) 11 (((hs h 10 (h 9 8) p1)) 9 8) p2)) 9 8) p3) 13 (((hs (hs (hs h 10 (h 9 8) p1) 11 (((hs h 10 (h 9 8) p1)) 9 8) p2) 12 (((hs (hs h 10 (h 9 8) p1) 11 (((hs h 10 (h 9 8) p1)) 9 8) p2)) 9 8) p3)) 9 8) (-1))) 9 8) p4) 15 (((hs (hs (hs (hs (hs h 10 (h 9 8) p1) 11 (((hs h 10 (h 9 8) p1)) 9 8) p2) 12 (((hs (hs h 10 (h 9 8) p1) 11 (((hs h 10 (h 9 8) p1)) 9 8) p2)) 9 8) p3) 13 (((hs (hs (hs h 10 (h 9 8) p1) 11 (((hs h 10 (h 9 8) p1)) 9 8) p2) 12 (((hs (hs h 10 (h 9 8) p1) 11 (((hs h 10 (h 9 8) p1)) 9 8) p2)) 9 8) p3)) 9 8) (-1)) 14 (((hs (hs (hs (hs h 10 (h 9 8) p1) 11 (((hs h 10 (h 9 8) p1)) 9 8) p2) 12 (((hs (hs h 10 (h 9 8) p1) 11 (((hs h 10 (h 9 8) p1)) 9 8) p2)) 9 8) p3) 13 (((hs (hs (hs h 10 (h 9 8) p1) 11 (((hs h 10 (h 9 8) p1)) 9 8) p2) 12 (((hs (hs h 10 (h 9 8) p1) 11 (((hs h 10 (h 9 8) p1)) 9 8) p2)) 9 8) p3)) 9 8) (-1))) 9 8) p4)) 9 8) 0)) 9 8) (-1)) 17 (((hs (hs (hs (hs (hs (hs (hs h 10 (h 9 8) p1) 11 (((hs h 10 (h 9 8) p1)) 9 8) p2) 12 (((hs (hs h 10 (h 9 8) p1) 11 (((hs h 10 (h 9 8) p1)) 9 8) p2)) 9 8) p3) 13 (((hs (hs (hs h 10 (h 9 8) p1) 11 (((hs h 10 (h 9 8) p1)) 9 8) p2) 12 (((hs (hs h 10 (h 9 8) p1) 11 (((hs h 10 (h 9 8) p1)) 9 8) p2)) 9 8) p3)) 9 8) (-1)) 14 (((hs (hs (hs (hs h 10 (h 9 8) p1) 11 (((hs h 10 (h 9 8) p1)) 9 8) p2) 12 (((hs (hs h 10 (h 9 8) p1) 11 (((hs h 10 (h 9 8) p1)) 9 8) p2)) 9 8) p3) 13 (((hs (hs (hs h 10 (h 9 8) p1) 11 (((hs h 10 (h 9 8) p1)) 9 8) p2) 12 (((hs (hs h 10 (h 9 8) p1) 11 (((hs h 10 (h 9 8) p1)) 9 8) p2)) 9 8) p3)) 9 8) (-1))) 9 8) p4) 15 (((hs (hs (hs (hs (hs h 10 (h 9 8) p1) 11 (((hs h 10 (h 9 8) p1)) 9 8) p2) 12 (((hs (hs h 10 (h 9 8) p1) 11 (((hs h 10 (h 9 8) p1)) 9 8) p2)) 9 8) p3) 13 (((hs (hs (hs h 10 (h 9 8) p1) 11 (((hs h 10 (h 9 8) p1)) 9 8) p2) 12 (((hs (hs h 10 (h 9 8) p1) 11 (((hs h 10 (h 9 8) p1)) 9 8) p2)) 9 8) p3)) 9 8) (-1)) 14 (((hs (hs (hs (hs h 10 (h 9 8) p1) 11 (((hs h 10 (h 9 8) p1)) 9 8) p2) 12 (((hs (hs h 10 (h 9 8) p1) 11 (((hs h 10 (h 9 8) p1)) 9 8) p2)) 9 8) p3) 13 (((hs (hs (hs h 10 (h 9 8) p1) 11 (((hs h 10 (h 9 8) p1)) 9 8) p2) 12 (((hs (hs h 10 (h 9 8) p1) 11 (((hs h 10 (h 9 8) p1)) 9 8) p2)) 9 8) p3)) 9 8) (-1))) 9 8) p4)) 9 8) 0) 16 (((hs (hs (hs (hs (hs (hs h 10 (h 9 8) p1) 11 (((hs h 10 (h 9 8) p1)) 9 8) p2) 12 (((hs (hs h 10 (h 9 8) p1) 11 (((hs h 10 (h 9 8) p1)) 9 8) p2)) 9 8) p3) 13 (((hs (hs (hs h 10 (h 9 8) p1) 11 (((hs h 10 (h 9 8) p1)) 9 8) p2) 12 (((hs (hs h 10 (h 9 8) p1) 11 (((hs h 10 (h 9 8) p1)) 9 8) p2)) 9 8) p3)) 9 8) (-1)) 14 (((hs (hs (hs (hs h 10 (h 9 8) p1) 11 (((hs h 10 (h 9 8) p1)) 9 8) p2) 12 (((hs (hs h 10 (h 9 8) p1) 11 (((hs h 10 (h 9 8) p1)) 9 8) p2)) 9 8) p3) 13 (((hs (hs (hs h 10 (h 9 8) p1) 11 (((hs h 10 (h 9 8) p1)) 9 8) p2) 12 (((hs (hs h 10 (h 9 8) p1) 11 (((hs h 10 (h 9 8) p1)) 9 8) p2)) 9 8) p3)) 9 8) (-1))) 9 8) p4) 15 (((hs (hs (hs (hs (hs h 10 (h 9 8) p1) 11 (((hs h 10 (h 9 8) p1)) 9 8) p2) 12 (((hs (hs h 10 (h 9 8) p1) 11 (((hs h 10 (h 9 8) p1)) 9 8) p2)) 9 8) p3) 13 (((hs (hs (hs h 10 (h 9 8) p1) 11 (((hs h 10 (h 9 8) p1)) 9 8) p2) 12 (((hs (hs h 10 (h 9 8) p1) 11 (((hs h 10 (h 9 8) p1)) 9 8) p2)) 9 8) p3)) 9 8) (-1)) 14 (((hs (hs (hs (hs h 10 (h 9 8) p1) 11 (((hs h 10 (h 9 8) p1)) 9 8) p2) 12 (((hs (hs h 10 (h 9 8) p1) 11 (((hs h 10 (h 9 8) p1)) 9 8) p2)) 9 8) p3) 13 (((hs (hs (hs h 10 (h 9 8) p1) 11 (((hs h 10 (h 9 8) p1)) 9 8) p2) 12 (((hs (hs h 10 (h 9 8) p1) 11 (((hs h 10 (h 9 8) p1)) 9 8) p2)) 9 8) p3)) 9 8) (-1))) 9 8) p4)) 9 8) 0)) 9 8) (-1))) 9 8) (-1))) 9 8) + 1))) else none else none else none else none else none else none else none else none else some ((-1), h)
set_option maxRecDepth 100000 in
set_option maxHeartbeats 4000000 in
theorem mX4_occupy {G : ZG} {l0 : Launch} {ad : Nat → Nat} {h0 : HS} {p1 : Int} {p2 : Int} {p3 : Int} {p4 : Int} {o : Int × HS} (hr : fX4_occupy p1 p2 p3 p4 h0 = some o) : ZMi G l0 yX4_occupy wsX4_occupy ({ frames := 0, cells := 0, slots := 0, locals := 0 }) [.ref (ad 9), .int (iI p1), .int (iI p2), .int (iI p3), .int (iI p4)] sh_3 ad h0 [9, 10, 11, 12, 13, 14, 15, 16, 17] o.1 o.2 := by
  refine ZMi.of (cc := cX4_occupy) (maxL := 5) (ret := (some .int)) (own := RX4) (lv0 := [(0, .ref (ad 9)), (1, .int (iI p1)), (2, .int (iI p2)), (3, .int (iI p3)), (4, .int (iI p4))]) (by decide) rfl rfl rfl (Nat.le_of_ble_eq_true rfl) rfl ?_
  intro X hX hQ
  have hf : zfr [9, 10, 11, 12, 13, 14, 15, 16, 17] h0 h0 := zfr_rf
  have fl_15 : zFld wsX4_occupy RX4 15 4 RX4 TX4 9 1 := ⟨by decide +kernel, by decide +kernel, by decide, rfl⟩
  have fl_18 : zFld wsX4_occupy RX4 18 4 RX4 TX4 9 2 := ⟨by decide +kernel, by decide +kernel, by decide, rfl⟩
  have fl_21 : zFld wsX4_occupy RX4 21 4 RX4 TX4 9 3 := ⟨by decide +kernel, by decide +kernel, by decide, rfl⟩
  have fl_24 : zFld wsX4_occupy RX4 24 4 RX4 TX4 9 4 := ⟨by decide +kernel, by decide +kernel, by decide, rfl⟩
  have fl_27 : zFld wsX4_occupy RX4 27 4 RX4 TX4 9 5 := ⟨by decide +kernel, by decide +kernel, by decide, rfl⟩
  have fl_30 : zFld wsX4_occupy RX4 30 4 RX4 TX4 9 6 := ⟨by decide +kernel, by decide +kernel, by decide, rfl⟩
  have fl_33 : zFld wsX4_occupy RX4 33 4 RX4 TX4 9 7 := ⟨by decide +kernel, by decide +kernel, by decide, rfl⟩
  have fl_36 : zFld wsX4_occupy RX4 36 4 RX4 TX4 9 8 := ⟨by decide +kernel, by decide +kernel, by decide, rfl⟩
  have fl_9 : zFld wsX4_occupy RX4 9 4 RX4 TX4 9 0 := ⟨by decide +kernel, by decide +kernel, by decide, rfl⟩
  have pu_X4_8 : zPut TX4 9 8 tyX4 .int := ⟨tyX4_ok, nmX4, rfl, by decide +kernel⟩
  unfold fX4_occupy at hr
  refine z_aload_n hX dX4_occupy_0 0 rfl ?_
  refine z_getI hX dX4_occupy_1 fl_36 0 rfl rfl ?_
  refine z_sipush hX dX4_occupy_4 (by decide +kernel) ?_
  refine z_icmp_lt (tgt := 12) hX dX4_occupy_7 (by decide) rfl (wr_of (by decide) (by decide)) hr (fun hr => ?_) (fun hr => ?_)
  · refine z_aload_n hX dX4_occupy_12 0 rfl ?_
    refine z_getR (j := 10) hX dX4_occupy_13 fl_9 0 rfl rfl ?_
    refine z_aload_n hX dX4_occupy_16 0 rfl ?_
    refine z_getI hX dX4_occupy_17 fl_36 0 rfl rfl ?_
    refine z_iload_n hX dX4_occupy_20 1 rfl ?_
    refine z_iastore (b := 200) hX dX4_occupy_21 1 rfl (by decide) rfl hr (fun hr => ?_)
    have hf : zfr [9, 10, 11, 12, 13, 14, 15, 16, 17] h0 (hs h0 10 (h0 9 8) p1) := zfr_hs hf (by decide)
    refine z_aload_n hX dX4_occupy_22 0 rfl ?_
    refine z_getR (j := 11) hX dX4_occupy_23 fl_15 0 rfl rfl ?_
    refine z_aload_n hX dX4_occupy_26 0 rfl ?_
    refine z_getI hX dX4_occupy_27 fl_36 0 rfl rfl ?_
    refine z_iload_n hX dX4_occupy_30 2 rfl ?_
    refine z_iastore (b := 200) hX dX4_occupy_31 2 rfl (by decide) rfl hr (fun hr => ?_)
    have hf : zfr [9, 10, 11, 12, 13, 14, 15, 16, 17] h0 (hs (hs h0 10 (h0 9 8) p1) 11 (((hs h0 10 (h0 9 8) p1)) 9 8) p2) := zfr_hs hf (by decide)
    refine z_aload_n hX dX4_occupy_32 0 rfl ?_
    refine z_getR (j := 12) hX dX4_occupy_33 fl_18 0 rfl rfl ?_
    refine z_aload_n hX dX4_occupy_36 0 rfl ?_
    refine z_getI hX dX4_occupy_37 fl_36 0 rfl rfl ?_
    refine z_iload_n hX dX4_occupy_40 3 rfl ?_
    refine z_iastore (b := 200) hX dX4_occupy_41 3 rfl (by decide) rfl hr (fun hr => ?_)
    have hf : zfr [9, 10, 11, 12, 13, 14, 15, 16, 17] h0 (hs (hs (hs h0 10 (h0 9 8) p1) 11 (((hs h0 10 (h0 9 8) p1)) 9 8) p2) 12 (((hs (hs h0 10 (h0 9 8) p1) 11 (((hs h0 10 (h0 9 8) p1)) 9 8) p2)) 9 8) p3) := zfr_hs hf (by decide)
    refine z_aload_n hX dX4_occupy_42 0 rfl ?_
    refine z_getR (j := 13) hX dX4_occupy_43 fl_21 0 rfl rfl ?_
    refine z_aload_n hX dX4_occupy_46 0 rfl ?_
    refine z_getI hX dX4_occupy_47 fl_36 0 rfl rfl ?_
    refine z_iconst hX dX4_occupy_50 ?_
    refine z_iastore (b := 200) hX dX4_occupy_51 4 rfl (by decide) rfl hr (fun hr => ?_)
    have hf : zfr [9, 10, 11, 12, 13, 14, 15, 16, 17] h0 (hs (hs (hs (hs h0 10 (h0 9 8) p1) 11 (((hs h0 10 (h0 9 8) p1)) 9 8) p2) 12 (((hs (hs h0 10 (h0 9 8) p1) 11 (((hs h0 10 (h0 9 8) p1)) 9 8) p2)) 9 8) p3) 13 (((hs (hs (hs h0 10 (h0 9 8) p1) 11 (((hs h0 10 (h0 9 8) p1)) 9 8) p2) 12 (((hs (hs h0 10 (h0 9 8) p1) 11 (((hs h0 10 (h0 9 8) p1)) 9 8) p2)) 9 8) p3)) 9 8) (-1)) := zfr_hs hf (by decide)
    refine z_aload_n hX dX4_occupy_52 0 rfl ?_
    refine z_getR (j := 14) hX dX4_occupy_53 fl_24 0 rfl rfl ?_
    refine z_aload_n hX dX4_occupy_56 0 rfl ?_
    refine z_getI hX dX4_occupy_57 fl_36 0 rfl rfl ?_
    refine z_iload hX dX4_occupy_60 4 rfl ?_
    refine z_iastore (b := 200) hX dX4_occupy_62 5 rfl (by decide) rfl hr (fun hr => ?_)
    have hf : zfr [9, 10, 11, 12, 13, 14, 15, 16, 17] h0 (hs (hs (hs (hs (hs h0 10 (h0 9 8) p1) 11 (((hs h0 10 (h0 9 8) p1)) 9 8) p2) 12 (((hs (hs h0 10 (h0 9 8) p1) 11 (((hs h0 10 (h0 9 8) p1)) 9 8) p2)) 9 8) p3) 13 (((hs (hs (hs h0 10 (h0 9 8) p1) 11 (((hs h0 10 (h0 9 8) p1)) 9 8) p2) 12 (((hs (hs h0 10 (h0 9 8) p1) 11 (((hs h0 10 (h0 9 8) p1)) 9 8) p2)) 9 8) p3)) 9 8) (-1)) 14 (((hs (hs (hs (hs h0 10 (h0 9 8) p1) 11 (((hs h0 10 (h0 9 8) p1)) 9 8) p2) 12 (((hs (hs h0 10 (h0 9 8) p1) 11 (((hs h0 10 (h0 9 8) p1)) 9 8) p2)) 9 8) p3) 13 (((hs (hs (hs h0 10 (h0 9 8) p1) 11 (((hs h0 10 (h0 9 8) p1)) 9 8) p2) 12 (((hs (hs h0 10 (h0 9 8) p1) 11 (((hs h0 10 (h0 9 8) p1)) 9 8) p2)) 9 8) p3)) 9 8) (-1))) 9 8) p4) := zfr_hs hf (by decide)
    refine z_aload_n hX dX4_occupy_63 0 rfl ?_
    refine z_getR (j := 15) hX dX4_occupy_64 fl_27 0 rfl rfl ?_
    refine z_aload_n hX dX4_occupy_67 0 rfl ?_
    refine z_getI hX dX4_occupy_68 fl_36 0 rfl rfl ?_
    refine z_iconst hX dX4_occupy_71 ?_
    refine z_iastore (b := 200) hX dX4_occupy_72 6 rfl (by decide) rfl hr (fun hr => ?_)
    have hf : zfr [9, 10, 11, 12, 13, 14, 15, 16, 17] h0 (hs (hs (hs (hs (hs (hs h0 10 (h0 9 8) p1) 11 (((hs h0 10 (h0 9 8) p1)) 9 8) p2) 12 (((hs (hs h0 10 (h0 9 8) p1) 11 (((hs h0 10 (h0 9 8) p1)) 9 8) p2)) 9 8) p3) 13 (((hs (hs (hs h0 10 (h0 9 8) p1) 11 (((hs h0 10 (h0 9 8) p1)) 9 8) p2) 12 (((hs (hs h0 10 (h0 9 8) p1) 11 (((hs h0 10 (h0 9 8) p1)) 9 8) p2)) 9 8) p3)) 9 8) (-1)) 14 (((hs (hs (hs (hs h0 10 (h0 9 8) p1) 11 (((hs h0 10 (h0 9 8) p1)) 9 8) p2) 12 (((hs (hs h0 10 (h0 9 8) p1) 11 (((hs h0 10 (h0 9 8) p1)) 9 8) p2)) 9 8) p3) 13 (((hs (hs (hs h0 10 (h0 9 8) p1) 11 (((hs h0 10 (h0 9 8) p1)) 9 8) p2) 12 (((hs (hs h0 10 (h0 9 8) p1) 11 (((hs h0 10 (h0 9 8) p1)) 9 8) p2)) 9 8) p3)) 9 8) (-1))) 9 8) p4) 15 (((hs (hs (hs (hs (hs h0 10 (h0 9 8) p1) 11 (((hs h0 10 (h0 9 8) p1)) 9 8) p2) 12 (((hs (hs h0 10 (h0 9 8) p1) 11 (((hs h0 10 (h0 9 8) p1)) 9 8) p2)) 9 8) p3) 13 (((hs (hs (hs h0 10 (h0 9 8) p1) 11 (((hs h0 10 (h0 9 8) p1)) 9 8) p2) 12 (((hs (hs h0 10 (h0 9 8) p1) 11 (((hs h0 10 (h0 9 8) p1)) 9 8) p2)) 9 8) p3)) 9 8) (-1)) 14 (((hs (hs (hs (hs h0 10 (h0 9 8) p1) 11 (((hs h0 10 (h0 9 8) p1)) 9 8) p2) 12 (((hs (hs h0 10 (h0 9 8) p1) 11 (((hs h0 10 (h0 9 8) p1)) 9 8) p2)) 9 8) p3) 13 (((hs (hs (hs h0 10 (h0 9 8) p1) 11 (((hs h0 10 (h0 9 8) p1)) 9 8) p2) 12 (((hs (hs h0 10 (h0 9 8) p1) 11 (((hs h0 10 (h0 9 8) p1)) 9 8) p2)) 9 8) p3)) 9 8) (-1))) 9 8) p4)) 9 8) 0) := zfr_hs hf (by decide)
    refine z_aload_n hX dX4_occupy_73 0 rfl ?_
    refine z_getR (j := 16) hX dX4_occupy_74 fl_30 0 rfl rfl ?_
    refine z_aload_n hX dX4_occupy_77 0 rfl ?_
    refine z_getI hX dX4_occupy_78 fl_36 0 rfl rfl ?_
    refine z_iconst hX dX4_occupy_81 ?_
    refine z_iastore (b := 200) hX dX4_occupy_82 7 rfl (by decide) rfl hr (fun hr => ?_)
    have hf : zfr [9, 10, 11, 12, 13, 14, 15, 16, 17] h0 (hs (hs (hs (hs (hs (hs (hs h0 10 (h0 9 8) p1) 11 (((hs h0 10 (h0 9 8) p1)) 9 8) p2) 12 (((hs (hs h0 10 (h0 9 8) p1) 11 (((hs h0 10 (h0 9 8) p1)) 9 8) p2)) 9 8) p3) 13 (((hs (hs (hs h0 10 (h0 9 8) p1) 11 (((hs h0 10 (h0 9 8) p1)) 9 8) p2) 12 (((hs (hs h0 10 (h0 9 8) p1) 11 (((hs h0 10 (h0 9 8) p1)) 9 8) p2)) 9 8) p3)) 9 8) (-1)) 14 (((hs (hs (hs (hs h0 10 (h0 9 8) p1) 11 (((hs h0 10 (h0 9 8) p1)) 9 8) p2) 12 (((hs (hs h0 10 (h0 9 8) p1) 11 (((hs h0 10 (h0 9 8) p1)) 9 8) p2)) 9 8) p3) 13 (((hs (hs (hs h0 10 (h0 9 8) p1) 11 (((hs h0 10 (h0 9 8) p1)) 9 8) p2) 12 (((hs (hs h0 10 (h0 9 8) p1) 11 (((hs h0 10 (h0 9 8) p1)) 9 8) p2)) 9 8) p3)) 9 8) (-1))) 9 8) p4) 15 (((hs (hs (hs (hs (hs h0 10 (h0 9 8) p1) 11 (((hs h0 10 (h0 9 8) p1)) 9 8) p2) 12 (((hs (hs h0 10 (h0 9 8) p1) 11 (((hs h0 10 (h0 9 8) p1)) 9 8) p2)) 9 8) p3) 13 (((hs (hs (hs h0 10 (h0 9 8) p1) 11 (((hs h0 10 (h0 9 8) p1)) 9 8) p2) 12 (((hs (hs h0 10 (h0 9 8) p1) 11 (((hs h0 10 (h0 9 8) p1)) 9 8) p2)) 9 8) p3)) 9 8) (-1)) 14 (((hs (hs (hs (hs h0 10 (h0 9 8) p1) 11 (((hs h0 10 (h0 9 8) p1)) 9 8) p2) 12 (((hs (hs h0 10 (h0 9 8) p1) 11 (((hs h0 10 (h0 9 8) p1)) 9 8) p2)) 9 8) p3) 13 (((hs (hs (hs h0 10 (h0 9 8) p1) 11 (((hs h0 10 (h0 9 8) p1)) 9 8) p2) 12 (((hs (hs h0 10 (h0 9 8) p1) 11 (((hs h0 10 (h0 9 8) p1)) 9 8) p2)) 9 8) p3)) 9 8) (-1))) 9 8) p4)) 9 8) 0) 16 (((hs (hs (hs (hs (hs (hs h0 10 (h0 9 8) p1) 11 (((hs h0 10 (h0 9 8) p1)) 9 8) p2) 12 (((hs (hs h0 10 (h0 9 8) p1) 11 (((hs h0 10 (h0 9 8) p1)) 9 8) p2)) 9 8) p3) 13 (((hs (hs (hs h0 10 (h0 9 8) p1) 11 (((hs h0 10 (h0 9 8) p1)) 9 8) p2) 12 (((hs (hs h0 10 (h0 9 8) p1) 11 (((hs h0 10 (h0 9 8) p1)) 9 8) p2)) 9 8) p3)) 9 8) (-1)) 14 (((hs (hs (hs (hs h0 10 (h0 9 8) p1) 11 (((hs h0 10 (h0 9 8) p1)) 9 8) p2) 12 (((hs (hs h0 10 (h0 9 8) p1) 11 (((hs h0 10 (h0 9 8) p1)) 9 8) p2)) 9 8) p3) 13 (((hs (hs (hs h0 10 (h0 9 8) p1) 11 (((hs h0 10 (h0 9 8) p1)) 9 8) p2) 12 (((hs (hs h0 10 (h0 9 8) p1) 11 (((hs h0 10 (h0 9 8) p1)) 9 8) p2)) 9 8) p3)) 9 8) (-1))) 9 8) p4) 15 (((hs (hs (hs (hs (hs h0 10 (h0 9 8) p1) 11 (((hs h0 10 (h0 9 8) p1)) 9 8) p2) 12 (((hs (hs h0 10 (h0 9 8) p1) 11 (((hs h0 10 (h0 9 8) p1)) 9 8) p2)) 9 8) p3) 13 (((hs (hs (hs h0 10 (h0 9 8) p1) 11 (((hs h0 10 (h0 9 8) p1)) 9 8) p2) 12 (((hs (hs h0 10 (h0 9 8) p1) 11 (((hs h0 10 (h0 9 8) p1)) 9 8) p2)) 9 8) p3)) 9 8) (-1)) 14 (((hs (hs (hs (hs h0 10 (h0 9 8) p1) 11 (((hs h0 10 (h0 9 8) p1)) 9 8) p2) 12 (((hs (hs h0 10 (h0 9 8) p1) 11 (((hs h0 10 (h0 9 8) p1)) 9 8) p2)) 9 8) p3) 13 (((hs (hs (hs h0 10 (h0 9 8) p1) 11 (((hs h0 10 (h0 9 8) p1)) 9 8) p2) 12 (((hs (hs h0 10 (h0 9 8) p1) 11 (((hs h0 10 (h0 9 8) p1)) 9 8) p2)) 9 8) p3)) 9 8) (-1))) 9 8) p4)) 9 8) 0)) 9 8) (-1)) := zfr_hs hf (by decide)
    refine z_aload_n hX dX4_occupy_83 0 rfl ?_
    refine z_getR (j := 17) hX dX4_occupy_84 fl_33 0 rfl rfl ?_
    refine z_aload_n hX dX4_occupy_87 0 rfl ?_
    refine z_getI hX dX4_occupy_88 fl_36 0 rfl rfl ?_
    refine z_iconst hX dX4_occupy_91 ?_
    refine z_iastore (b := 200) hX dX4_occupy_92 8 rfl (by decide) rfl hr (fun hr => ?_)
    have hf : zfr [9, 10, 11, 12, 13, 14, 15, 16, 17] h0 (hs (hs (hs (hs (hs (hs (hs (hs h0 10 (h0 9 8) p1) 11 (((hs h0 10 (h0 9 8) p1)) 9 8) p2) 12 (((hs (hs h0 10 (h0 9 8) p1) 11 (((hs h0 10 (h0 9 8) p1)) 9 8) p2)) 9 8) p3) 13 (((hs (hs (hs h0 10 (h0 9 8) p1) 11 (((hs h0 10 (h0 9 8) p1)) 9 8) p2) 12 (((hs (hs h0 10 (h0 9 8) p1) 11 (((hs h0 10 (h0 9 8) p1)) 9 8) p2)) 9 8) p3)) 9 8) (-1)) 14 (((hs (hs (hs (hs h0 10 (h0 9 8) p1) 11 (((hs h0 10 (h0 9 8) p1)) 9 8) p2) 12 (((hs (hs h0 10 (h0 9 8) p1) 11 (((hs h0 10 (h0 9 8) p1)) 9 8) p2)) 9 8) p3) 13 (((hs (hs (hs h0 10 (h0 9 8) p1) 11 (((hs h0 10 (h0 9 8) p1)) 9 8) p2) 12 (((hs (hs h0 10 (h0 9 8) p1) 11 (((hs h0 10 (h0 9 8) p1)) 9 8) p2)) 9 8) p3)) 9 8) (-1))) 9 8) p4) 15 (((hs (hs (hs (hs (hs h0 10 (h0 9 8) p1) 11 (((hs h0 10 (h0 9 8) p1)) 9 8) p2) 12 (((hs (hs h0 10 (h0 9 8) p1) 11 (((hs h0 10 (h0 9 8) p1)) 9 8) p2)) 9 8) p3) 13 (((hs (hs (hs h0 10 (h0 9 8) p1) 11 (((hs h0 10 (h0 9 8) p1)) 9 8) p2) 12 (((hs (hs h0 10 (h0 9 8) p1) 11 (((hs h0 10 (h0 9 8) p1)) 9 8) p2)) 9 8) p3)) 9 8) (-1)) 14 (((hs (hs (hs (hs h0 10 (h0 9 8) p1) 11 (((hs h0 10 (h0 9 8) p1)) 9 8) p2) 12 (((hs (hs h0 10 (h0 9 8) p1) 11 (((hs h0 10 (h0 9 8) p1)) 9 8) p2)) 9 8) p3) 13 (((hs (hs (hs h0 10 (h0 9 8) p1) 11 (((hs h0 10 (h0 9 8) p1)) 9 8) p2) 12 (((hs (hs h0 10 (h0 9 8) p1) 11 (((hs h0 10 (h0 9 8) p1)) 9 8) p2)) 9 8) p3)) 9 8) (-1))) 9 8) p4)) 9 8) 0) 16 (((hs (hs (hs (hs (hs (hs h0 10 (h0 9 8) p1) 11 (((hs h0 10 (h0 9 8) p1)) 9 8) p2) 12 (((hs (hs h0 10 (h0 9 8) p1) 11 (((hs h0 10 (h0 9 8) p1)) 9 8) p2)) 9 8) p3) 13 (((hs (hs (hs h0 10 (h0 9 8) p1) 11 (((hs h0 10 (h0 9 8) p1)) 9 8) p2) 12 (((hs (hs h0 10 (h0 9 8) p1) 11 (((hs h0 10 (h0 9 8) p1)) 9 8) p2)) 9 8) p3)) 9 8) (-1)) 14 (((hs (hs (hs (hs h0 10 (h0 9 8) p1) 11 (((hs h0 10 (h0 9 8) p1)) 9 8) p2) 12 (((hs (hs h0 10 (h0 9 8) p1) 11 (((hs h0 10 (h0 9 8) p1)) 9 8) p2)) 9 8) p3) 13 (((hs (hs (hs h0 10 (h0 9 8) p1) 11 (((hs h0 10 (h0 9 8) p1)) 9 8) p2) 12 (((hs (hs h0 10 (h0 9 8) p1) 11 (((hs h0 10 (h0 9 8) p1)) 9 8) p2)) 9 8) p3)) 9 8) (-1))) 9 8) p4) 15 (((hs (hs (hs (hs (hs h0 10 (h0 9 8) p1) 11 (((hs h0 10 (h0 9 8) p1)) 9 8) p2) 12 (((hs (hs h0 10 (h0 9 8) p1) 11 (((hs h0 10 (h0 9 8) p1)) 9 8) p2)) 9 8) p3) 13 (((hs (hs (hs h0 10 (h0 9 8) p1) 11 (((hs h0 10 (h0 9 8) p1)) 9 8) p2) 12 (((hs (hs h0 10 (h0 9 8) p1) 11 (((hs h0 10 (h0 9 8) p1)) 9 8) p2)) 9 8) p3)) 9 8) (-1)) 14 (((hs (hs (hs (hs h0 10 (h0 9 8) p1) 11 (((hs h0 10 (h0 9 8) p1)) 9 8) p2) 12 (((hs (hs h0 10 (h0 9 8) p1) 11 (((hs h0 10 (h0 9 8) p1)) 9 8) p2)) 9 8) p3) 13 (((hs (hs (hs h0 10 (h0 9 8) p1) 11 (((hs h0 10 (h0 9 8) p1)) 9 8) p2) 12 (((hs (hs h0 10 (h0 9 8) p1) 11 (((hs h0 10 (h0 9 8) p1)) 9 8) p2)) 9 8) p3)) 9 8) (-1))) 9 8) p4)) 9 8) 0)) 9 8) (-1)) 17 (((hs (hs (hs (hs (hs (hs (hs h0 10 (h0 9 8) p1) 11 (((hs h0 10 (h0 9 8) p1)) 9 8) p2) 12 (((hs (hs h0 10 (h0 9 8) p1) 11 (((hs h0 10 (h0 9 8) p1)) 9 8) p2)) 9 8) p3) 13 (((hs (hs (hs h0 10 (h0 9 8) p1) 11 (((hs h0 10 (h0 9 8) p1)) 9 8) p2) 12 (((hs (hs h0 10 (h0 9 8) p1) 11 (((hs h0 10 (h0 9 8) p1)) 9 8) p2)) 9 8) p3)) 9 8) (-1)) 14 (((hs (hs (hs (hs h0 10 (h0 9 8) p1) 11 (((hs h0 10 (h0 9 8) p1)) 9 8) p2) 12 (((hs (hs h0 10 (h0 9 8) p1) 11 (((hs h0 10 (h0 9 8) p1)) 9 8) p2)) 9 8) p3) 13 (((hs (hs (hs h0 10 (h0 9 8) p1) 11 (((hs h0 10 (h0 9 8) p1)) 9 8) p2) 12 (((hs (hs h0 10 (h0 9 8) p1) 11 (((hs h0 10 (h0 9 8) p1)) 9 8) p2)) 9 8) p3)) 9 8) (-1))) 9 8) p4) 15 (((hs (hs (hs (hs (hs h0 10 (h0 9 8) p1) 11 (((hs h0 10 (h0 9 8) p1)) 9 8) p2) 12 (((hs (hs h0 10 (h0 9 8) p1) 11 (((hs h0 10 (h0 9 8) p1)) 9 8) p2)) 9 8) p3) 13 (((hs (hs (hs h0 10 (h0 9 8) p1) 11 (((hs h0 10 (h0 9 8) p1)) 9 8) p2) 12 (((hs (hs h0 10 (h0 9 8) p1) 11 (((hs h0 10 (h0 9 8) p1)) 9 8) p2)) 9 8) p3)) 9 8) (-1)) 14 (((hs (hs (hs (hs h0 10 (h0 9 8) p1) 11 (((hs h0 10 (h0 9 8) p1)) 9 8) p2) 12 (((hs (hs h0 10 (h0 9 8) p1) 11 (((hs h0 10 (h0 9 8) p1)) 9 8) p2)) 9 8) p3) 13 (((hs (hs (hs h0 10 (h0 9 8) p1) 11 (((hs h0 10 (h0 9 8) p1)) 9 8) p2) 12 (((hs (hs h0 10 (h0 9 8) p1) 11 (((hs h0 10 (h0 9 8) p1)) 9 8) p2)) 9 8) p3)) 9 8) (-1))) 9 8) p4)) 9 8) 0) 16 (((hs (hs (hs (hs (hs (hs h0 10 (h0 9 8) p1) 11 (((hs h0 10 (h0 9 8) p1)) 9 8) p2) 12 (((hs (hs h0 10 (h0 9 8) p1) 11 (((hs h0 10 (h0 9 8) p1)) 9 8) p2)) 9 8) p3) 13 (((hs (hs (hs h0 10 (h0 9 8) p1) 11 (((hs h0 10 (h0 9 8) p1)) 9 8) p2) 12 (((hs (hs h0 10 (h0 9 8) p1) 11 (((hs h0 10 (h0 9 8) p1)) 9 8) p2)) 9 8) p3)) 9 8) (-1)) 14 (((hs (hs (hs (hs h0 10 (h0 9 8) p1) 11 (((hs h0 10 (h0 9 8) p1)) 9 8) p2) 12 (((hs (hs h0 10 (h0 9 8) p1) 11 (((hs h0 10 (h0 9 8) p1)) 9 8) p2)) 9 8) p3) 13 (((hs (hs (hs h0 10 (h0 9 8) p1) 11 (((hs h0 10 (h0 9 8) p1)) 9 8) p2) 12 (((hs (hs h0 10 (h0 9 8) p1) 11 (((hs h0 10 (h0 9 8) p1)) 9 8) p2)) 9 8) p3)) 9 8) (-1))) 9 8) p4) 15 (((hs (hs (hs (hs (hs h0 10 (h0 9 8) p1) 11 (((hs h0 10 (h0 9 8) p1)) 9 8) p2) 12 (((hs (hs h0 10 (h0 9 8) p1) 11 (((hs h0 10 (h0 9 8) p1)) 9 8) p2)) 9 8) p3) 13 (((hs (hs (hs h0 10 (h0 9 8) p1) 11 (((hs h0 10 (h0 9 8) p1)) 9 8) p2) 12 (((hs (hs h0 10 (h0 9 8) p1) 11 (((hs h0 10 (h0 9 8) p1)) 9 8) p2)) 9 8) p3)) 9 8) (-1)) 14 (((hs (hs (hs (hs h0 10 (h0 9 8) p1) 11 (((hs h0 10 (h0 9 8) p1)) 9 8) p2) 12 (((hs (hs h0 10 (h0 9 8) p1) 11 (((hs h0 10 (h0 9 8) p1)) 9 8) p2)) 9 8) p3) 13 (((hs (hs (hs h0 10 (h0 9 8) p1) 11 (((hs h0 10 (h0 9 8) p1)) 9 8) p2) 12 (((hs (hs h0 10 (h0 9 8) p1) 11 (((hs h0 10 (h0 9 8) p1)) 9 8) p2)) 9 8) p3)) 9 8) (-1))) 9 8) p4)) 9 8) 0)) 9 8) (-1))) 9 8) (-1)) := zfr_hs hf (by decide)
    refine z_aload_n hX dX4_occupy_93 0 rfl ?_
    refine z_dup hX dX4_occupy_94 rfl ?_
    refine z_getI hX dX4_occupy_95 fl_36 0 rfl rfl ?_
    refine z_iconst hX dX4_occupy_98 ?_
    refine z_iadd hX dX4_occupy_99 ?_
    refine z_putI hX dX4_occupy_100 fl_36 pu_X4_8 0 rfl rfl ?_
    have hf : zfr [9, 10, 11, 12, 13, 14, 15, 16, 17] h0 (hs (hs (hs (hs (hs (hs (hs (hs (hs h0 10 (h0 9 8) p1) 11 (((hs h0 10 (h0 9 8) p1)) 9 8) p2) 12 (((hs (hs h0 10 (h0 9 8) p1) 11 (((hs h0 10 (h0 9 8) p1)) 9 8) p2)) 9 8) p3) 13 (((hs (hs (hs h0 10 (h0 9 8) p1) 11 (((hs h0 10 (h0 9 8) p1)) 9 8) p2) 12 (((hs (hs h0 10 (h0 9 8) p1) 11 (((hs h0 10 (h0 9 8) p1)) 9 8) p2)) 9 8) p3)) 9 8) (-1)) 14 (((hs (hs (hs (hs h0 10 (h0 9 8) p1) 11 (((hs h0 10 (h0 9 8) p1)) 9 8) p2) 12 (((hs (hs h0 10 (h0 9 8) p1) 11 (((hs h0 10 (h0 9 8) p1)) 9 8) p2)) 9 8) p3) 13 (((hs (hs (hs h0 10 (h0 9 8) p1) 11 (((hs h0 10 (h0 9 8) p1)) 9 8) p2) 12 (((hs (hs h0 10 (h0 9 8) p1) 11 (((hs h0 10 (h0 9 8) p1)) 9 8) p2)) 9 8) p3)) 9 8) (-1))) 9 8) p4) 15 (((hs (hs (hs (hs (hs h0 10 (h0 9 8) p1) 11 (((hs h0 10 (h0 9 8) p1)) 9 8) p2) 12 (((hs (hs h0 10 (h0 9 8) p1) 11 (((hs h0 10 (h0 9 8) p1)) 9 8) p2)) 9 8) p3) 13 (((hs (hs (hs h0 10 (h0 9 8) p1) 11 (((hs h0 10 (h0 9 8) p1)) 9 8) p2) 12 (((hs (hs h0 10 (h0 9 8) p1) 11 (((hs h0 10 (h0 9 8) p1)) 9 8) p2)) 9 8) p3)) 9 8) (-1)) 14 (((hs (hs (hs (hs h0 10 (h0 9 8) p1) 11 (((hs h0 10 (h0 9 8) p1)) 9 8) p2) 12 (((hs (hs h0 10 (h0 9 8) p1) 11 (((hs h0 10 (h0 9 8) p1)) 9 8) p2)) 9 8) p3) 13 (((hs (hs (hs h0 10 (h0 9 8) p1) 11 (((hs h0 10 (h0 9 8) p1)) 9 8) p2) 12 (((hs (hs h0 10 (h0 9 8) p1) 11 (((hs h0 10 (h0 9 8) p1)) 9 8) p2)) 9 8) p3)) 9 8) (-1))) 9 8) p4)) 9 8) 0) 16 (((hs (hs (hs (hs (hs (hs h0 10 (h0 9 8) p1) 11 (((hs h0 10 (h0 9 8) p1)) 9 8) p2) 12 (((hs (hs h0 10 (h0 9 8) p1) 11 (((hs h0 10 (h0 9 8) p1)) 9 8) p2)) 9 8) p3) 13 (((hs (hs (hs h0 10 (h0 9 8) p1) 11 (((hs h0 10 (h0 9 8) p1)) 9 8) p2) 12 (((hs (hs h0 10 (h0 9 8) p1) 11 (((hs h0 10 (h0 9 8) p1)) 9 8) p2)) 9 8) p3)) 9 8) (-1)) 14 (((hs (hs (hs (hs h0 10 (h0 9 8) p1) 11 (((hs h0 10 (h0 9 8) p1)) 9 8) p2) 12 (((hs (hs h0 10 (h0 9 8) p1) 11 (((hs h0 10 (h0 9 8) p1)) 9 8) p2)) 9 8) p3) 13 (((hs (hs (hs h0 10 (h0 9 8) p1) 11 (((hs h0 10 (h0 9 8) p1)) 9 8) p2) 12 (((hs (hs h0 10 (h0 9 8) p1) 11 (((hs h0 10 (h0 9 8) p1)) 9 8) p2)) 9 8) p3)) 9 8) (-1))) 9 8) p4) 15 (((hs (hs (hs (hs (hs h0 10 (h0 9 8) p1) 11 (((hs h0 10 (h0 9 8) p1)) 9 8) p2) 12 (((hs (hs h0 10 (h0 9 8) p1) 11 (((hs h0 10 (h0 9 8) p1)) 9 8) p2)) 9 8) p3) 13 (((hs (hs (hs h0 10 (h0 9 8) p1) 11 (((hs h0 10 (h0 9 8) p1)) 9 8) p2) 12 (((hs (hs h0 10 (h0 9 8) p1) 11 (((hs h0 10 (h0 9 8) p1)) 9 8) p2)) 9 8) p3)) 9 8) (-1)) 14 (((hs (hs (hs (hs h0 10 (h0 9 8) p1) 11 (((hs h0 10 (h0 9 8) p1)) 9 8) p2) 12 (((hs (hs h0 10 (h0 9 8) p1) 11 (((hs h0 10 (h0 9 8) p1)) 9 8) p2)) 9 8) p3) 13 (((hs (hs (hs h0 10 (h0 9 8) p1) 11 (((hs h0 10 (h0 9 8) p1)) 9 8) p2) 12 (((hs (hs h0 10 (h0 9 8) p1) 11 (((hs h0 10 (h0 9 8) p1)) 9 8) p2)) 9 8) p3)) 9 8) (-1))) 9 8) p4)) 9 8) 0)) 9 8) (-1)) 17 (((hs (hs (hs (hs (hs (hs (hs h0 10 (h0 9 8) p1) 11 (((hs h0 10 (h0 9 8) p1)) 9 8) p2) 12 (((hs (hs h0 10 (h0 9 8) p1) 11 (((hs h0 10 (h0 9 8) p1)) 9 8) p2)) 9 8) p3) 13 (((hs (hs (hs h0 10 (h0 9 8) p1) 11 (((hs h0 10 (h0 9 8) p1)) 9 8) p2) 12 (((hs (hs h0 10 (h0 9 8) p1) 11 (((hs h0 10 (h0 9 8) p1)) 9 8) p2)) 9 8) p3)) 9 8) (-1)) 14 (((hs (hs (hs (hs h0 10 (h0 9 8) p1) 11 (((hs h0 10 (h0 9 8) p1)) 9 8) p2) 12 (((hs (hs h0 10 (h0 9 8) p1) 11 (((hs h0 10 (h0 9 8) p1)) 9 8) p2)) 9 8) p3) 13 (((hs (hs (hs h0 10 (h0 9 8) p1) 11 (((hs h0 10 (h0 9 8) p1)) 9 8) p2) 12 (((hs (hs h0 10 (h0 9 8) p1) 11 (((hs h0 10 (h0 9 8) p1)) 9 8) p2)) 9 8) p3)) 9 8) (-1))) 9 8) p4) 15 (((hs (hs (hs (hs (hs h0 10 (h0 9 8) p1) 11 (((hs h0 10 (h0 9 8) p1)) 9 8) p2) 12 (((hs (hs h0 10 (h0 9 8) p1) 11 (((hs h0 10 (h0 9 8) p1)) 9 8) p2)) 9 8) p3) 13 (((hs (hs (hs h0 10 (h0 9 8) p1) 11 (((hs h0 10 (h0 9 8) p1)) 9 8) p2) 12 (((hs (hs h0 10 (h0 9 8) p1) 11 (((hs h0 10 (h0 9 8) p1)) 9 8) p2)) 9 8) p3)) 9 8) (-1)) 14 (((hs (hs (hs (hs h0 10 (h0 9 8) p1) 11 (((hs h0 10 (h0 9 8) p1)) 9 8) p2) 12 (((hs (hs h0 10 (h0 9 8) p1) 11 (((hs h0 10 (h0 9 8) p1)) 9 8) p2)) 9 8) p3) 13 (((hs (hs (hs h0 10 (h0 9 8) p1) 11 (((hs h0 10 (h0 9 8) p1)) 9 8) p2) 12 (((hs (hs h0 10 (h0 9 8) p1) 11 (((hs h0 10 (h0 9 8) p1)) 9 8) p2)) 9 8) p3)) 9 8) (-1))) 9 8) p4)) 9 8) 0) 16 (((hs (hs (hs (hs (hs (hs h0 10 (h0 9 8) p1) 11 (((hs h0 10 (h0 9 8) p1)) 9 8) p2) 12 (((hs (hs h0 10 (h0 9 8) p1) 11 (((hs h0 10 (h0 9 8) p1)) 9 8) p2)) 9 8) p3) 13 (((hs (hs (hs h0 10 (h0 9 8) p1) 11 (((hs h0 10 (h0 9 8) p1)) 9 8) p2) 12 (((hs (hs h0 10 (h0 9 8) p1) 11 (((hs h0 10 (h0 9 8) p1)) 9 8) p2)) 9 8) p3)) 9 8) (-1)) 14 (((hs (hs (hs (hs h0 10 (h0 9 8) p1) 11 (((hs h0 10 (h0 9 8) p1)) 9 8) p2) 12 (((hs (hs h0 10 (h0 9 8) p1) 11 (((hs h0 10 (h0 9 8) p1)) 9 8) p2)) 9 8) p3) 13 (((hs (hs (hs h0 10 (h0 9 8) p1) 11 (((hs h0 10 (h0 9 8) p1)) 9 8) p2) 12 (((hs (hs h0 10 (h0 9 8) p1) 11 (((hs h0 10 (h0 9 8) p1)) 9 8) p2)) 9 8) p3)) 9 8) (-1))) 9 8) p4) 15 (((hs (hs (hs (hs (hs h0 10 (h0 9 8) p1) 11 (((hs h0 10 (h0 9 8) p1)) 9 8) p2) 12 (((hs (hs h0 10 (h0 9 8) p1) 11 (((hs h0 10 (h0 9 8) p1)) 9 8) p2)) 9 8) p3) 13 (((hs (hs (hs h0 10 (h0 9 8) p1) 11 (((hs h0 10 (h0 9 8) p1)) 9 8) p2) 12 (((hs (hs h0 10 (h0 9 8) p1) 11 (((hs h0 10 (h0 9 8) p1)) 9 8) p2)) 9 8) p3)) 9 8) (-1)) 14 (((hs (hs (hs (hs h0 10 (h0 9 8) p1) 11 (((hs h0 10 (h0 9 8) p1)) 9 8) p2) 12 (((hs (hs h0 10 (h0 9 8) p1) 11 (((hs h0 10 (h0 9 8) p1)) 9 8) p2)) 9 8) p3) 13 (((hs (hs (hs h0 10 (h0 9 8) p1) 11 (((hs h0 10 (h0 9 8) p1)) 9 8) p2) 12 (((hs (hs h0 10 (h0 9 8) p1) 11 (((hs h0 10 (h0 9 8) p1)) 9 8) p2)) 9 8) p3)) 9 8) (-1))) 9 8) p4)) 9 8) 0)) 9 8) (-1))) 9 8) (-1)) 9 8 ((((hs (hs (hs (hs (hs (hs (hs (hs h0 10 (h0 9 8) p1) 11 (((hs h0 10 (h0 9 8) p1)) 9 8) p2) 12 (((hs (hs h0 10 (h0 9 8) p1) 11 (((hs h0 10 (h0 9 8) p1)) 9 8) p2)) 9 8) p3) 13 (((hs (hs (hs h0 10 (h0 9 8) p1) 11 (((hs h0 10 (h0 9 8) p1)) 9 8) p2) 12 (((hs (hs h0 10 (h0 9 8) p1) 11 (((hs h0 10 (h0 9 8) p1)) 9 8) p2)) 9 8) p3)) 9 8) (-1)) 14 (((hs (hs (hs (hs h0 10 (h0 9 8) p1) 11 (((hs h0 10 (h0 9 8) p1)) 9 8) p2) 12 (((hs (hs h0 10 (h0 9 8) p1) 11 (((hs h0 10 (h0 9 8) p1)) 9 8) p2)) 9 8) p3) 13 (((hs (hs (hs h0 10 (h0 9 8) p1) 11 (((hs h0 10 (h0 9 8) p1)) 9 8) p2) 12 (((hs (hs h0 10 (h0 9 8) p1) 11 (((hs h0 10 (h0 9 8) p1)) 9 8) p2)) 9 8) p3)) 9 8) (-1))) 9 8) p4) 15 (((hs (hs (hs (hs (hs h0 10 (h0 9 8) p1) 11 (((hs h0 10 (h0 9 8) p1)) 9 8) p2) 12 (((hs (hs h0 10 (h0 9 8) p1) 11 (((hs h0 10 (h0 9 8) p1)) 9 8) p2)) 9 8) p3) 13 (((hs (hs (hs h0 10 (h0 9 8) p1) 11 (((hs h0 10 (h0 9 8) p1)) 9 8) p2) 12 (((hs (hs h0 10 (h0 9 8) p1) 11 (((hs h0 10 (h0 9 8) p1)) 9 8) p2)) 9 8) p3)) 9 8) (-1)) 14 (((hs (hs (hs (hs h0 10 (h0 9 8) p1) 11 (((hs h0 10 (h0 9 8) p1)) 9 8) p2) 12 (((hs (hs h0 10 (h0 9 8) p1) 11 (((hs h0 10 (h0 9 8) p1)) 9 8) p2)) 9 8) p3) 13 (((hs (hs (hs h0 10 (h0 9 8) p1) 11 (((hs h0 10 (h0 9 8) p1)) 9 8) p2) 12 (((hs (hs h0 10 (h0 9 8) p1) 11 (((hs h0 10 (h0 9 8) p1)) 9 8) p2)) 9 8) p3)) 9 8) (-1))) 9 8) p4)) 9 8) 0) 16 (((hs (hs (hs (hs (hs (hs h0 10 (h0 9 8) p1) 11 (((hs h0 10 (h0 9 8) p1)) 9 8) p2) 12 (((hs (hs h0 10 (h0 9 8) p1) 11 (((hs h0 10 (h0 9 8) p1)) 9 8) p2)) 9 8) p3) 13 (((hs (hs (hs h0 10 (h0 9 8) p1) 11 (((hs h0 10 (h0 9 8) p1)) 9 8) p2) 12 (((hs (hs h0 10 (h0 9 8) p1) 11 (((hs h0 10 (h0 9 8) p1)) 9 8) p2)) 9 8) p3)) 9 8) (-1)) 14 (((hs (hs (hs (hs h0 10 (h0 9 8) p1) 11 (((hs h0 10 (h0 9 8) p1)) 9 8) p2) 12 (((hs (hs h0 10 (h0 9 8) p1) 11 (((hs h0 10 (h0 9 8) p1)) 9 8) p2)) 9 8) p3) 13 (((hs (hs (hs h0 10 (h0 9 8) p1) 11 (((hs h0 10 (h0 9 8) p1)) 9 8) p2) 12 (((hs (hs h0 10 (h0 9 8) p1) 11 (((hs h0 10 (h0 9 8) p1)) 9 8) p2)) 9 8) p3)) 9 8) (-1))) 9 8) p4) 15 (((hs (hs (hs (hs (hs h0 10 (h0 9 8) p1) 11 (((hs h0 10 (h0 9 8) p1)) 9 8) p2) 12 (((hs (hs h0 10 (h0 9 8) p1) 11 (((hs h0 10 (h0 9 8) p1)) 9 8) p2)) 9 8) p3) 13 (((hs (hs (hs h0 10 (h0 9 8) p1) 11 (((hs h0 10 (h0 9 8) p1)) 9 8) p2) 12 (((hs (hs h0 10 (h0 9 8) p1) 11 (((hs h0 10 (h0 9 8) p1)) 9 8) p2)) 9 8) p3)) 9 8) (-1)) 14 (((hs (hs (hs (hs h0 10 (h0 9 8) p1) 11 (((hs h0 10 (h0 9 8) p1)) 9 8) p2) 12 (((hs (hs h0 10 (h0 9 8) p1) 11 (((hs h0 10 (h0 9 8) p1)) 9 8) p2)) 9 8) p3) 13 (((hs (hs (hs h0 10 (h0 9 8) p1) 11 (((hs h0 10 (h0 9 8) p1)) 9 8) p2) 12 (((hs (hs h0 10 (h0 9 8) p1) 11 (((hs h0 10 (h0 9 8) p1)) 9 8) p2)) 9 8) p3)) 9 8) (-1))) 9 8) p4)) 9 8) 0)) 9 8) (-1)) 17 (((hs (hs (hs (hs (hs (hs (hs h0 10 (h0 9 8) p1) 11 (((hs h0 10 (h0 9 8) p1)) 9 8) p2) 12 (((hs (hs h0 10 (h0 9 8) p1) 11 (((hs h0 10 (h0 9 8) p1)) 9 8) p2)) 9 8) p3) 13 (((hs (hs (hs h0 10 (h0 9 8) p1) 11 (((hs h0 10 (h0 9 8) p1)) 9 8) p2) 12 (((hs (hs h0 10 (h0 9 8) p1) 11 (((hs h0 10 (h0 9 8) p1)) 9 8) p2)) 9 8) p3)) 9 8) (-1)) 14 (((hs (hs (hs (hs h0 10 (h0 9 8) p1) 11 (((hs h0 10 (h0 9 8) p1)) 9 8) p2) 12 (((hs (hs h0 10 (h0 9 8) p1) 11 (((hs h0 10 (h0 9 8) p1)) 9 8) p2)) 9 8) p3) 13 (((hs (hs (hs h0 10 (h0 9 8) p1) 11 (((hs h0 10 (h0 9 8) p1)) 9 8) p2) 12 (((hs (hs h0 10 (h0 9 8) p1) 11 (((hs h0 10 (h0 9 8) p1)) 9 8) p2)) 9 8) p3)) 9 8) (-1))) 9 8) p4) 15 (((hs (hs (hs (hs (hs h0 10 (h0 9 8) p1) 11 (((hs h0 10 (h0 9 8) p1)) 9 8) p2) 12 (((hs (hs h0 10 (h0 9 8) p1) 11 (((hs h0 10 (h0 9 8) p1)) 9 8) p2)) 9 8) p3) 13 (((hs (hs (hs h0 10 (h0 9 8) p1) 11 (((hs h0 10 (h0 9 8) p1)) 9 8) p2) 12 (((hs (hs h0 10 (h0 9 8) p1) 11 (((hs h0 10 (h0 9 8) p1)) 9 8) p2)) 9 8) p3)) 9 8) (-1)) 14 (((hs (hs (hs (hs h0 10 (h0 9 8) p1) 11 (((hs h0 10 (h0 9 8) p1)) 9 8) p2) 12 (((hs (hs h0 10 (h0 9 8) p1) 11 (((hs h0 10 (h0 9 8) p1)) 9 8) p2)) 9 8) p3) 13 (((hs (hs (hs h0 10 (h0 9 8) p1) 11 (((hs h0 10 (h0 9 8) p1)) 9 8) p2) 12 (((hs (hs h0 10 (h0 9 8) p1) 11 (((hs h0 10 (h0 9 8) p1)) 9 8) p2)) 9 8) p3)) 9 8) (-1))) 9 8) p4)) 9 8) 0) 16 (((hs (hs (hs (hs (hs (hs h0 10 (h0 9 8) p1) 11 (((hs h0 10 (h0 9 8) p1)) 9 8) p2) 12 (((hs (hs h0 10 (h0 9 8) p1) 11 (((hs h0 10 (h0 9 8) p1)) 9 8) p2)) 9 8) p3) 13 (((hs (hs (hs h0 10 (h0 9 8) p1) 11 (((hs h0 10 (h0 9 8) p1)) 9 8) p2) 12 (((hs (hs h0 10 (h0 9 8) p1) 11 (((hs h0 10 (h0 9 8) p1)) 9 8) p2)) 9 8) p3)) 9 8) (-1)) 14 (((hs (hs (hs (hs h0 10 (h0 9 8) p1) 11 (((hs h0 10 (h0 9 8) p1)) 9 8) p2) 12 (((hs (hs h0 10 (h0 9 8) p1) 11 (((hs h0 10 (h0 9 8) p1)) 9 8) p2)) 9 8) p3) 13 (((hs (hs (hs h0 10 (h0 9 8) p1) 11 (((hs h0 10 (h0 9 8) p1)) 9 8) p2) 12 (((hs (hs h0 10 (h0 9 8) p1) 11 (((hs h0 10 (h0 9 8) p1)) 9 8) p2)) 9 8) p3)) 9 8) (-1))) 9 8) p4) 15 (((hs (hs (hs (hs (hs h0 10 (h0 9 8) p1) 11 (((hs h0 10 (h0 9 8) p1)) 9 8) p2) 12 (((hs (hs h0 10 (h0 9 8) p1) 11 (((hs h0 10 (h0 9 8) p1)) 9 8) p2)) 9 8) p3) 13 (((hs (hs (hs h0 10 (h0 9 8) p1) 11 (((hs h0 10 (h0 9 8) p1)) 9 8) p2) 12 (((hs (hs h0 10 (h0 9 8) p1) 11 (((hs h0 10 (h0 9 8) p1)) 9 8) p2)) 9 8) p3)) 9 8) (-1)) 14 (((hs (hs (hs (hs h0 10 (h0 9 8) p1) 11 (((hs h0 10 (h0 9 8) p1)) 9 8) p2) 12 (((hs (hs h0 10 (h0 9 8) p1) 11 (((hs h0 10 (h0 9 8) p1)) 9 8) p2)) 9 8) p3) 13 (((hs (hs (hs h0 10 (h0 9 8) p1) 11 (((hs h0 10 (h0 9 8) p1)) 9 8) p2) 12 (((hs (hs h0 10 (h0 9 8) p1) 11 (((hs h0 10 (h0 9 8) p1)) 9 8) p2)) 9 8) p3)) 9 8) (-1))) 9 8) p4)) 9 8) 0)) 9 8) (-1))) 9 8) (-1))) 9 8) + 1)) := zfr_hs hf (by decide)
    refine z_aload_n hX dX4_occupy_103 0 rfl ?_
    refine z_getI hX dX4_occupy_104 fl_36 0 rfl rfl ?_
    refine z_iconst hX dX4_occupy_107 ?_
    refine z_isub hX dX4_occupy_108 ?_
    obtain rfl := Option.some.inj hr
    exact hQ _ _ dX4_occupy_109 hf
  · refine z_iconst hX dX4_occupy_10 ?_
    obtain rfl := Option.some.inj hr
    exact hQ _ _ dX4_occupy_11 hf

def fX4_size (h : HS) : Option (Int) := some (h 9 8)
set_option maxRecDepth 100000 in
set_option maxHeartbeats 4000000 in
theorem mX4_size {G : ZG} {l0 : Launch} {ad : Nat → Nat} {h0 : HS} {o : Int} (hr : fX4_size h0 = some o) : ZMi G l0 yX4_size wsX4_size ({ frames := 0, cells := 0, slots := 0, locals := 0 }) [.ref (ad 9)] sh_3 ad h0 [] o h0 := by
  refine ZMi.of (cc := cX4_size) (maxL := 1) (ret := (some .int)) (own := RX4) (lv0 := [(0, .ref (ad 9))]) (by decide) rfl rfl rfl (Nat.le_of_ble_eq_true rfl) rfl ?_
  intro X hX hQ
  have hf : zfr [] h0 h0 := zfr_rf
  have fl_36 : zFld wsX4_size RX4 36 4 RX4 TX4 9 8 := ⟨by decide +kernel, by decide +kernel, by decide, rfl⟩
  unfold fX4_size at hr
  refine z_aload_n hX dX4_size_0 0 rfl ?_
  refine z_getI hX dX4_size_1 fl_36 0 rfl rfl ?_
  obtain rfl := Option.some.inj hr
  exact hQ _ _ dX4_size_4 hf

def fX4_has (p1 : Int) (h : HS) : Option (Int) := if wr p1 < 0 then some 0 else if wr (h 9 8) ≤ wr p1 then some 0 else some 1
set_option maxRecDepth 100000 in
set_option maxHeartbeats 4000000 in
theorem mX4_has {G : ZG} {l0 : Launch} {ad : Nat → Nat} {h0 : HS} {p1 : Int} {o : Int} (hr : fX4_has p1 h0 = some o) : ZMi G l0 yX4_has wsX4_has ({ frames := 0, cells := 0, slots := 0, locals := 0 }) [.ref (ad 9), .int (iI p1)] sh_3 ad h0 [] o h0 := by
  refine ZMi.ofZ (cc := cX4_has) (maxL := 2) (ret := (some .boolean)) (own := RX4) (lv0 := [(0, .ref (ad 9)), (1, .int (iI p1))]) (by decide) rfl rfl rfl (Nat.le_of_ble_eq_true rfl) rfl ?_
  intro X hX hQ
  have hf : zfr [] h0 h0 := zfr_rf
  have fl_36 : zFld wsX4_has RX4 36 4 RX4 TX4 9 8 := ⟨by decide +kernel, by decide +kernel, by decide, rfl⟩
  unfold fX4_has at hr
  refine z_iload_n hX dX4_has_0 1 rfl ?_
  refine z_if_lt (tgt := 16) hX dX4_has_1 (by decide) rfl hr (fun hr => ?_) (fun hr => ?_)
  · refine z_iconst hX dX4_has_16 ?_
    obtain rfl := Option.some.inj hr
    exact hQ _ _ dX4_has_17 hf (Or.inl rfl)
  · refine z_iload_n hX dX4_has_4 1 rfl ?_
    refine z_aload_n hX dX4_has_5 0 rfl ?_
    refine z_getI hX dX4_has_6 fl_36 0 rfl rfl ?_
    refine z_icmp_ge (tgt := 16) hX dX4_has_9 (by decide) rfl rfl hr (fun hr => ?_) (fun hr => ?_)
    · refine z_iconst hX dX4_has_16 ?_
      obtain rfl := Option.some.inj hr
      exact hQ _ _ dX4_has_17 hf (Or.inl rfl)
    · refine z_iconst hX dX4_has_12 ?_
      refine z_goto (tgt := 17) hX dX4_has_13 (by decide) ?_
      obtain rfl := Option.some.inj hr
      exact hQ _ _ dX4_has_17 hf (Or.inr rfl)

def fX4_above (p1 : Int) (h : HS) : Option (Int) := (fX4_has p1 h).bind fun r1 => if wr r1 = 0 then some (-1) else if (0 : Int) ≤ p1 ∧ p1 < 200 then some (h 10 p1) else none
set_option maxRecDepth 100000 in
set_option maxHeartbeats 4000000 in
theorem mX4_above {G : ZG} {l0 : Launch} {ad : Nat → Nat} {h0 : HS} {p1 : Int} {o : Int} (hr : fX4_above p1 h0 = some o) : ZMi G l0 yX4_above wsX4_above ({ frames := 1, cells := 0, slots := 0, locals := 21 }) [.ref (ad 9), .int (iI p1)] sh_3 ad h0 [] o h0 := by
  refine ZMi.of (cc := cX4_above) (maxL := 2) (ret := (some .int)) (own := RX4) (lv0 := [(0, .ref (ad 9)), (1, .int (iI p1))]) (by decide) rfl rfl rfl (Nat.le_of_ble_eq_true rfl) rfl ?_
  intro X hX hQ
  have hf : zfr [] h0 h0 := zfr_rf
  have fl_9 : zFld wsX4_above RX4 9 4 RX4 TX4 9 0 := ⟨by decide +kernel, by decide +kernel, by decide, rfl⟩
  unfold fX4_above at hr
  refine z_aload_n hX dX4_above_0 0 rfl ?_
  refine z_iload_n hX dX4_above_1 1 rfl ?_
  obtain ⟨r1, hc1, hr⟩ := z_bind hr
  refine z_callV_i (As := [.int (iI p1)]) (k1 := 0) (n1 := 0) (nA := 1) hX (mX4_has hc1) dX4_above_2 gX4_above_X4_has rfl ⟨rfl, by decide, by decide, by decide +kernel⟩ ⟨by decide, by decide⟩ ⟨by decide, by decide⟩ 0 rfl rfl rfl rfl (Nat.le_of_ble_eq_true rfl) (by decide +kernel) rfl rfl (fun hg1 => ?_)
  refine z_if_eq (tgt := 17) hX dX4_above_5 (by decide) rfl hr (fun hr => ?_) (fun hr => ?_)
  · refine z_iconst hX dX4_above_17 ?_
    obtain rfl := Option.some.inj hr
    exact hQ _ _ dX4_above_18 hf
  · refine z_aload_n hX dX4_above_8 0 rfl ?_
    refine z_getR (j := 10) hX dX4_above_9 fl_9 0 rfl rfl ?_
    refine z_iload_n hX dX4_above_12 1 rfl ?_
    refine z_iaload (b := 200) hX dX4_above_13 1 rfl (by decide) rfl hr (fun hr => ?_)
    refine z_goto (tgt := 18) hX dX4_above_14 (by decide) ?_
    obtain rfl := Option.some.inj hr
    exact hQ _ _ dX4_above_18 hf

def fX4_from (p1 : Int) (h : HS) : Option (Int) := (fX4_has p1 h).bind fun r1 => if wr r1 = 0 then some (-1) else if (0 : Int) ≤ p1 ∧ p1 < 200 then some (h 11 p1) else none
set_option maxRecDepth 100000 in
set_option maxHeartbeats 4000000 in
theorem mX4_from {G : ZG} {l0 : Launch} {ad : Nat → Nat} {h0 : HS} {p1 : Int} {o : Int} (hr : fX4_from p1 h0 = some o) : ZMi G l0 yX4_from wsX4_from ({ frames := 1, cells := 0, slots := 0, locals := 21 }) [.ref (ad 9), .int (iI p1)] sh_3 ad h0 [] o h0 := by
  refine ZMi.of (cc := cX4_from) (maxL := 2) (ret := (some .int)) (own := RX4) (lv0 := [(0, .ref (ad 9)), (1, .int (iI p1))]) (by decide) rfl rfl rfl (Nat.le_of_ble_eq_true rfl) rfl ?_
  intro X hX hQ
  have hf : zfr [] h0 h0 := zfr_rf
  have fl_15 : zFld wsX4_from RX4 15 4 RX4 TX4 9 1 := ⟨by decide +kernel, by decide +kernel, by decide, rfl⟩
  unfold fX4_from at hr
  refine z_aload_n hX dX4_from_0 0 rfl ?_
  refine z_iload_n hX dX4_from_1 1 rfl ?_
  obtain ⟨r1, hc1, hr⟩ := z_bind hr
  refine z_callV_i (As := [.int (iI p1)]) (k1 := 0) (n1 := 0) (nA := 1) hX (mX4_has hc1) dX4_from_2 gX4_from_X4_has rfl ⟨rfl, by decide, by decide, by decide +kernel⟩ ⟨by decide, by decide⟩ ⟨by decide, by decide⟩ 0 rfl rfl rfl rfl (Nat.le_of_ble_eq_true rfl) (by decide +kernel) rfl rfl (fun hg1 => ?_)
  refine z_if_eq (tgt := 17) hX dX4_from_5 (by decide) rfl hr (fun hr => ?_) (fun hr => ?_)
  · refine z_iconst hX dX4_from_17 ?_
    obtain rfl := Option.some.inj hr
    exact hQ _ _ dX4_from_18 hf
  · refine z_aload_n hX dX4_from_8 0 rfl ?_
    refine z_getR (j := 11) hX dX4_from_9 fl_15 0 rfl rfl ?_
    refine z_iload_n hX dX4_from_12 1 rfl ?_
    refine z_iaload (b := 200) hX dX4_from_13 2 rfl (by decide) rfl hr (fun hr => ?_)
    refine z_goto (tgt := 18) hX dX4_from_14 (by decide) ?_
    obtain rfl := Option.some.inj hr
    exact hQ _ _ dX4_from_18 hf

def fX4_to (p1 : Int) (h : HS) : Option (Int) := (fX4_has p1 h).bind fun r1 => if wr r1 = 0 then some (-1) else if (0 : Int) ≤ p1 ∧ p1 < 200 then some (h 12 p1) else none
set_option maxRecDepth 100000 in
set_option maxHeartbeats 4000000 in
theorem mX4_to {G : ZG} {l0 : Launch} {ad : Nat → Nat} {h0 : HS} {p1 : Int} {o : Int} (hr : fX4_to p1 h0 = some o) : ZMi G l0 yX4_to wsX4_to ({ frames := 1, cells := 0, slots := 0, locals := 21 }) [.ref (ad 9), .int (iI p1)] sh_3 ad h0 [] o h0 := by
  refine ZMi.of (cc := cX4_to) (maxL := 2) (ret := (some .int)) (own := RX4) (lv0 := [(0, .ref (ad 9)), (1, .int (iI p1))]) (by decide) rfl rfl rfl (Nat.le_of_ble_eq_true rfl) rfl ?_
  intro X hX hQ
  have hf : zfr [] h0 h0 := zfr_rf
  have fl_18 : zFld wsX4_to RX4 18 4 RX4 TX4 9 2 := ⟨by decide +kernel, by decide +kernel, by decide, rfl⟩
  unfold fX4_to at hr
  refine z_aload_n hX dX4_to_0 0 rfl ?_
  refine z_iload_n hX dX4_to_1 1 rfl ?_
  obtain ⟨r1, hc1, hr⟩ := z_bind hr
  refine z_callV_i (As := [.int (iI p1)]) (k1 := 0) (n1 := 0) (nA := 1) hX (mX4_has hc1) dX4_to_2 gX4_to_X4_has rfl ⟨rfl, by decide, by decide, by decide +kernel⟩ ⟨by decide, by decide⟩ ⟨by decide, by decide⟩ 0 rfl rfl rfl rfl (Nat.le_of_ble_eq_true rfl) (by decide +kernel) rfl rfl (fun hg1 => ?_)
  refine z_if_eq (tgt := 17) hX dX4_to_5 (by decide) rfl hr (fun hr => ?_) (fun hr => ?_)
  · refine z_iconst hX dX4_to_17 ?_
    obtain rfl := Option.some.inj hr
    exact hQ _ _ dX4_to_18 hf
  · refine z_aload_n hX dX4_to_8 0 rfl ?_
    refine z_getR (j := 12) hX dX4_to_9 fl_18 0 rfl rfl ?_
    refine z_iload_n hX dX4_to_12 1 rfl ?_
    refine z_iaload (b := 200) hX dX4_to_13 3 rfl (by decide) rfl hr (fun hr => ?_)
    refine z_goto (tgt := 18) hX dX4_to_14 (by decide) ?_
    obtain rfl := Option.some.inj hr
    exact hQ _ _ dX4_to_18 hf

def fX4_taken (p1 : Int) (h : HS) : Option (Int) := (fX4_has p1 h).bind fun r1 => if wr r1 = 0 then some (-1) else if (0 : Int) ≤ p1 ∧ p1 < 200 then some (h 13 p1) else none
set_option maxRecDepth 100000 in
set_option maxHeartbeats 4000000 in
theorem mX4_taken {G : ZG} {l0 : Launch} {ad : Nat → Nat} {h0 : HS} {p1 : Int} {o : Int} (hr : fX4_taken p1 h0 = some o) : ZMi G l0 yX4_taken wsX4_taken ({ frames := 1, cells := 0, slots := 0, locals := 21 }) [.ref (ad 9), .int (iI p1)] sh_3 ad h0 [] o h0 := by
  refine ZMi.of (cc := cX4_taken) (maxL := 2) (ret := (some .int)) (own := RX4) (lv0 := [(0, .ref (ad 9)), (1, .int (iI p1))]) (by decide) rfl rfl rfl (Nat.le_of_ble_eq_true rfl) rfl ?_
  intro X hX hQ
  have hf : zfr [] h0 h0 := zfr_rf
  have fl_21 : zFld wsX4_taken RX4 21 4 RX4 TX4 9 3 := ⟨by decide +kernel, by decide +kernel, by decide, rfl⟩
  unfold fX4_taken at hr
  refine z_aload_n hX dX4_taken_0 0 rfl ?_
  refine z_iload_n hX dX4_taken_1 1 rfl ?_
  obtain ⟨r1, hc1, hr⟩ := z_bind hr
  refine z_callV_i (As := [.int (iI p1)]) (k1 := 0) (n1 := 0) (nA := 1) hX (mX4_has hc1) dX4_taken_2 gX4_taken_X4_has rfl ⟨rfl, by decide, by decide, by decide +kernel⟩ ⟨by decide, by decide⟩ ⟨by decide, by decide⟩ 0 rfl rfl rfl rfl (Nat.le_of_ble_eq_true rfl) (by decide +kernel) rfl rfl (fun hg1 => ?_)
  refine z_if_eq (tgt := 17) hX dX4_taken_5 (by decide) rfl hr (fun hr => ?_) (fun hr => ?_)
  · refine z_iconst hX dX4_taken_17 ?_
    obtain rfl := Option.some.inj hr
    exact hQ _ _ dX4_taken_18 hf
  · refine z_aload_n hX dX4_taken_8 0 rfl ?_
    refine z_getR (j := 13) hX dX4_taken_9 fl_21 0 rfl rfl ?_
    refine z_iload_n hX dX4_taken_12 1 rfl ?_
    refine z_iaload (b := 200) hX dX4_taken_13 4 rfl (by decide) rfl hr (fun hr => ?_)
    refine z_goto (tgt := 18) hX dX4_taken_14 (by decide) ?_
    obtain rfl := Option.some.inj hr
    exact hQ _ _ dX4_taken_18 hf

def fX4_depth (p1 : Int) (h : HS) : Option (Int) := (fX4_has p1 h).bind fun r1 => if wr r1 = 0 then some 0 else if (0 : Int) ≤ p1 ∧ p1 < 200 then some (h 14 p1) else none
set_option maxRecDepth 100000 in
set_option maxHeartbeats 4000000 in
theorem mX4_depth {G : ZG} {l0 : Launch} {ad : Nat → Nat} {h0 : HS} {p1 : Int} {o : Int} (hr : fX4_depth p1 h0 = some o) : ZMi G l0 yX4_depth wsX4_depth ({ frames := 1, cells := 0, slots := 0, locals := 21 }) [.ref (ad 9), .int (iI p1)] sh_3 ad h0 [] o h0 := by
  refine ZMi.of (cc := cX4_depth) (maxL := 2) (ret := (some .int)) (own := RX4) (lv0 := [(0, .ref (ad 9)), (1, .int (iI p1))]) (by decide) rfl rfl rfl (Nat.le_of_ble_eq_true rfl) rfl ?_
  intro X hX hQ
  have hf : zfr [] h0 h0 := zfr_rf
  have fl_24 : zFld wsX4_depth RX4 24 4 RX4 TX4 9 4 := ⟨by decide +kernel, by decide +kernel, by decide, rfl⟩
  unfold fX4_depth at hr
  refine z_aload_n hX dX4_depth_0 0 rfl ?_
  refine z_iload_n hX dX4_depth_1 1 rfl ?_
  obtain ⟨r1, hc1, hr⟩ := z_bind hr
  refine z_callV_i (As := [.int (iI p1)]) (k1 := 0) (n1 := 0) (nA := 1) hX (mX4_has hc1) dX4_depth_2 gX4_depth_X4_has rfl ⟨rfl, by decide, by decide, by decide +kernel⟩ ⟨by decide, by decide⟩ ⟨by decide, by decide⟩ 0 rfl rfl rfl rfl (Nat.le_of_ble_eq_true rfl) (by decide +kernel) rfl rfl (fun hg1 => ?_)
  refine z_if_eq (tgt := 17) hX dX4_depth_5 (by decide) rfl hr (fun hr => ?_) (fun hr => ?_)
  · refine z_iconst hX dX4_depth_17 ?_
    obtain rfl := Option.some.inj hr
    exact hQ _ _ dX4_depth_18 hf
  · refine z_aload_n hX dX4_depth_8 0 rfl ?_
    refine z_getR (j := 14) hX dX4_depth_9 fl_24 0 rfl rfl ?_
    refine z_iload_n hX dX4_depth_12 1 rfl ?_
    refine z_iaload (b := 200) hX dX4_depth_13 5 rfl (by decide) rfl hr (fun hr => ?_)
    refine z_goto (tgt := 18) hX dX4_depth_14 (by decide) ?_
    obtain rfl := Option.some.inj hr
    exact hQ _ _ dX4_depth_18 hf

def fX4_childCount (p1 : Int) (h : HS) : Option (Int) := (fX4_has p1 h).bind fun r1 => if wr r1 = 0 then some 0 else if (0 : Int) ≤ p1 ∧ p1 < 200 then some (h 15 p1) else none
set_option maxRecDepth 100000 in
set_option maxHeartbeats 4000000 in
theorem mX4_childCount {G : ZG} {l0 : Launch} {ad : Nat → Nat} {h0 : HS} {p1 : Int} {o : Int} (hr : fX4_childCount p1 h0 = some o) : ZMi G l0 yX4_childCount wsX4_childCount ({ frames := 1, cells := 0, slots := 0, locals := 21 }) [.ref (ad 9), .int (iI p1)] sh_3 ad h0 [] o h0 := by
  refine ZMi.of (cc := cX4_childCount) (maxL := 2) (ret := (some .int)) (own := RX4) (lv0 := [(0, .ref (ad 9)), (1, .int (iI p1))]) (by decide) rfl rfl rfl (Nat.le_of_ble_eq_true rfl) rfl ?_
  intro X hX hQ
  have hf : zfr [] h0 h0 := zfr_rf
  have fl_27 : zFld wsX4_childCount RX4 27 4 RX4 TX4 9 5 := ⟨by decide +kernel, by decide +kernel, by decide, rfl⟩
  unfold fX4_childCount at hr
  refine z_aload_n hX dX4_childCount_0 0 rfl ?_
  refine z_iload_n hX dX4_childCount_1 1 rfl ?_
  obtain ⟨r1, hc1, hr⟩ := z_bind hr
  refine z_callV_i (As := [.int (iI p1)]) (k1 := 0) (n1 := 0) (nA := 1) hX (mX4_has hc1) dX4_childCount_2 gX4_childCount_X4_has rfl ⟨rfl, by decide, by decide, by decide +kernel⟩ ⟨by decide, by decide⟩ ⟨by decide, by decide⟩ 0 rfl rfl rfl rfl (Nat.le_of_ble_eq_true rfl) (by decide +kernel) rfl rfl (fun hg1 => ?_)
  refine z_if_eq (tgt := 17) hX dX4_childCount_5 (by decide) rfl hr (fun hr => ?_) (fun hr => ?_)
  · refine z_iconst hX dX4_childCount_17 ?_
    obtain rfl := Option.some.inj hr
    exact hQ _ _ dX4_childCount_18 hf
  · refine z_aload_n hX dX4_childCount_8 0 rfl ?_
    refine z_getR (j := 15) hX dX4_childCount_9 fl_27 0 rfl rfl ?_
    refine z_iload_n hX dX4_childCount_12 1 rfl ?_
    refine z_iaload (b := 200) hX dX4_childCount_13 6 rfl (by decide) rfl hr (fun hr => ?_)
    refine z_goto (tgt := 18) hX dX4_childCount_14 (by decide) ?_
    obtain rfl := Option.some.inj hr
    exact hQ _ _ dX4_childCount_18 hf

def fX4_keepTaken (p1 : Int) (p2 : Int) (h : HS) : Option (HS) := (fX4_has p1 h).bind fun r1 => if wr r1 = 0 then some h else if (0 : Int) ≤ p1 ∧ p1 < 200 then some (hs h 13 p1 p2) else none
set_option maxRecDepth 100000 in
set_option maxHeartbeats 4000000 in
theorem mX4_keepTaken {G : ZG} {l0 : Launch} {ad : Nat → Nat} {h0 : HS} {p1 : Int} {p2 : Int} {o : HS} (hr : fX4_keepTaken p1 p2 h0 = some o) : ZMv G l0 yX4_keepTaken wsX4_keepTaken ({ frames := 1, cells := 0, slots := 0, locals := 21 }) [.ref (ad 9), .int (iI p1), .int (iI p2)] sh_3 ad h0 [13] o := by
  refine ZMv.of (cc := cX4_keepTaken) (maxL := 3) (ret := none) (own := RX4) (lv0 := [(0, .ref (ad 9)), (1, .int (iI p1)), (2, .int (iI p2))]) (by decide) rfl rfl rfl (Nat.le_of_ble_eq_true rfl) rfl ?_
  intro X hX hQ
  have hf : zfr [13] h0 h0 := zfr_rf
  have fl_21 : zFld wsX4_keepTaken RX4 21 4 RX4 TX4 9 3 := ⟨by decide +kernel, by decide +kernel, by decide, rfl⟩
  unfold fX4_keepTaken at hr
  refine z_aload_n hX dX4_keepTaken_0 0 rfl ?_
  refine z_iload_n hX dX4_keepTaken_1 1 rfl ?_
  obtain ⟨r1, hc1, hr⟩ := z_bind hr
  refine z_callV_i (As := [.int (iI p1)]) (k1 := 0) (n1 := 0) (nA := 1) hX (mX4_has hc1) dX4_keepTaken_2 gX4_keepTaken_X4_has rfl ⟨rfl, by decide, by decide, by decide +kernel⟩ ⟨by decide, by decide⟩ ⟨by decide, by decide⟩ 0 rfl rfl rfl rfl (Nat.le_of_ble_eq_true rfl) (by decide +kernel) rfl rfl (fun hg1 => ?_)
  refine z_if_eq (tgt := 15) hX dX4_keepTaken_5 (by decide) rfl hr (fun hr => ?_) (fun hr => ?_)
  · obtain rfl := Option.some.inj hr
    exact hQ _ _ dX4_keepTaken_15 hf
  · refine z_aload_n hX dX4_keepTaken_8 0 rfl ?_
    refine z_getR (j := 13) hX dX4_keepTaken_9 fl_21 0 rfl rfl ?_
    refine z_iload_n hX dX4_keepTaken_12 1 rfl ?_
    refine z_iload_n hX dX4_keepTaken_13 2 rfl ?_
    refine z_iastore (b := 200) hX dX4_keepTaken_14 4 rfl (by decide) rfl hr (fun hr => ?_)
    have hf : zfr [13] h0 (hs h0 13 p1 p2) := zfr_hs hf (by decide)
    obtain rfl := Option.some.inj hr
    exact hQ _ _ dX4_keepTaken_15 hf

def fX4_fact (p1 : Int) (p2 : Int) (h : HS) : Option (Int) := if wr p2 = 0 then (fX4_above p1 h).bind fun r2 => some r2 else if wr p2 = 1 then (fX4_from p1 h).bind fun r3 => some r3 else if wr p2 = 2 then (fX4_to p1 h).bind fun r4 => some r4 else if wr p2 = 3 then (fX4_depth p1 h).bind fun r5 => some r5 else (fX4_childCount p1 h).bind fun r1 => some r1
set_option maxRecDepth 100000 in
set_option maxHeartbeats 4000000 in
theorem mX4_fact {G : ZG} {l0 : Launch} {ad : Nat → Nat} {h0 : HS} {p1 : Int} {p2 : Int} {o : Int} (hr : fX4_fact p1 p2 h0 = some o) : ZMi G l0 yX4_fact wsX4_fact ({ frames := 2, cells := 0, slots := 0, locals := 42 }) [.ref (ad 9), .int (iI p1), .int (iI p2)] sh_3 ad h0 [] o h0 := by
  refine ZMi.of (cc := cX4_fact) (maxL := 3) (ret := (some .int)) (own := RX4) (lv0 := [(0, .ref (ad 9)), (1, .int (iI p1)), (2, .int (iI p2))]) (by decide) rfl rfl rfl (Nat.le_of_ble_eq_true rfl) rfl ?_
  intro X hX hQ
  have hf : zfr [] h0 h0 := zfr_rf
  unfold fX4_fact at hr
  refine z_iload_n hX dX4_fact_0 2 rfl ?_
  by_cases n0 : wr p2 = 0
  · have hr := z_ifp hr n0
    refine z_tableIn (v := 0) (tgt := 32) hX dX4_fact_1 n0 (by decide) (by decide) rfl (by decide) ?_
    refine z_aload_n hX dX4_fact_32 0 rfl ?_
    refine z_iload_n hX dX4_fact_33 1 rfl ?_
    obtain ⟨r2, hc2, hr⟩ := z_bind hr
    refine z_callV_i (As := [.int (iI p1)]) (k1 := 0) (n1 := 0) (nA := 1) hX (mX4_above hc2) dX4_fact_34 gX4_fact_X4_above rfl ⟨rfl, by decide, by decide, by decide +kernel⟩ ⟨by decide, by decide⟩ ⟨by decide, by decide⟩ 0 rfl rfl rfl rfl (Nat.le_of_ble_eq_true rfl) (by decide +kernel) rfl rfl (fun hg2 => ?_)
    obtain rfl := Option.some.inj hr
    exact hQ _ _ dX4_fact_37 hf
  · have hr := z_ifn hr n0
    by_cases n1 : wr p2 = 1
    · have hr := z_ifp hr n1
      refine z_tableIn (v := 1) (tgt := 38) hX dX4_fact_1 n1 (by decide) (by decide) rfl (by decide) ?_
      refine z_aload_n hX dX4_fact_38 0 rfl ?_
      refine z_iload_n hX dX4_fact_39 1 rfl ?_
      obtain ⟨r3, hc3, hr⟩ := z_bind hr
      refine z_callV_i (As := [.int (iI p1)]) (k1 := 0) (n1 := 0) (nA := 1) hX (mX4_from hc3) dX4_fact_40 gX4_fact_X4_from rfl ⟨rfl, by decide, by decide, by decide +kernel⟩ ⟨by decide, by decide⟩ ⟨by decide, by decide⟩ 0 rfl rfl rfl rfl (Nat.le_of_ble_eq_true rfl) (by decide +kernel) rfl rfl (fun hg3 => ?_)
      obtain rfl := Option.some.inj hr
      exact hQ _ _ dX4_fact_43 hf
    · have hr := z_ifn hr n1
      by_cases n2 : wr p2 = 2
      · have hr := z_ifp hr n2
        refine z_tableIn (v := 2) (tgt := 44) hX dX4_fact_1 n2 (by decide) (by decide) rfl (by decide) ?_
        refine z_aload_n hX dX4_fact_44 0 rfl ?_
        refine z_iload_n hX dX4_fact_45 1 rfl ?_
        obtain ⟨r4, hc4, hr⟩ := z_bind hr
        refine z_callV_i (As := [.int (iI p1)]) (k1 := 0) (n1 := 0) (nA := 1) hX (mX4_to hc4) dX4_fact_46 gX4_fact_X4_to rfl ⟨rfl, by decide, by decide, by decide +kernel⟩ ⟨by decide, by decide⟩ ⟨by decide, by decide⟩ 0 rfl rfl rfl rfl (Nat.le_of_ble_eq_true rfl) (by decide +kernel) rfl rfl (fun hg4 => ?_)
        obtain rfl := Option.some.inj hr
        exact hQ _ _ dX4_fact_49 hf
      · have hr := z_ifn hr n2
        by_cases n3 : wr p2 = 3
        · have hr := z_ifp hr n3
          refine z_tableIn (v := 3) (tgt := 50) hX dX4_fact_1 n3 (by decide) (by decide) rfl (by decide) ?_
          refine z_aload_n hX dX4_fact_50 0 rfl ?_
          refine z_iload_n hX dX4_fact_51 1 rfl ?_
          obtain ⟨r5, hc5, hr⟩ := z_bind hr
          refine z_callV_i (As := [.int (iI p1)]) (k1 := 0) (n1 := 0) (nA := 1) hX (mX4_depth hc5) dX4_fact_52 gX4_fact_X4_depth rfl ⟨rfl, by decide, by decide, by decide +kernel⟩ ⟨by decide, by decide⟩ ⟨by decide, by decide⟩ 0 rfl rfl rfl rfl (Nat.le_of_ble_eq_true rfl) (by decide +kernel) rfl rfl (fun hg5 => ?_)
          obtain rfl := Option.some.inj hr
          exact hQ _ _ dX4_fact_55 hf
        · have hr := z_ifn hr n3
          refine z_tableOut (tgt := 56) hX dX4_fact_1 (by omega) (by decide) ?_
          refine z_aload_n hX dX4_fact_56 0 rfl ?_
          refine z_iload_n hX dX4_fact_57 1 rfl ?_
          obtain ⟨r1, hc1, hr⟩ := z_bind hr
          refine z_callV_i (As := [.int (iI p1)]) (k1 := 0) (n1 := 0) (nA := 1) hX (mX4_childCount hc1) dX4_fact_58 gX4_fact_X4_childCount rfl ⟨rfl, by decide, by decide, by decide +kernel⟩ ⟨by decide, by decide⟩ ⟨by decide, by decide⟩ 0 rfl rfl rfl rfl (Nat.le_of_ble_eq_true rfl) (by decide +kernel) rfl rfl (fun hg1 => ?_)
          obtain rfl := Option.some.inj hr
          exact hQ _ _ dX4_fact_61 hf

def fX4_child_L34 : Nat → Int → Int → Int → HS → Option (Int)
  | 0, _, _, _, _ => none
  | nf + 1, x2, x3, x4, h => if wr x2 ≤ wr x4 then some x3 else (fX4_has x3 h).bind fun r1 => if wr r1 = 0 then some x3 else if (0 : Int) ≤ x3 ∧ x3 < 200 then fX4_child_L34 nf x2 (h 17 x3) (x4 + 1) h else none
def fX4_child (p1 : Int) (p2 : Int) (h : HS) : Option (Int) := (fX4_has p1 h).bind fun r2 => if wr r2 = 0 then some (-1) else if wr p2 < 0 then some (-1) else if (0 : Int) ≤ p1 ∧ p1 < 200 then if wr p2 < wr (h 15 p1) then if (0 : Int) ≤ p1 ∧ p1 < 200 then fX4_child_L34 zF p2 (h 16 p1) 0 h else none else some (-1) else none
set_option maxRecDepth 100000 in
set_option maxHeartbeats 4000000 in
theorem mX4_child {G : ZG} {l0 : Launch} {ad : Nat → Nat} {h0 : HS} {p1 : Int} {p2 : Int} {o : Int} (hr : fX4_child p1 p2 h0 = some o) : ZMi G l0 yX4_child wsX4_child ({ frames := 1, cells := 0, slots := 0, locals := 21 }) [.ref (ad 9), .int (iI p1), .int (iI p2)] sh_3 ad h0 [] o h0 := by
  refine ZMi.of (cc := cX4_child) (maxL := 5) (ret := (some .int)) (own := RX4) (lv0 := [(0, .ref (ad 9)), (1, .int (iI p1)), (2, .int (iI p2))]) (by decide) rfl rfl rfl (Nat.le_of_ble_eq_true rfl) rfl ?_
  intro X hX hQ
  have hf : zfr [] h0 h0 := zfr_rf
  have fl_27 : zFld wsX4_child RX4 27 4 RX4 TX4 9 5 := ⟨by decide +kernel, by decide +kernel, by decide, rfl⟩
  have fl_30 : zFld wsX4_child RX4 30 4 RX4 TX4 9 6 := ⟨by decide +kernel, by decide +kernel, by decide, rfl⟩
  have fl_33 : zFld wsX4_child RX4 33 4 RX4 TX4 9 7 := ⟨by decide +kernel, by decide +kernel, by decide, rfl⟩
  have B34 : ∀ (nf : Nat) (x2 : Int) (x3 : Int) (x4 : Int), fX4_child_L34 nf x2 x3 x4 h0 = some o → ZW G X sh_3 ad h0 0 0 [(0, .ref (ad 9)), (2, .int (iI x2)), (3, .int (iI x3)), (4, .int (iI x4))] 34 [] := by
    intro nf
    induction nf with
    | zero => intro x2 x3 x4 hr; exact z_none hr
    | succ n34 ih34 =>
      intro x2 x3 x4 hr
      unfold fX4_child_L34 at hr
      refine z_iload hX dX4_child_34 3 rfl ?_
      refine z_iload_n hX dX4_child_36 1 rfl ?_
      refine z_icmp_ge (tgt := 61) hX dX4_child_37 (by decide) rfl rfl hr (fun hr => ?_) (fun hr => ?_)
      · refine z_iload_n hX dX4_child_61 2 rfl ?_
        obtain rfl := Option.some.inj hr
        exact hQ _ _ dX4_child_62 hf
      · refine z_aload_n hX dX4_child_40 0 rfl ?_
        refine z_iload_n hX dX4_child_41 2 rfl ?_
        obtain ⟨r1, hc1, hr⟩ := z_bind hr
        refine z_callV_i (As := [.int (iI x3)]) (k1 := 0) (n1 := 0) (nA := 1) hX (mX4_has hc1) dX4_child_42 gX4_child_X4_has rfl ⟨rfl, by decide, by decide, by decide +kernel⟩ ⟨by decide, by decide⟩ ⟨by decide, by decide⟩ 0 rfl rfl rfl rfl (Nat.le_of_ble_eq_true rfl) (by decide +kernel) rfl rfl (fun hg1 => ?_)
        refine z_if_eq (tgt := 61) hX dX4_child_45 (by decide) rfl hr (fun hr => ?_) (fun hr => ?_)
        · refine z_iload_n hX dX4_child_61 2 rfl ?_
          obtain rfl := Option.some.inj hr
          exact hQ _ _ dX4_child_62 hf
        · refine z_aload_n hX dX4_child_48 0 rfl ?_
          refine z_getR (j := 17) hX dX4_child_49 fl_33 0 rfl rfl ?_
          refine z_iload_n hX dX4_child_52 2 rfl ?_
          refine z_iaload (b := 200) hX dX4_child_53 8 rfl (by decide) rfl hr (fun hr => ?_)
          refine z_istore_n (lv1 := [(3, .int (iI (h0 17 x3))), (0, .ref (ad 9)), (2, .int (iI x2)), (4, .int (iI x4))]) hX dX4_child_54 (by decide) rfl ?_
          refine z_iinc (lv1 := [(4, .int (iI (x4 + 1))), (3, .int (iI (h0 17 x3))), (0, .ref (ad 9)), (2, .int (iI x2))]) hX dX4_child_55 3 rfl (by decide) rfl ?_
          refine z_goto (tgt := 34) hX dX4_child_58 (by decide) ?_
          refine z_lv [2, 3, 1, 0] rfl ?_
          exact ih34 x2 (h0 17 x3) (x4 + 1) hr
  unfold fX4_child at hr
  refine z_aload_n hX dX4_child_0 0 rfl ?_
  refine z_iload_n hX dX4_child_1 1 rfl ?_
  obtain ⟨r2, hc2, hr⟩ := z_bind hr
  refine z_callV_i (As := [.int (iI p1)]) (k1 := 0) (n1 := 0) (nA := 1) hX (mX4_has hc2) dX4_child_2 gX4_child_X4_has rfl ⟨rfl, by decide, by decide, by decide +kernel⟩ ⟨by decide, by decide⟩ ⟨by decide, by decide⟩ 0 rfl rfl rfl rfl (Nat.le_of_ble_eq_true rfl) (by decide +kernel) rfl rfl (fun hg2 => ?_)
  refine z_if_eq (tgt := 22) hX dX4_child_5 (by decide) rfl hr (fun hr => ?_) (fun hr => ?_)
  · refine z_iconst hX dX4_child_22 ?_
    obtain rfl := Option.some.inj hr
    exact hQ _ _ dX4_child_23 hf
  · refine z_iload_n hX dX4_child_8 2 rfl ?_
    refine z_if_lt (tgt := 22) hX dX4_child_9 (by decide) rfl hr (fun hr => ?_) (fun hr => ?_)
    · refine z_iconst hX dX4_child_22 ?_
      obtain rfl := Option.some.inj hr
      exact hQ _ _ dX4_child_23 hf
    · refine z_iload_n hX dX4_child_12 2 rfl ?_
      refine z_aload_n hX dX4_child_13 0 rfl ?_
      refine z_getR (j := 15) hX dX4_child_14 fl_27 0 rfl rfl ?_
      refine z_iload_n hX dX4_child_17 1 rfl ?_
      refine z_iaload (b := 200) hX dX4_child_18 6 rfl (by decide) rfl hr (fun hr => ?_)
      refine z_icmp_lt (tgt := 24) hX dX4_child_19 (by decide) rfl rfl hr (fun hr => ?_) (fun hr => ?_)
      · refine z_aload_n hX dX4_child_24 0 rfl ?_
        refine z_getR (j := 16) hX dX4_child_25 fl_30 0 rfl rfl ?_
        refine z_iload_n hX dX4_child_28 1 rfl ?_
        refine z_iaload (b := 200) hX dX4_child_29 7 rfl (by decide) rfl hr (fun hr => ?_)
        refine z_istore_n (lv1 := [(3, .int (iI (h0 16 p1))), (0, .ref (ad 9)), (1, .int (iI p1)), (2, .int (iI p2))]) hX dX4_child_30 (by decide) rfl ?_
        refine z_iconst hX dX4_child_31 ?_
        refine z_istore (lv1 := [(4, .int (iI 0)), (3, .int (iI (h0 16 p1))), (0, .ref (ad 9)), (1, .int (iI p1)), (2, .int (iI p2))]) hX dX4_child_32 (by decide) rfl ?_
        refine z_lv [2, 4, 1, 0] rfl ?_
        exact B34 zF p2 (h0 16 p1) 0 hr
      · refine z_iconst hX dX4_child_22 ?_
        obtain rfl := Option.some.inj hr
        exact hQ _ _ dX4_child_23 hf

def fX4_childOfMove_b55 (k11 : Int → Int → Int → Int → Int → HS → Option (Int)) (x1 : Int) (x2 : Int) (x3 : Int) (x4 : Int) (x5 : Int) (h : HS) : Option (Int) := if (0 : Int) ≤ x4 ∧ x4 < 200 then k11 x1 x2 x3 (h 17 x4) (x5 + 1) h else none
def fX4_childOfMove_L11 : Nat → Int → Int → Int → Int → Int → HS → Option (Int)
  | 0, _, _, _, _, _, _ => none
  | nf + 1, x1, x2, x3, x4, x5, h => (fX4_childCount x1 h).bind fun r1 => if wr r1 ≤ wr x5 then some (-1) else (fX4_has x4 h).bind fun r2 => if wr r2 = 0 then some (-1) else if (0 : Int) ≤ x4 ∧ x4 < 200 then if wr (h 11 x4) = wr x2 then if (0 : Int) ≤ x4 ∧ x4 < 200 then if wr (h 12 x4) = wr x3 then some x4 else fX4_childOfMove_b55 (fun a0 a1 a2 a3 a4 hh => fX4_childOfMove_L11 nf a0 a1 a2 a3 a4 hh) x1 x2 x3 x4 x5 h else none else fX4_childOfMove_b55 (fun a0 a1 a2 a3 a4 hh => fX4_childOfMove_L11 nf a0 a1 a2 a3 a4 hh) x1 x2 x3 x4 x5 h else none
def fX4_childOfMove (p1 : Int) (p2 : Int) (p3 : Int) (h : HS) : Option (Int) := (fX4_child p1 0 h).bind fun r3 => fX4_childOfMove_L11 zF p1 p2 p3 r3 0 h
set_option maxRecDepth 100000 in
set_option maxHeartbeats 4000000 in
theorem mX4_childOfMove {G : ZG} {l0 : Launch} {ad : Nat → Nat} {h0 : HS} {p1 : Int} {p2 : Int} {p3 : Int} {o : Int} (hr : fX4_childOfMove p1 p2 p3 h0 = some o) : ZMi G l0 yX4_childOfMove wsX4_childOfMove ({ frames := 2, cells := 0, slots := 0, locals := 45 }) [.ref (ad 9), .int (iI p1), .int (iI p2), .int (iI p3)] sh_3 ad h0 [] o h0 := by
  refine ZMi.of (cc := cX4_childOfMove) (maxL := 6) (ret := (some .int)) (own := RX4) (lv0 := [(0, .ref (ad 9)), (1, .int (iI p1)), (2, .int (iI p2)), (3, .int (iI p3))]) (by decide) rfl rfl rfl (Nat.le_of_ble_eq_true rfl) rfl ?_
  intro X hX hQ
  have hf : zfr [] h0 h0 := zfr_rf
  have fl_15 : zFld wsX4_childOfMove RX4 15 4 RX4 TX4 9 1 := ⟨by decide +kernel, by decide +kernel, by decide, rfl⟩
  have fl_18 : zFld wsX4_childOfMove RX4 18 4 RX4 TX4 9 2 := ⟨by decide +kernel, by decide +kernel, by decide, rfl⟩
  have fl_33 : zFld wsX4_childOfMove RX4 33 4 RX4 TX4 9 7 := ⟨by decide +kernel, by decide +kernel, by decide, rfl⟩
  have B11 : ∀ (nf : Nat) (x1 : Int) (x2 : Int) (x3 : Int) (x4 : Int) (x5 : Int), fX4_childOfMove_L11 nf x1 x2 x3 x4 x5 h0 = some o → ZW G X sh_3 ad h0 0 0 [(0, .ref (ad 9)), (1, .int (iI x1)), (2, .int (iI x2)), (3, .int (iI x3)), (4, .int (iI x4)), (5, .int (iI x5))] 11 [] := by
    intro nf
    induction nf with
    | zero => intro x1 x2 x3 x4 x5 hr; exact z_none hr
    | succ n11 ih11 =>
      intro x1 x2 x3 x4 x5 hr
      have B55 : ∀ (x1 : Int) (x2 : Int) (x3 : Int) (x4 : Int) (x5 : Int), fX4_childOfMove_b55 (fun a0 a1 a2 a3 a4 hh => fX4_childOfMove_L11 n11 a0 a1 a2 a3 a4 hh) x1 x2 x3 x4 x5 h0 = some o → ZW G X sh_3 ad h0 0 0 [(0, .ref (ad 9)), (1, .int (iI x1)), (2, .int (iI x2)), (3, .int (iI x3)), (4, .int (iI x4)), (5, .int (iI x5))] 55 [] := by
        intro x1 x2 x3 x4 x5 hr
        unfold fX4_childOfMove_b55 at hr
        refine z_aload_n hX dX4_childOfMove_55 0 rfl ?_
        refine z_getR (j := 17) hX dX4_childOfMove_56 fl_33 0 rfl rfl ?_
        refine z_iload hX dX4_childOfMove_59 4 rfl ?_
        refine z_iaload (b := 200) hX dX4_childOfMove_61 8 rfl (by decide) rfl hr (fun hr => ?_)
        refine z_istore (lv1 := [(4, .int (iI (h0 17 x4))), (0, .ref (ad 9)), (1, .int (iI x1)), (2, .int (iI x2)), (3, .int (iI x3)), (5, .int (iI x5))]) hX dX4_childOfMove_62 (by decide) rfl ?_
        refine z_iinc (lv1 := [(5, .int (iI (x5 + 1))), (4, .int (iI (h0 17 x4))), (0, .ref (ad 9)), (1, .int (iI x1)), (2, .int (iI x2)), (3, .int (iI x3))]) hX dX4_childOfMove_64 5 rfl (by decide) rfl ?_
        refine z_goto (tgt := 11) hX dX4_childOfMove_67 (by decide) ?_
        refine z_lv [2, 3, 4, 5, 1, 0] rfl ?_
        exact ih11 x1 x2 x3 (h0 17 x4) (x5 + 1) hr
      unfold fX4_childOfMove_L11 at hr
      refine z_iload hX dX4_childOfMove_11 5 rfl ?_
      refine z_aload_n hX dX4_childOfMove_13 0 rfl ?_
      refine z_iload_n hX dX4_childOfMove_14 1 rfl ?_
      obtain ⟨r1, hc1, hr⟩ := z_bind hr
      refine z_callV_i (As := [.int (iI x1)]) (k1 := 0) (n1 := 0) (nA := 1) hX (mX4_childCount hc1) dX4_childOfMove_15 gX4_childOfMove_X4_childCount rfl ⟨rfl, by decide, by decide, by decide +kernel⟩ ⟨by decide, by decide⟩ ⟨by decide, by decide⟩ 0 rfl rfl rfl rfl (Nat.le_of_ble_eq_true rfl) (by decide +kernel) rfl rfl (fun hg1 => ?_)
      refine z_icmp_ge (tgt := 70) hX dX4_childOfMove_18 (by decide) rfl rfl hr (fun hr => ?_) (fun hr => ?_)
      · refine z_iconst hX dX4_childOfMove_70 ?_
        obtain rfl := Option.some.inj hr
        exact hQ _ _ dX4_childOfMove_71 hf
      · refine z_aload_n hX dX4_childOfMove_21 0 rfl ?_
        refine z_iload hX dX4_childOfMove_22 4 rfl ?_
        obtain ⟨r2, hc2, hr⟩ := z_bind hr
        refine z_callV_i (As := [.int (iI x4)]) (k1 := 0) (n1 := 0) (nA := 1) hX (mX4_has hc2) dX4_childOfMove_24 gX4_childOfMove_X4_has rfl ⟨rfl, by decide, by decide, by decide +kernel⟩ ⟨by decide, by decide⟩ ⟨by decide, by decide⟩ 0 rfl rfl rfl rfl (Nat.le_of_ble_eq_true rfl) (by decide +kernel) rfl rfl (fun hg2 => ?_)
        refine z_if_eq (tgt := 70) hX dX4_childOfMove_27 (by decide) rfl hr (fun hr => ?_) (fun hr => ?_)
        · refine z_iconst hX dX4_childOfMove_70 ?_
          obtain rfl := Option.some.inj hr
          exact hQ _ _ dX4_childOfMove_71 hf
        · refine z_aload_n hX dX4_childOfMove_30 0 rfl ?_
          refine z_getR (j := 11) hX dX4_childOfMove_31 fl_15 0 rfl rfl ?_
          refine z_iload hX dX4_childOfMove_34 4 rfl ?_
          refine z_iaload (b := 200) hX dX4_childOfMove_36 2 rfl (by decide) rfl hr (fun hr => ?_)
          refine z_iload_n hX dX4_childOfMove_37 2 rfl ?_
          refine z_icmp_ne (tgt := 55) hX dX4_childOfMove_38 (by decide) rfl rfl hr (fun hr => ?_) (fun hr => ?_)
          · exact B55 x1 x2 x3 x4 x5 hr
          · refine z_aload_n hX dX4_childOfMove_41 0 rfl ?_
            refine z_getR (j := 12) hX dX4_childOfMove_42 fl_18 0 rfl rfl ?_
            refine z_iload hX dX4_childOfMove_45 4 rfl ?_
            refine z_iaload (b := 200) hX dX4_childOfMove_47 3 rfl (by decide) rfl hr (fun hr => ?_)
            refine z_iload_n hX dX4_childOfMove_48 3 rfl ?_
            refine z_icmp_ne (tgt := 55) hX dX4_childOfMove_49 (by decide) rfl rfl hr (fun hr => ?_) (fun hr => ?_)
            · exact B55 x1 x2 x3 x4 x5 hr
            · refine z_iload hX dX4_childOfMove_52 4 rfl ?_
              obtain rfl := Option.some.inj hr
              exact hQ _ _ dX4_childOfMove_54 hf
  unfold fX4_childOfMove at hr
  refine z_aload_n hX dX4_childOfMove_0 0 rfl ?_
  refine z_iload_n hX dX4_childOfMove_1 1 rfl ?_
  refine z_iconst hX dX4_childOfMove_2 ?_
  obtain ⟨r3, hc3, hr⟩ := z_bind hr
  refine z_callV_i (As := [.int (iI p1), .int (iI 0)]) (k1 := 0) (n1 := 0) (nA := 2) hX (mX4_child hc3) dX4_childOfMove_3 gX4_childOfMove_X4_child rfl ⟨rfl, by decide, by decide, by decide +kernel⟩ ⟨by decide, by decide⟩ ⟨by decide, by decide⟩ 0 rfl rfl rfl rfl (Nat.le_of_ble_eq_true rfl) (by decide +kernel) rfl rfl (fun hg3 => ?_)
  refine z_istore (lv1 := [(4, .int (iI r3)), (0, .ref (ad 9)), (1, .int (iI p1)), (2, .int (iI p2)), (3, .int (iI p3))]) hX dX4_childOfMove_6 (by decide) rfl ?_
  refine z_iconst hX dX4_childOfMove_8 ?_
  refine z_istore (lv1 := [(5, .int (iI 0)), (4, .int (iI r3)), (0, .ref (ad 9)), (1, .int (iI p1)), (2, .int (iI p2)), (3, .int (iI p3))]) hX dX4_childOfMove_9 (by decide) rfl ?_
  refine z_lv [2, 3, 4, 5, 1, 0] rfl ?_
  exact B11 zF p1 p2 p3 r3 0 hr

def fX4_grow_b80 (x1 : Int) (x5 : Int) (h : HS) : Option (Int × HS) := if (0 : Int) ≤ x1 ∧ x1 < 200 then if (0 : Int) ≤ x1 ∧ x1 < 200 then some (x5, (hs h 15 x1 ((h 15 x1) + 1))) else none else none
def fX4_grow_b41 (x1 : Int) (x4 : Int) (s0 : Int) (h : HS) : Option (Int × HS) := if wr s0 = ((-1) : Int) then some ((-1), h) else (fX4_has x4 h).bind fun r1 => if wr r1 = 0 then if (0 : Int) ≤ x1 ∧ x1 < 200 then fX4_grow_b80 x1 s0 (hs h 16 x1 s0) else none else if (0 : Int) ≤ x4 ∧ x4 < 200 then fX4_grow_b80 x1 s0 (hs h 17 x4 s0) else none
def fX4_grow (p1 : Int) (p2 : Int) (p3 : Int) (h : HS) : Option (Int × HS) := (fX4_childCount p1 h).bind fun r2 => (fX4_child p1 (r2 - 1) h).bind fun r3 => (fX4_has p1 h).bind fun r4 => if wr r4 = 0 then fX4_grow_b41 p1 r3 (-1) h else if (0 : Int) ≤ p1 ∧ p1 < 200 then (fX4_occupy p1 p2 p3 ((h 14 p1) + 1) h).bind fun r5 => fX4_grow_b41 p1 r3 r5.1 r5.2 else none
set_option maxRecDepth 100000 in
set_option maxHeartbeats 4000000 in
theorem mX4_grow {G : ZG} {l0 : Launch} {ad : Nat → Nat} {h0 : HS} {p1 : Int} {p2 : Int} {p3 : Int} {o : Int × HS} (hr : fX4_grow p1 p2 p3 h0 = some o) : ZMi G l0 yX4_grow wsX4_grow ({ frames := 2, cells := 0, slots := 0, locals := 45 }) [.ref (ad 9), .int (iI p1), .int (iI p2), .int (iI p3)] sh_3 ad h0 [9, 10, 11, 12, 13, 14, 15, 16, 17] o.1 o.2 := by
  refine ZMi.of (cc := cX4_grow) (maxL := 6) (ret := (some .int)) (own := RX4) (lv0 := [(0, .ref (ad 9)), (1, .int (iI p1)), (2, .int (iI p2)), (3, .int (iI p3))]) (by decide) rfl rfl rfl (Nat.le_of_ble_eq_true rfl) rfl ?_
  intro X hX hQ
  have hf : zfr [9, 10, 11, 12, 13, 14, 15, 16, 17] h0 h0 := zfr_rf
  have fl_24 : zFld wsX4_grow RX4 24 4 RX4 TX4 9 4 := ⟨by decide +kernel, by decide +kernel, by decide, rfl⟩
  have fl_27 : zFld wsX4_grow RX4 27 4 RX4 TX4 9 5 := ⟨by decide +kernel, by decide +kernel, by decide, rfl⟩
  have fl_30 : zFld wsX4_grow RX4 30 4 RX4 TX4 9 6 := ⟨by decide +kernel, by decide +kernel, by decide, rfl⟩
  have fl_33 : zFld wsX4_grow RX4 33 4 RX4 TX4 9 7 := ⟨by decide +kernel, by decide +kernel, by decide, rfl⟩
  have B80 : ∀ (x1 : Int) (x5 : Int) (h : HS), zfr [9, 10, 11, 12, 13, 14, 15, 16, 17] h0 h → fX4_grow_b80 x1 x5 h = some o → ZW G X sh_3 ad h 0 0 [(0, .ref (ad 9)), (1, .int (iI x1)), (5, .int (iI x5))] 80 [] := by
    intro x1 x5 h hf hr
    unfold fX4_grow_b80 at hr
    refine z_aload_n hX dX4_grow_80 0 rfl ?_
    refine z_getR (j := 15) hX dX4_grow_81 fl_27 0 rfl rfl ?_
    refine z_iload_n hX dX4_grow_84 1 rfl ?_
    refine z_dup2 hX dX4_grow_85 rfl rfl ?_
    refine z_iaload (b := 200) hX dX4_grow_86 6 rfl (by decide) rfl hr (fun hr => ?_)
    refine z_iconst hX dX4_grow_87 ?_
    refine z_iadd hX dX4_grow_88 ?_
    refine z_iastore (b := 200) hX dX4_grow_89 6 rfl (by decide) rfl hr (fun hr => ?_)
    have hf : zfr [9, 10, 11, 12, 13, 14, 15, 16, 17] h0 (hs h 15 x1 ((h 15 x1) + 1)) := zfr_hs hf (by decide)
    refine z_iload hX dX4_grow_90 2 rfl ?_
    obtain rfl := Option.some.inj hr
    exact hQ _ _ dX4_grow_92 hf
  have B41 : ∀ (x1 : Int) (x4 : Int) (s0 : Int) (h : HS), zfr [9, 10, 11, 12, 13, 14, 15, 16, 17] h0 h → fX4_grow_b41 x1 x4 s0 h = some o → ZW G X sh_3 ad h 0 0 [(0, .ref (ad 9)), (1, .int (iI x1)), (4, .int (iI x4))] 41 [.int (iI s0)] := by
    intro x1 x4 s0 h hf hr
    unfold fX4_grow_b41 at hr
    refine z_istore (lv1 := [(5, .int (iI s0)), (0, .ref (ad 9)), (1, .int (iI x1)), (4, .int (iI x4))]) hX dX4_grow_41 (by decide) rfl ?_
    refine z_iload hX dX4_grow_43 0 rfl ?_
    refine z_iconst hX dX4_grow_45 ?_
    refine z_icmp_ne (tgt := 51) hX dX4_grow_46 (by decide) rfl (wr_of (by decide) (by decide)) hr (fun hr => ?_) (fun hr => ?_)
    · refine z_aload_n hX dX4_grow_51 1 rfl ?_
      refine z_iload hX dX4_grow_52 3 rfl ?_
      obtain ⟨r1, hc1, hr⟩ := z_bind hr
      refine z_callV_i (As := [.int (iI x4)]) (k1 := 0) (n1 := 0) (nA := 1) hX (mX4_has hc1) dX4_grow_54 gX4_grow_X4_has rfl ⟨rfl, by decide, by decide, by decide +kernel⟩ ⟨by decide, by decide⟩ ⟨by decide, by decide⟩ 0 rfl rfl rfl rfl (Nat.le_of_ble_eq_true rfl) (by decide +kernel) rfl rfl (fun hg1 => ?_)
      refine z_if_eq (tgt := 72) hX dX4_grow_57 (by decide) rfl hr (fun hr => ?_) (fun hr => ?_)
      · refine z_aload_n hX dX4_grow_72 1 rfl ?_
        refine z_getR (j := 16) hX dX4_grow_73 fl_30 0 rfl rfl ?_
        refine z_iload_n hX dX4_grow_76 2 rfl ?_
        refine z_iload hX dX4_grow_77 0 rfl ?_
        refine z_iastore (b := 200) hX dX4_grow_79 7 rfl (by decide) rfl hr (fun hr => ?_)
        have hf : zfr [9, 10, 11, 12, 13, 14, 15, 16, 17] h0 (hs h 16 x1 s0) := zfr_hs hf (by decide)
        refine z_lv [1, 2, 0] rfl ?_
        exact B80 x1 s0 (hs h 16 x1 s0) hf hr
      · refine z_aload_n hX dX4_grow_60 1 rfl ?_
        refine z_getR (j := 17) hX dX4_grow_61 fl_33 0 rfl rfl ?_
        refine z_iload hX dX4_grow_64 3 rfl ?_
        refine z_iload hX dX4_grow_66 0 rfl ?_
        refine z_iastore (b := 200) hX dX4_grow_68 8 rfl (by decide) rfl hr (fun hr => ?_)
        have hf : zfr [9, 10, 11, 12, 13, 14, 15, 16, 17] h0 (hs h 17 x4 s0) := zfr_hs hf (by decide)
        refine z_goto (tgt := 80) hX dX4_grow_69 (by decide) ?_
        refine z_lv [1, 2, 0] rfl ?_
        exact B80 x1 s0 (hs h 17 x4 s0) hf hr
    · refine z_iconst hX dX4_grow_49 ?_
      obtain rfl := Option.some.inj hr
      exact hQ _ _ dX4_grow_50 hf
  unfold fX4_grow at hr
  refine z_aload_n hX dX4_grow_0 0 rfl ?_
  refine z_iload_n hX dX4_grow_1 1 rfl ?_
  refine z_aload_n hX dX4_grow_2 0 rfl ?_
  refine z_iload_n hX dX4_grow_3 1 rfl ?_
  obtain ⟨r2, hc2, hr⟩ := z_bind hr
  refine z_callV_i (As := [.int (iI p1)]) (k1 := 0) (n1 := 0) (nA := 1) hX (mX4_childCount hc2) dX4_grow_4 gX4_grow_X4_childCount rfl ⟨rfl, by decide, by decide, by decide +kernel⟩ ⟨by decide, by decide⟩ ⟨by decide, by decide⟩ 0 rfl rfl rfl rfl (Nat.le_of_ble_eq_true rfl) (by decide +kernel) rfl rfl (fun hg2 => ?_)
  refine z_iconst hX dX4_grow_7 ?_
  refine z_isub hX dX4_grow_8 ?_
  obtain ⟨r3, hc3, hr⟩ := z_bind hr
  refine z_callV_i (As := [.int (iI p1), .int (iI (r2 - 1))]) (k1 := 0) (n1 := 0) (nA := 2) hX (mX4_child hc3) dX4_grow_9 gX4_grow_X4_child rfl ⟨rfl, by decide, by decide, by decide +kernel⟩ ⟨by decide, by decide⟩ ⟨by decide, by decide⟩ 0 rfl rfl rfl rfl (Nat.le_of_ble_eq_true rfl) (by decide +kernel) rfl rfl (fun hg3 => ?_)
  refine z_istore (lv1 := [(4, .int (iI r3)), (0, .ref (ad 9)), (1, .int (iI p1)), (2, .int (iI p2)), (3, .int (iI p3))]) hX dX4_grow_12 (by decide) rfl ?_
  refine z_aload_n hX dX4_grow_14 1 rfl ?_
  refine z_iload_n hX dX4_grow_15 2 rfl ?_
  obtain ⟨r4, hc4, hr⟩ := z_bind hr
  refine z_callV_i (As := [.int (iI p1)]) (k1 := 0) (n1 := 0) (nA := 1) hX (mX4_has hc4) dX4_grow_16 gX4_grow_X4_has rfl ⟨rfl, by decide, by decide, by decide +kernel⟩ ⟨by decide, by decide⟩ ⟨by decide, by decide⟩ 0 rfl rfl rfl rfl (Nat.le_of_ble_eq_true rfl) (by decide +kernel) rfl rfl (fun hg4 => ?_)
  refine z_if_eq (tgt := 40) hX dX4_grow_19 (by decide) rfl hr (fun hr => ?_) (fun hr => ?_)
  · refine z_iconst hX dX4_grow_40 ?_
    refine z_lv [1, 2, 0] rfl ?_
    exact B41 p1 r3 (-1) h0 hf hr
  · refine z_aload_n hX dX4_grow_22 1 rfl ?_
    refine z_iload_n hX dX4_grow_23 2 rfl ?_
    refine z_iload_n hX dX4_grow_24 3 rfl ?_
    refine z_iload_n hX dX4_grow_25 4 rfl ?_
    refine z_aload_n hX dX4_grow_26 1 rfl ?_
    refine z_getR (j := 14) hX dX4_grow_27 fl_24 0 rfl rfl ?_
    refine z_iload_n hX dX4_grow_30 2 rfl ?_
    refine z_iaload (b := 200) hX dX4_grow_31 5 rfl (by decide) rfl hr (fun hr => ?_)
    refine z_iconst hX dX4_grow_32 ?_
    refine z_iadd hX dX4_grow_33 ?_
    obtain ⟨r5, hc5, hr⟩ := z_bind hr
    refine z_callV_i (As := [.int (iI p1), .int (iI p2), .int (iI p3), .int (iI ((h0 14 p1) + 1))]) (k1 := 0) (n1 := 0) (nA := 4) hX (mX4_occupy hc5) dX4_grow_34 gX4_grow_X4_occupy rfl ⟨rfl, by decide, by decide, by decide +kernel⟩ ⟨by decide, by decide⟩ ⟨by decide, by decide⟩ 0 rfl rfl rfl rfl (Nat.le_of_ble_eq_true rfl) (by decide +kernel) rfl rfl (fun hg5 => ?_)
    have hf : zfr [9, 10, 11, 12, 13, 14, 15, 16, 17] h0 r5.2 := zfr_tr hf (by decide) hg5
    refine z_goto (tgt := 41) hX dX4_grow_37 (by decide) ?_
    refine z_lv [1, 2, 0] rfl ?_
    exact B41 p1 r3 r5.1 r5.2 hf hr

def fX4_placeOf_L13 : Nat → Int → Int → Int → HS → Option (Int)
  | 0, _, _, _, _ => none
  | nf + 1, x1, x2, x3, h => (fX4_above x1 h).bind fun r1 => (fX4_childCount r1 h).bind fun r2 => if wr r2 ≤ wr x3 then some (-1) else (fX4_has x2 h).bind fun r3 => if wr r3 = 0 then some (-1) else if wr x2 = wr x1 then some x3 else if (0 : Int) ≤ x2 ∧ x2 < 200 then fX4_placeOf_L13 nf x1 (h 17 x2) (x3 + 1) h else none
def fX4_placeOf (p1 : Int) (h : HS) : Option (Int) := (fX4_above p1 h).bind fun r4 => (fX4_child r4 0 h).bind fun r5 => fX4_placeOf_L13 zF p1 r5 0 h
set_option maxRecDepth 100000 in
set_option maxHeartbeats 4000000 in
theorem mX4_placeOf {G : ZG} {l0 : Launch} {ad : Nat → Nat} {h0 : HS} {p1 : Int} {o : Int} (hr : fX4_placeOf p1 h0 = some o) : ZMi G l0 yX4_placeOf wsX4_placeOf ({ frames := 2, cells := 0, slots := 0, locals := 45 }) [.ref (ad 9), .int (iI p1)] sh_3 ad h0 [] o h0 := by
  refine ZMi.of (cc := cX4_placeOf) (maxL := 4) (ret := (some .int)) (own := RX4) (lv0 := [(0, .ref (ad 9)), (1, .int (iI p1))]) (by decide) rfl rfl rfl (Nat.le_of_ble_eq_true rfl) rfl ?_
  intro X hX hQ
  have hf : zfr [] h0 h0 := zfr_rf
  have fl_33 : zFld wsX4_placeOf RX4 33 4 RX4 TX4 9 7 := ⟨by decide +kernel, by decide +kernel, by decide, rfl⟩
  have B13 : ∀ (nf : Nat) (x1 : Int) (x2 : Int) (x3 : Int), fX4_placeOf_L13 nf x1 x2 x3 h0 = some o → ZW G X sh_3 ad h0 0 0 [(0, .ref (ad 9)), (1, .int (iI x1)), (2, .int (iI x2)), (3, .int (iI x3))] 13 [] := by
    intro nf
    induction nf with
    | zero => intro x1 x2 x3 hr; exact z_none hr
    | succ n13 ih13 =>
      intro x1 x2 x3 hr
      unfold fX4_placeOf_L13 at hr
      refine z_iload_n hX dX4_placeOf_13 3 rfl ?_
      refine z_aload_n hX dX4_placeOf_14 0 rfl ?_
      refine z_aload_n hX dX4_placeOf_15 0 rfl ?_
      refine z_iload_n hX dX4_placeOf_16 1 rfl ?_
      obtain ⟨r1, hc1, hr⟩ := z_bind hr
      refine z_callV_i (As := [.int (iI x1)]) (k1 := 0) (n1 := 0) (nA := 1) hX (mX4_above hc1) dX4_placeOf_17 gX4_placeOf_X4_above rfl ⟨rfl, by decide, by decide, by decide +kernel⟩ ⟨by decide, by decide⟩ ⟨by decide, by decide⟩ 0 rfl rfl rfl rfl (Nat.le_of_ble_eq_true rfl) (by decide +kernel) rfl rfl (fun hg1 => ?_)
      obtain ⟨r2, hc2, hr⟩ := z_bind hr
      refine z_callV_i (As := [.int (iI r1)]) (k1 := 0) (n1 := 0) (nA := 1) hX (mX4_childCount hc2) dX4_placeOf_20 gX4_placeOf_X4_childCount rfl ⟨rfl, by decide, by decide, by decide +kernel⟩ ⟨by decide, by decide⟩ ⟨by decide, by decide⟩ 0 rfl rfl rfl rfl (Nat.le_of_ble_eq_true rfl) (by decide +kernel) rfl rfl (fun hg2 => ?_)
      refine z_icmp_ge (tgt := 54) hX dX4_placeOf_23 (by decide) rfl rfl hr (fun hr => ?_) (fun hr => ?_)
      · refine z_iconst hX dX4_placeOf_54 ?_
        obtain rfl := Option.some.inj hr
        exact hQ _ _ dX4_placeOf_55 hf
      · refine z_aload_n hX dX4_placeOf_26 0 rfl ?_
        refine z_iload_n hX dX4_placeOf_27 2 rfl ?_
        obtain ⟨r3, hc3, hr⟩ := z_bind hr
        refine z_callV_i (As := [.int (iI x2)]) (k1 := 0) (n1 := 0) (nA := 1) hX (mX4_has hc3) dX4_placeOf_28 gX4_placeOf_X4_has rfl ⟨rfl, by decide, by decide, by decide +kernel⟩ ⟨by decide, by decide⟩ ⟨by decide, by decide⟩ 0 rfl rfl rfl rfl (Nat.le_of_ble_eq_true rfl) (by decide +kernel) rfl rfl (fun hg3 => ?_)
        refine z_if_eq (tgt := 54) hX dX4_placeOf_31 (by decide) rfl hr (fun hr => ?_) (fun hr => ?_)
        · refine z_iconst hX dX4_placeOf_54 ?_
          obtain rfl := Option.some.inj hr
          exact hQ _ _ dX4_placeOf_55 hf
        · refine z_iload_n hX dX4_placeOf_34 2 rfl ?_
          refine z_iload_n hX dX4_placeOf_35 1 rfl ?_
          refine z_icmp_ne (tgt := 41) hX dX4_placeOf_36 (by decide) rfl rfl hr (fun hr => ?_) (fun hr => ?_)
          · refine z_aload_n hX dX4_placeOf_41 0 rfl ?_
            refine z_getR (j := 17) hX dX4_placeOf_42 fl_33 0 rfl rfl ?_
            refine z_iload_n hX dX4_placeOf_45 2 rfl ?_
            refine z_iaload (b := 200) hX dX4_placeOf_46 8 rfl (by decide) rfl hr (fun hr => ?_)
            refine z_istore_n (lv1 := [(2, .int (iI (h0 17 x2))), (0, .ref (ad 9)), (1, .int (iI x1)), (3, .int (iI x3))]) hX dX4_placeOf_47 (by decide) rfl ?_
            refine z_iinc (lv1 := [(3, .int (iI (x3 + 1))), (2, .int (iI (h0 17 x2))), (0, .ref (ad 9)), (1, .int (iI x1))]) hX dX4_placeOf_48 3 rfl (by decide) rfl ?_
            refine z_goto (tgt := 13) hX dX4_placeOf_51 (by decide) ?_
            refine z_lv [2, 3, 1, 0] rfl ?_
            exact ih13 x1 (h0 17 x2) (x3 + 1) hr
          · refine z_iload_n hX dX4_placeOf_39 3 rfl ?_
            obtain rfl := Option.some.inj hr
            exact hQ _ _ dX4_placeOf_40 hf
  unfold fX4_placeOf at hr
  refine z_aload_n hX dX4_placeOf_0 0 rfl ?_
  refine z_aload_n hX dX4_placeOf_1 0 rfl ?_
  refine z_iload_n hX dX4_placeOf_2 1 rfl ?_
  obtain ⟨r4, hc4, hr⟩ := z_bind hr
  refine z_callV_i (As := [.int (iI p1)]) (k1 := 0) (n1 := 0) (nA := 1) hX (mX4_above hc4) dX4_placeOf_3 gX4_placeOf_X4_above rfl ⟨rfl, by decide, by decide, by decide +kernel⟩ ⟨by decide, by decide⟩ ⟨by decide, by decide⟩ 0 rfl rfl rfl rfl (Nat.le_of_ble_eq_true rfl) (by decide +kernel) rfl rfl (fun hg4 => ?_)
  refine z_iconst hX dX4_placeOf_6 ?_
  obtain ⟨r5, hc5, hr⟩ := z_bind hr
  refine z_callV_i (As := [.int (iI r4), .int (iI 0)]) (k1 := 0) (n1 := 0) (nA := 2) hX (mX4_child hc5) dX4_placeOf_7 gX4_placeOf_X4_child rfl ⟨rfl, by decide, by decide, by decide +kernel⟩ ⟨by decide, by decide⟩ ⟨by decide, by decide⟩ 0 rfl rfl rfl rfl (Nat.le_of_ble_eq_true rfl) (by decide +kernel) rfl rfl (fun hg5 => ?_)
  refine z_istore_n (lv1 := [(2, .int (iI r5)), (0, .ref (ad 9)), (1, .int (iI p1))]) hX dX4_placeOf_10 (by decide) rfl ?_
  refine z_iconst hX dX4_placeOf_11 ?_
  refine z_istore_n (lv1 := [(3, .int (iI 0)), (2, .int (iI r5)), (0, .ref (ad 9)), (1, .int (iI p1))]) hX dX4_placeOf_12 (by decide) rfl ?_
  refine z_lv [2, 3, 1, 0] rfl ?_
  exact B13 zF p1 r5 0 hr

def fX4_makeMain (p1 : Int) (h : HS) : Option (Int × HS) := (fX4_placeOf p1 h).bind fun r1 => (fX4_above p1 h).bind fun r2 => (fX4_child r2 (r1 - 1) h).bind fun r3 => (fX4_has p1 h).bind fun r4 => if wr r4 = 0 then some (r1, h) else (fX4_has r2 h).bind fun r5 => if wr r5 = 0 then some (r1, h) else (fX4_has r3 h).bind fun r6 => if wr r6 = 0 then some (r1, h) else if (0 : Int) ≤ p1 ∧ p1 < 200 then if (0 : Int) ≤ r3 ∧ r3 < 200 then if (0 : Int) ≤ r2 ∧ r2 < 200 then if (0 : Int) ≤ p1 ∧ p1 < 200 then if (0 : Int) ≤ r2 ∧ r2 < 200 then some (r1, (hs (hs (hs h 17 r3 (h 17 p1)) 17 p1 (((hs h 17 r3 (h 17 p1))) 16 r2)) 16 r2 p1)) else none else none else none else none else none
set_option maxRecDepth 100000 in
set_option maxHeartbeats 4000000 in
theorem mX4_makeMain {G : ZG} {l0 : Launch} {ad : Nat → Nat} {h0 : HS} {p1 : Int} {o : Int × HS} (hr : fX4_makeMain p1 h0 = some o) : ZMi G l0 yX4_makeMain wsX4_makeMain ({ frames := 3, cells := 0, slots := 0, locals := 68 }) [.ref (ad 9), .int (iI p1)] sh_3 ad h0 [16, 17] o.1 o.2 := by
  refine ZMi.of (cc := cX4_makeMain) (maxL := 5) (ret := (some .int)) (own := RX4) (lv0 := [(0, .ref (ad 9)), (1, .int (iI p1))]) (by decide) rfl rfl rfl (Nat.le_of_ble_eq_true rfl) rfl ?_
  intro X hX hQ
  have hf : zfr [16, 17] h0 h0 := zfr_rf
  have fl_30 : zFld wsX4_makeMain RX4 30 4 RX4 TX4 9 6 := ⟨by decide +kernel, by decide +kernel, by decide, rfl⟩
  have fl_33 : zFld wsX4_makeMain RX4 33 4 RX4 TX4 9 7 := ⟨by decide +kernel, by decide +kernel, by decide, rfl⟩
  unfold fX4_makeMain at hr
  refine z_aload_n hX dX4_makeMain_0 0 rfl ?_
  refine z_iload_n hX dX4_makeMain_1 1 rfl ?_
  obtain ⟨r1, hc1, hr⟩ := z_bind hr
  refine z_callV_i (As := [.int (iI p1)]) (k1 := 0) (n1 := 0) (nA := 1) hX (mX4_placeOf hc1) dX4_makeMain_2 gX4_makeMain_X4_placeOf rfl ⟨rfl, by decide, by decide, by decide +kernel⟩ ⟨by decide, by decide⟩ ⟨by decide, by decide⟩ 0 rfl rfl rfl rfl (Nat.le_of_ble_eq_true rfl) (by decide +kernel) rfl rfl (fun hg1 => ?_)
  refine z_istore_n (lv1 := [(2, .int (iI r1)), (0, .ref (ad 9)), (1, .int (iI p1))]) hX dX4_makeMain_5 (by decide) rfl ?_
  refine z_aload_n hX dX4_makeMain_6 1 rfl ?_
  refine z_iload_n hX dX4_makeMain_7 2 rfl ?_
  obtain ⟨r2, hc2, hr⟩ := z_bind hr
  refine z_callV_i (As := [.int (iI p1)]) (k1 := 0) (n1 := 0) (nA := 1) hX (mX4_above hc2) dX4_makeMain_8 gX4_makeMain_X4_above rfl ⟨rfl, by decide, by decide, by decide +kernel⟩ ⟨by decide, by decide⟩ ⟨by decide, by decide⟩ 0 rfl rfl rfl rfl (Nat.le_of_ble_eq_true rfl) (by decide +kernel) rfl rfl (fun hg2 => ?_)
  refine z_istore_n (lv1 := [(3, .int (iI r2)), (2, .int (iI r1)), (0, .ref (ad 9)), (1, .int (iI p1))]) hX dX4_makeMain_11 (by decide) rfl ?_
  refine z_aload_n hX dX4_makeMain_12 2 rfl ?_
  refine z_iload_n hX dX4_makeMain_13 0 rfl ?_
  refine z_iload_n hX dX4_makeMain_14 1 rfl ?_
  refine z_iconst hX dX4_makeMain_15 ?_
  refine z_isub hX dX4_makeMain_16 ?_
  obtain ⟨r3, hc3, hr⟩ := z_bind hr
  refine z_callV_i (As := [.int (iI r2), .int (iI (r1 - 1))]) (k1 := 0) (n1 := 0) (nA := 2) hX (mX4_child hc3) dX4_makeMain_17 gX4_makeMain_X4_child rfl ⟨rfl, by decide, by decide, by decide +kernel⟩ ⟨by decide, by decide⟩ ⟨by decide, by decide⟩ 0 rfl rfl rfl rfl (Nat.le_of_ble_eq_true rfl) (by decide +kernel) rfl rfl (fun hg3 => ?_)
  refine z_istore (lv1 := [(4, .int (iI r3)), (3, .int (iI r2)), (2, .int (iI r1)), (0, .ref (ad 9)), (1, .int (iI p1))]) hX dX4_makeMain_20 (by decide) rfl ?_
  refine z_aload_n hX dX4_makeMain_22 3 rfl ?_
  refine z_iload_n hX dX4_makeMain_23 4 rfl ?_
  obtain ⟨r4, hc4, hr⟩ := z_bind hr
  refine z_callV_i (As := [.int (iI p1)]) (k1 := 0) (n1 := 0) (nA := 1) hX (mX4_has hc4) dX4_makeMain_24 gX4_makeMain_X4_has rfl ⟨rfl, by decide, by decide, by decide +kernel⟩ ⟨by decide, by decide⟩ ⟨by decide, by decide⟩ 0 rfl rfl rfl rfl (Nat.le_of_ble_eq_true rfl) (by decide +kernel) rfl rfl (fun hg4 => ?_)
  refine z_if_eq (tgt := 79) hX dX4_makeMain_27 (by decide) rfl hr (fun hr => ?_) (fun hr => ?_)
  · refine z_iload_n hX dX4_makeMain_79 2 rfl ?_
    obtain rfl := Option.some.inj hr
    exact hQ _ _ dX4_makeMain_80 hf
  · refine z_aload_n hX dX4_makeMain_30 3 rfl ?_
    refine z_iload_n hX dX4_makeMain_31 1 rfl ?_
    obtain ⟨r5, hc5, hr⟩ := z_bind hr
    refine z_callV_i (As := [.int (iI r2)]) (k1 := 0) (n1 := 0) (nA := 1) hX (mX4_has hc5) dX4_makeMain_32 gX4_makeMain_X4_has rfl ⟨rfl, by decide, by decide, by decide +kernel⟩ ⟨by decide, by decide⟩ ⟨by decide, by decide⟩ 0 rfl rfl rfl rfl (Nat.le_of_ble_eq_true rfl) (by decide +kernel) rfl rfl (fun hg5 => ?_)
    refine z_if_eq (tgt := 79) hX dX4_makeMain_35 (by decide) rfl hr (fun hr => ?_) (fun hr => ?_)
    · refine z_iload_n hX dX4_makeMain_79 2 rfl ?_
      obtain rfl := Option.some.inj hr
      exact hQ _ _ dX4_makeMain_80 hf
    · refine z_aload_n hX dX4_makeMain_38 3 rfl ?_
      refine z_iload hX dX4_makeMain_39 0 rfl ?_
      obtain ⟨r6, hc6, hr⟩ := z_bind hr
      refine z_callV_i (As := [.int (iI r3)]) (k1 := 0) (n1 := 0) (nA := 1) hX (mX4_has hc6) dX4_makeMain_41 gX4_makeMain_X4_has rfl ⟨rfl, by decide, by decide, by decide +kernel⟩ ⟨by decide, by decide⟩ ⟨by decide, by decide⟩ 0 rfl rfl rfl rfl (Nat.le_of_ble_eq_true rfl) (by decide +kernel) rfl rfl (fun hg6 => ?_)
      refine z_if_eq (tgt := 79) hX dX4_makeMain_44 (by decide) rfl hr (fun hr => ?_) (fun hr => ?_)
      · refine z_iload_n hX dX4_makeMain_79 2 rfl ?_
        obtain rfl := Option.some.inj hr
        exact hQ _ _ dX4_makeMain_80 hf
      · refine z_aload_n hX dX4_makeMain_47 3 rfl ?_
        refine z_getR (j := 17) hX dX4_makeMain_48 fl_33 0 rfl rfl ?_
        refine z_iload hX dX4_makeMain_51 0 rfl ?_
        refine z_aload_n hX dX4_makeMain_53 3 rfl ?_
        refine z_getR (j := 17) hX dX4_makeMain_54 fl_33 0 rfl rfl ?_
        refine z_iload_n hX dX4_makeMain_57 4 rfl ?_
        refine z_iaload (b := 200) hX dX4_makeMain_58 8 rfl (by decide) rfl hr (fun hr => ?_)
        refine z_iastore (b := 200) hX dX4_makeMain_59 8 rfl (by decide) rfl hr (fun hr => ?_)
        have hf : zfr [16, 17] h0 (hs h0 17 r3 (h0 17 p1)) := zfr_hs hf (by decide)
        refine z_aload_n hX dX4_makeMain_60 3 rfl ?_
        refine z_getR (j := 17) hX dX4_makeMain_61 fl_33 0 rfl rfl ?_
        refine z_iload_n hX dX4_makeMain_64 4 rfl ?_
        refine z_aload_n hX dX4_makeMain_65 3 rfl ?_
        refine z_getR (j := 16) hX dX4_makeMain_66 fl_30 0 rfl rfl ?_
        refine z_iload_n hX dX4_makeMain_69 1 rfl ?_
        refine z_iaload (b := 200) hX dX4_makeMain_70 7 rfl (by decide) rfl hr (fun hr => ?_)
        refine z_iastore (b := 200) hX dX4_makeMain_71 8 rfl (by decide) rfl hr (fun hr => ?_)
        have hf : zfr [16, 17] h0 (hs (hs h0 17 r3 (h0 17 p1)) 17 p1 (((hs h0 17 r3 (h0 17 p1))) 16 r2)) := zfr_hs hf (by decide)
        refine z_aload_n hX dX4_makeMain_72 3 rfl ?_
        refine z_getR (j := 16) hX dX4_makeMain_73 fl_30 0 rfl rfl ?_
        refine z_iload_n hX dX4_makeMain_76 1 rfl ?_
        refine z_iload_n hX dX4_makeMain_77 4 rfl ?_
        refine z_iastore (b := 200) hX dX4_makeMain_78 7 rfl (by decide) rfl hr (fun hr => ?_)
        have hf : zfr [16, 17] h0 (hs (hs (hs h0 17 r3 (h0 17 p1)) 17 p1 (((hs h0 17 r3 (h0 17 p1))) 16 r2)) 16 r2 p1) := zfr_hs hf (by decide)
        refine z_iload_n hX dX4_makeMain_79 2 rfl ?_
        obtain rfl := Option.some.inj hr
        exact hQ _ _ dX4_makeMain_80 hf

def fX4_cutToRoot (h : HS) : Option (HS) := (fX4_occupy (-1) (-1) (-1) 0 (hs h 9 8 0)).bind fun r1 => some r1.2
set_option maxRecDepth 100000 in
set_option maxHeartbeats 4000000 in
theorem mX4_cutToRoot {G : ZG} {l0 : Launch} {ad : Nat → Nat} {h0 : HS} {o : HS} (hr : fX4_cutToRoot h0 = some o) : ZMv G l0 yX4_cutToRoot wsX4_cutToRoot ({ frames := 1, cells := 0, slots := 0, locals := 24 }) [.ref (ad 9)] sh_3 ad h0 [9, 10, 11, 12, 13, 14, 15, 16, 17] o := by
  refine ZMv.of (cc := cX4_cutToRoot) (maxL := 1) (ret := none) (own := RX4) (lv0 := [(0, .ref (ad 9))]) (by decide) rfl rfl rfl (Nat.le_of_ble_eq_true rfl) rfl ?_
  intro X hX hQ
  have hf : zfr [9, 10, 11, 12, 13, 14, 15, 16, 17] h0 h0 := zfr_rf
  have fl_36 : zFld wsX4_cutToRoot RX4 36 4 RX4 TX4 9 8 := ⟨by decide +kernel, by decide +kernel, by decide, rfl⟩
  have pu_X4_8 : zPut TX4 9 8 tyX4 .int := ⟨tyX4_ok, nmX4, rfl, by decide +kernel⟩
  unfold fX4_cutToRoot at hr
  refine z_aload_n hX dX4_cutToRoot_0 0 rfl ?_
  refine z_iconst hX dX4_cutToRoot_1 ?_
  refine z_putI hX dX4_cutToRoot_2 fl_36 pu_X4_8 0 rfl rfl ?_
  have hf : zfr [9, 10, 11, 12, 13, 14, 15, 16, 17] h0 (hs h0 9 8 0) := zfr_hs hf (by decide)
  refine z_aload_n hX dX4_cutToRoot_5 0 rfl ?_
  refine z_iconst hX dX4_cutToRoot_6 ?_
  refine z_iconst hX dX4_cutToRoot_7 ?_
  refine z_iconst hX dX4_cutToRoot_8 ?_
  refine z_iconst hX dX4_cutToRoot_9 ?_
  obtain ⟨r1, hc1, hr⟩ := z_bind hr
  refine z_callV_i (As := [.int (iI (-1)), .int (iI (-1)), .int (iI (-1)), .int (iI 0)]) (k1 := 0) (n1 := 0) (nA := 4) hX (mX4_occupy hc1) dX4_cutToRoot_10 gX4_cutToRoot_X4_occupy rfl ⟨rfl, by decide, by decide, by decide +kernel⟩ ⟨by decide, by decide⟩ ⟨by decide, by decide⟩ 0 rfl rfl rfl rfl (Nat.le_of_ble_eq_true rfl) (by decide +kernel) rfl rfl (fun hg1 => ?_)
  have hf : zfr [9, 10, 11, 12, 13, 14, 15, 16, 17] h0 r1.2 := zfr_tr hf (by decide) hg1
  refine z_pop hX dX4_cutToRoot_13 rfl ?_
  obtain rfl := Option.some.inj hr
  exact hQ _ _ dX4_cutToRoot_14 hf

