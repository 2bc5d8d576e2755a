def f_X7_isBetween (x1 : Int32) (x2 : Int32) (x3 : Int32) (m : fm_M) : Option (Bool) :=
  if x1 < x2 then (some false) else (if x3 < x1 then (some false) else (some true))
def f_X7_lesser (x1 : Int32) (x2 : Int32) (m : fm_M) : Option (Int32) :=
  if x2 ≤ x1 then (some x2) else (some x1)
def f_X7_isNot (x1 : Int32) (x2 : Int32) (m : fm_M) : Option (Int32 × fm_M) :=
  some ((-14 : Int32), (fm_put (fm_put m 23 2 x1) 23 3 x2))
def f_X7_refuses (x1 : Int32) (m : fm_M) : Option (Int32 × fm_M) :=
  if x1 = (-14 : Int32) then (some (x1, (fm_put (fm_put m 23 0 (m 23 2)) 23 1 ((fm_put m 23 0 (m 23 2)) 23 3)))) else (some (x1, m))
def f_X7_reason (x1 : Int32) (m : fm_M) : Option (Int32) :=
  if (m 23 0) = 0 then (some (-15 : Int32)) else (if x1 = 0 then (some (m 23 0)) else (some (m 23 1)))
def f_X7_thinks_L2 : Nat → Int32 → fm_M → Option (fm_M)
  | 0, _, _ => none
  | n + 1, y1, m => if (320 : Int32) ≤ y1 then (some m) else (if fm_in y1 320 = true then (if fm_in y1 320 = true then (f_X7_thinks_L2 n (y1 + (1 : Int32)) (fm_put m 27 y1.toNatClampNeg (m 24 y1.toNatClampNeg))) else none) else none)
def f_X7_thinks (m : fm_M) : Option (fm_M) :=
  f_X7_thinks_L2 fm_F (0 : Int32) m
def f_X7_forgets_L2 : Nat → Int32 → fm_M → Option (fm_M)
  | 0, _, _ => none
  | n + 1, y1, m => if (320 : Int32) ≤ y1 then (some m) else (if fm_in y1 320 = true then (if fm_in y1 320 = true then (f_X7_forgets_L2 n (y1 + (1 : Int32)) (fm_put m 24 y1.toNatClampNeg (m 27 y1.toNatClampNeg))) else none) else none)
def f_X7_forgets (m : fm_M) : Option (fm_M) :=
  f_X7_forgets_L2 fm_F (0 : Int32) m
def f_X7_keepsMind_L47 : Nat → Int32 → Int32 → fm_M → Option (fm_M)
  | 0, _, _, _ => none
  | n + 1, y1, y2, m => if (320 : Int32) ≤ y2 then (some (fm_put m 23 8 ((m 23 8) + (1 : Int32)))) else (if fm_in y2 320 = true then (if fm_in (((320 : Int32) * y1) + y2) 2560 = true then (f_X7_keepsMind_L47 n y1 (y2 + (1 : Int32)) (fm_put m 25 (((320 : Int32) * y1) + y2).toNatClampNeg (m 27 y2.toNatClampNeg))) else none) else none)
def f_X7_keepsMind (m : fm_M) : Option (fm_M) :=
  if (m 23 8) = (8 : Int32) then (f_X7_keepsMind_L47 fm_F ((((fm_put (fm_put m 23 9 (((m 23 9) + (1 : Int32)) - ((m 23 9) + (1 : Int32)) / (8 : Int32) * (8 : Int32))) 23 8 (((fm_put m 23 9 (((m 23 9) + (1 : Int32)) - ((m 23 9) + (1 : Int32)) / (8 : Int32) * (8 : Int32))) 23 8) - (1 : Int32))) 23 9) + ((fm_put (fm_put m 23 9 (((m 23 9) + (1 : Int32)) - ((m 23 9) + (1 : Int32)) / (8 : Int32) * (8 : Int32))) 23 8 (((fm_put m 23 9 (((m 23 9) + (1 : Int32)) - ((m 23 9) + (1 : Int32)) / (8 : Int32) * (8 : Int32))) 23 8) - (1 : Int32))) 23 8)) - (((fm_put (fm_put m 23 9 (((m 23 9) + (1 : Int32)) - ((m 23 9) + (1 : Int32)) / (8 : Int32) * (8 : Int32))) 23 8 (((fm_put m 23 9 (((m 23 9) + (1 : Int32)) - ((m 23 9) + (1 : Int32)) / (8 : Int32) * (8 : Int32))) 23 8) - (1 : Int32))) 23 9) + ((fm_put (fm_put m 23 9 (((m 23 9) + (1 : Int32)) - ((m 23 9) + (1 : Int32)) / (8 : Int32) * (8 : Int32))) 23 8 (((fm_put m 23 9 (((m 23 9) + (1 : Int32)) - ((m 23 9) + (1 : Int32)) / (8 : Int32) * (8 : Int32))) 23 8) - (1 : Int32))) 23 8)) / (8 : Int32) * (8 : Int32)) (0 : Int32) (fm_put (fm_put m 23 9 (((m 23 9) + (1 : Int32)) - ((m 23 9) + (1 : Int32)) / (8 : Int32) * (8 : Int32))) 23 8 (((fm_put m 23 9 (((m 23 9) + (1 : Int32)) - ((m 23 9) + (1 : Int32)) / (8 : Int32) * (8 : Int32))) 23 8) - (1 : Int32)))) else (f_X7_keepsMind_L47 fm_F (((m 23 9) + (m 23 8)) - ((m 23 9) + (m 23 8)) / (8 : Int32) * (8 : Int32)) (0 : Int32) m)
def f_X7_remembers (m : fm_M) : Option (fm_M) :=
  (f_X7_thinks m).bind fun v1 => (f_X7_keepsMind v1).bind fun v3 => some v3
def f_X7_of (x1 : Int32) (x2 : Int32) (m : fm_M) : Option (Int32) :=
  if fm_in (((64 : Int32) + ((16 : Int32) * x1)) + x2) 320 = true then (some (m 24 (((64 : Int32) + ((16 : Int32) * x1)) + x2).toNatClampNeg)) else none
def f_X7_sets (x1 : Int32) (x2 : Int32) (x3 : Int32) (m : fm_M) : Option (fm_M) :=
  if fm_in (((64 : Int32) + ((16 : Int32) * x1)) + x2) 320 = true then (some (fm_put m 24 (((64 : Int32) + ((16 : Int32) * x1)) + x2).toNatClampNeg x3)) else none
def f_X7_isBrother (x1 : Int32) (m : fm_M) : Option (Bool) :=
  if fm_in (2 : Int32) 320 = true then ((f_X7_isBetween x1 (0 : Int32) ((m 24 (2 : Int32).toNatClampNeg) - (1 : Int32)) m).bind fun v2 => some v2) else none
def f_X7_isCell (x1 : Int32) (m : fm_M) : Option (Bool) :=
  (f_X7_isBetween x1 (0 : Int32) (7 : Int32) m).bind fun v1 => some v1
def f_X7_isSo (x1 : Int32) (x2 : Int32) (m : fm_M) : Option (Bool) :=
  (f_X7_of x1 (2 : Int32) m).bind fun v1 => if v1 = x2 then (some true) else (some false)
def f_X7_brethrenThat_L4 : Nat → Int32 → Int32 → Int32 → fm_M → Option (Int32)
  | 0, _, _, _, _ => none
  | n + 1, y1, y2, y3, m => if fm_in (2 : Int32) 320 = true then (if (m 24 (2 : Int32).toNatClampNeg) ≤ y3 then (some y2) else ((f_X7_isSo y3 y1 m).bind fun v3 => if v3 = true then (f_X7_brethrenThat_L4 n y1 (y2 + (1 : Int32)) (y3 + (1 : Int32)) m) else (f_X7_brethrenThat_L4 n y1 (y2 + (0 : Int32)) (y3 + (1 : Int32)) m))) else none
def f_X7_brethrenThat (x1 : Int32) (m : fm_M) : Option (Int32) :=
  f_X7_brethrenThat_L4 fm_F x1 (0 : Int32) (0 : Int32) m
def f_X7_brotherIn_L2 : Nat → Int32 → Int32 → fm_M → Option (Int32)
  | 0, _, _, _ => none
  | n + 1, y1, y2, m => if fm_in (2 : Int32) 320 = true then (if (m 24 (2 : Int32).toNatClampNeg) ≤ y2 then (some (-15 : Int32)) else ((f_X7_isSo y2 (1 : Int32) m).bind fun v3 => if v3 = true then ((f_X7_of y2 (3 : Int32) m).bind fun v6 => if v6 = y1 then (some y2) else (f_X7_brotherIn_L2 n y1 (y2 + (1 : Int32)) m)) else (f_X7_brotherIn_L2 n y1 (y2 + (1 : Int32)) m))) else none
def f_X7_brotherIn (x1 : Int32) (m : fm_M) : Option (Int32) :=
  f_X7_brotherIn_L2 fm_F x1 (0 : Int32) m
def f_X7_countsFor (x1 : Int32) (m : fm_M) : Option (Int32) :=
  (f_X7_of x1 (1 : Int32) m).bind fun v1 => if v1 = (1 : Int32) then (some (2 : Int32)) else (some (1 : Int32))
def f_X7_voicesFor_L15 : Nat → Int32 → Int32 → Int32 → fm_M → Option (Int32)
  | 0, _, _, _, _ => none
  | n + 1, y1, y2, y3, m => if fm_in (2 : Int32) 320 = true then (if (m 24 (2 : Int32).toNatClampNeg) ≤ y3 then (some y2) else ((f_X7_of y3 (7 : Int32) m).bind fun v6 => if v6 = (y1 + (1 : Int32)) then ((f_X7_countsFor y1 m).bind fun v9 => f_X7_voicesFor_L15 n y1 (y2 + v9) (y3 + (1 : Int32)) m) else (f_X7_voicesFor_L15 n y1 (y2 + (0 : Int32)) (y3 + (1 : Int32)) m))) else none
def f_X7_voicesFor (x1 : Int32) (m : fm_M) : Option (Int32) :=
  (f_X7_isSo x1 (0 : Int32) m).bind fun v1 => if v1 = true then (f_X7_voicesFor_L15 fm_F x1 (0 : Int32) (0 : Int32) m) else (some (0 : Int32))
def f_X7_voicesGo_L29 : Nat → Int32 → Int32 → fm_M → Option (fm_M)
  | 0, _, _, _ => none
  | n + 1, y1, y2, m => if fm_in (2 : Int32) 320 = true then (if (m 24 (2 : Int32).toNatClampNeg) ≤ y2 then (some m) else ((f_X7_of y2 (7 : Int32) m).bind fun v9 => if v9 = (y1 + (1 : Int32)) then ((f_X7_sets y2 (7 : Int32) (0 : Int32) m).bind fun v12 => f_X7_voicesGo_L29 n y1 (y2 + (1 : Int32)) v12) else (f_X7_voicesGo_L29 n y1 (y2 + (1 : Int32)) m))) else none
def f_X7_voicesGo (x1 : Int32) (m : fm_M) : Option (fm_M) :=
  (f_X7_isSo x1 (1 : Int32) m).bind fun v1 => if v1 = true then ((f_X7_isSo x1 (0 : Int32) m).bind fun v4 => if v4 = true then (some m) else (f_X7_voicesGo_L29 fm_F x1 (0 : Int32) m)) else ((f_X7_sets x1 (7 : Int32) (0 : Int32) m).bind fun v14 => (f_X7_isSo x1 (0 : Int32) v14).bind fun v16 => if v16 = true then (some v14) else (f_X7_voicesGo_L29 fm_F x1 (0 : Int32) v14))
def f_X7_stamps (x1 : Int32) (m : fm_M) : Option (fm_M) :=
  if fm_in (10 : Int32) 320 = true then (if fm_in (10 : Int32) 320 = true then (if fm_in (10 : Int32) 320 = true then ((f_X7_sets x1 (8 : Int32) ((fm_put m 24 (10 : Int32).toNatClampNeg ((m 24 (10 : Int32).toNatClampNeg) + (1 : Int32))) 24 (10 : Int32).toNatClampNeg) (fm_put m 24 (10 : Int32).toNatClampNeg ((m 24 (10 : Int32).toNatClampNeg) + (1 : Int32)))).bind fun v4 => some v4) else none) else none) else none
def f_X7_becomes (x1 : Int32) (x2 : Int32) (m : fm_M) : Option (fm_M) :=
  (f_X7_sets x1 (2 : Int32) x2 m).bind fun v1 => (f_X7_sets x1 (5 : Int32) (0 : Int32) v1).bind fun v3 => (f_X7_voicesGo x1 v3).bind fun v5 => some v5
def f_X7_come (x1 : Int32) (x2 : Int32) (m : fm_M) : Option (Int32 × fm_M) :=
  (f_X7_isBetween x1 (50 : Int32) (90 : Int32) m).bind fun v1 => if v1 = true then (if fm_in (2 : Int32) 320 = true then (if (m 24 (2 : Int32).toNatClampNeg) = (16 : Int32) then ((f_X7_isNot (1 : Int32) (16 : Int32) m).bind fun v22 => (f_X7_refuses v22.1 v22.2).bind fun v24 => some (v24.1, v24.2)) else ((f_X7_remembers m).bind fun v6 => if fm_in (2 : Int32) 320 = true then (if fm_in (2 : Int32) 320 = true then (if fm_in (2 : Int32) 320 = true then ((f_X7_sets (v6 24 (2 : Int32).toNatClampNeg) (0 : Int32) x1 (fm_put v6 24 (2 : Int32).toNatClampNeg ((v6 24 (2 : Int32).toNatClampNeg) + (1 : Int32)))).bind fun v11 => if x2 = 0 then ((f_X7_sets (v6 24 (2 : Int32).toNatClampNeg) (1 : Int32) (0 : Int32) v11).bind fun v14 => (f_X7_stamps (v6 24 (2 : Int32).toNatClampNeg) v14).bind fun v16 => some ((v6 24 (2 : Int32).toNatClampNeg), v16)) else ((f_X7_sets (v6 24 (2 : Int32).toNatClampNeg) (1 : Int32) (1 : Int32) v11).bind fun v18 => (f_X7_stamps (v6 24 (2 : Int32).toNatClampNeg) v18).bind fun v20 => some ((v6 24 (2 : Int32).toNatClampNeg), v20))) else none) else none) else none)) else none) else (some ((-12 : Int32), m))
def f_X7_withdraw (x1 : Int32) (m : fm_M) : Option (Int32 × fm_M) :=
  (f_X7_isBrother x1 m).bind fun v1 => if v1 = true then ((f_X7_isSo x1 (0 : Int32) m).bind fun v4 => if v4 = true then ((f_X7_remembers m).bind fun v7 => (f_X7_becomes x1 (3 : Int32) v7).bind fun v9 => (f_X7_brethrenThat (0 : Int32) v9).bind fun v11 => some (v11, v9)) else ((f_X7_of x1 (2 : Int32) m).bind fun v13 => (f_X7_isNot (2 : Int32) v13 m).bind fun v15 => (f_X7_refuses v15.1 v15.2).bind fun v17 => some (v17.1, v17.2))) else (some ((-11 : Int32), m))
def f_X7_notVoice (x1 : Int32) (x2 : Int32) (m : fm_M) : Option (Int32 × fm_M) :=
  (f_X7_isBrother x1 m).bind fun v1 => if v1 = true then ((f_X7_isBrother x2 m).bind fun v4 => if v4 = true then ((f_X7_isSo x1 (1 : Int32) m).bind fun v7 => if v7 = true then ((f_X7_of x1 (5 : Int32) m).bind fun v10 => if v10 ≤ 0 then ((f_X7_isSo x2 (0 : Int32) m).bind fun v13 => if v13 = true then (some ((0 : Int32), m)) else ((f_X7_of x2 (2 : Int32) m).bind fun v16 => (f_X7_isNot (2 : Int32) v16 m).bind fun v18 => some (v18.1, v18.2))) else ((f_X7_of x1 (5 : Int32) m).bind fun v20 => (f_X7_isNot (4 : Int32) v20 m).bind fun v22 => some (v22.1, v22.2))) else ((f_X7_of x1 (2 : Int32) m).bind fun v24 => (f_X7_isNot (3 : Int32) v24 m).bind fun v26 => some (v26.1, v26.2))) else (some ((-11 : Int32), m))) else (some ((-11 : Int32), m))
def f_X7_gives (x1 : Int32) (x2 : Int32) (m : fm_M) : Option (Int32 × fm_M) :=
  (f_X7_sets x1 (7 : Int32) (x2 + (1 : Int32)) m).bind fun v1 => (f_X7_voicesFor x2 v1).bind fun v3 => some (v3, v1)
def f_X7_voice (x1 : Int32) (x2 : Int32) (m : fm_M) : Option (Int32 × fm_M) :=
  (f_X7_notVoice x1 x2 m).bind fun v1 => if v1.1 = 0 then ((f_X7_remembers v1.2).bind fun v4 => (f_X7_gives x1 x2 v4).bind fun v6 => some (v6.1, v6.2)) else ((f_X7_refuses v1.1 v1.2).bind fun v8 => some (v8.1, v8.2))
def f_X7_isChosenAhead (x1 : Int32) (x2 : Int32) (m : fm_M) : Option (Bool) :=
  (f_X7_voicesFor x1 m).bind fun v1 => (f_X7_voicesFor x2 m).bind fun v3 => if v1 = v3 then ((f_X7_of x1 (8 : Int32) m).bind fun v6 => (f_X7_of x2 (8 : Int32) m).bind fun v8 => if v8 ≤ v6 then (some false) else (some true)) else ((f_X7_voicesFor x1 m).bind fun v11 => (f_X7_voicesFor x2 m).bind fun v13 => if v11 ≤ v13 then (some false) else (some true))
def f_X7_rankedAt_L29 : Nat → Int32 → Int32 → Int32 → Int32 → fm_M → Option (Int32)
  | 0, _, _, _, _, _ => none
  | n + 1, y1, y2, y3, y4, m => if fm_in (2 : Int32) 320 = true then (if (m 24 (2 : Int32).toNatClampNeg) ≤ y4 then (some y3) else ((f_X7_isSo y4 (0 : Int32) m).bind fun v8 => if v8 = true then ((f_X7_isChosenAhead y4 y2 m).bind fun v11 => if v11 = true then (f_X7_rankedAt_L29 n y1 y2 (y3 + (1 : Int32)) (y4 + (1 : Int32)) m) else (f_X7_rankedAt_L29 n y1 y2 (y3 + (0 : Int32)) (y4 + (1 : Int32)) m)) else (f_X7_rankedAt_L29 n y1 y2 (y3 + (0 : Int32)) (y4 + (1 : Int32)) m))) else none
def f_X7_rankedAt_L2 : Nat → Int32 → Int32 → fm_M → Option (Int32)
  | 0, _, _, _ => none
  | n + 1, y1, y2, m => if fm_in (2 : Int32) 320 = true then (if (m 24 (2 : Int32).toNatClampNeg) ≤ y2 then (some (-11 : Int32)) else ((f_X7_isSo y2 (0 : Int32) m).bind fun v3 => if v3 = true then ((f_X7_rankedAt_L29 fm_F y1 y2 (0 : Int32) (0 : Int32) m).bind fun e14 => if e14 = y1 then (some y2) else (f_X7_rankedAt_L2 n y1 (y2 + (1 : Int32)) m)) else (f_X7_rankedAt_L2 n y1 (y2 + (1 : Int32)) m))) else none
def f_X7_rankedAt (x1 : Int32) (m : fm_M) : Option (Int32) :=
  f_X7_rankedAt_L2 fm_F x1 (0 : Int32) m
def f_X7_notChoose (x1 : Int32) (m : fm_M) : Option (Int32 × fm_M) :=
  (f_X7_isCell x1 m).bind fun v1 => if v1 = true then ((f_X7_brotherIn x1 m).bind fun v4 => if v4 < 0 then ((f_X7_brethrenThat (0 : Int32) m).bind fun v7 => if v7 = 0 then ((f_X7_isNot (6 : Int32) x1 m).bind fun v10 => some (v10.1, v10.2)) else (some ((0 : Int32), m))) else ((f_X7_brotherIn x1 m).bind fun v12 => (f_X7_isNot (5 : Int32) v12 m).bind fun v14 => some (v14.1, v14.2))) else (some ((-11 : Int32), m))
def f_X7_chooses (x1 : Int32) (m : fm_M) : Option (Int32 × fm_M) :=
  (f_X7_rankedAt (0 : Int32) m).bind fun v1 => (f_X7_becomes v1 (1 : Int32) m).bind fun v3 => (f_X7_sets v1 (3 : Int32) x1 v3).bind fun v5 => (f_X7_sets v1 (4 : Int32) (0 : Int32) v5).bind fun v7 => (f_X7_stamps v1 v7).bind fun v9 => some (v1, v9)
def f_X7_choose (x1 : Int32) (m : fm_M) : Option (Int32 × fm_M) :=
  (f_X7_notChoose x1 m).bind fun v1 => if v1.1 = 0 then ((f_X7_remembers v1.2).bind fun v4 => (f_X7_chooses x1 v4).bind fun v6 => some (v6.1, v6.2)) else ((f_X7_refuses v1.1 v1.2).bind fun v8 => some (v8.1, v8.2))
def f_X7_notLeave (x1 : Int32) (m : fm_M) : Option (Int32 × fm_M) :=
  (f_X7_isCell x1 m).bind fun v1 => if v1 = true then ((f_X7_brotherIn x1 m).bind fun v4 => if 0 ≤ v4 then (some ((0 : Int32), m)) else ((f_X7_isNot (7 : Int32) x1 m).bind fun v7 => some (v7.1, v7.2))) else (some ((-11 : Int32), m))
def f_X7_leaves (x1 : Int32) (m : fm_M) : Option (Int32 × fm_M) :=
  (f_X7_brotherIn x1 m).bind fun v1 => (f_X7_becomes v1 (3 : Int32) m).bind fun v3 => some (v1, v3)
def f_X7_leave (x1 : Int32) (m : fm_M) : Option (Int32 × fm_M) :=
  (f_X7_notLeave x1 m).bind fun v1 => if v1.1 = 0 then ((f_X7_remembers v1.2).bind fun v4 => (f_X7_leaves x1 v4).bind fun v6 => some (v6.1, v6.2)) else ((f_X7_refuses v1.1 v1.2).bind fun v8 => some (v8.1, v8.2))
def f_X7_notFeast (x1 : Int32) (x2 : Int32) (m : fm_M) : Option (Int32 × fm_M) :=
  (f_X7_isBetween x1 (0 : Int32) (51 : Int32) m).bind fun v1 => if v1 = true then ((f_X7_isBetween x2 (1 : Int32) (9 : Int32) m).bind fun v4 => if v4 = true then (if fm_in ((12 : Int32) + x1) 320 = true then (if (m 24 ((12 : Int32) + x1).toNatClampNeg) = 0 then (if fm_in (9 : Int32) 320 = true then (if (m 24 (9 : Int32).toNatClampNeg) = (6 : Int32) then ((f_X7_isNot (8 : Int32) (6 : Int32) m).bind fun v11 => some (v11.1, v11.2)) else (some ((0 : Int32), m))) else none) else (some ((0 : Int32), m))) else none) else (some ((-12 : Int32), m))) else (some ((-12 : Int32), m))
def f_X7_tells (x1 : Int32) (x2 : Int32) (m : fm_M) : Option (Int32 × fm_M) :=
  if fm_in ((12 : Int32) + x1) 320 = true then (if (m 24 ((12 : Int32) + x1).toNatClampNeg) = 0 then (if fm_in (9 : Int32) 320 = true then (if fm_in (9 : Int32) 320 = true then (if fm_in ((12 : Int32) + x1) 320 = true then (if fm_in (9 : Int32) 320 = true then (some (((fm_put (fm_put m 24 (9 : Int32).toNatClampNeg ((m 24 (9 : Int32).toNatClampNeg) + (1 : Int32))) 24 ((12 : Int32) + x1).toNatClampNeg x2) 24 (9 : Int32).toNatClampNeg), (fm_put (fm_put m 24 (9 : Int32).toNatClampNeg ((m 24 (9 : Int32).toNatClampNeg) + (1 : Int32))) 24 ((12 : Int32) + x1).toNatClampNeg x2))) else none) else none) else none) else none) else (if fm_in ((12 : Int32) + x1) 320 = true then (if fm_in (9 : Int32) 320 = true then (some (((fm_put m 24 ((12 : Int32) + x1).toNatClampNeg x2) 24 (9 : Int32).toNatClampNeg), (fm_put m 24 ((12 : Int32) + x1).toNatClampNeg x2))) else none) else none)) else none
def f_X7_feast (x1 : Int32) (x2 : Int32) (m : fm_M) : Option (Int32 × fm_M) :=
  (f_X7_notFeast x1 x2 m).bind fun v1 => if v1.1 = 0 then ((f_X7_remembers v1.2).bind fun v4 => (f_X7_tells x1 x2 v4).bind fun v6 => some (v6.1, v6.2)) else ((f_X7_refuses v1.1 v1.2).bind fun v8 => some (v8.1, v8.2))
def f_X7_notBreach (x1 : Int32) (x2 : Int32) (m : fm_M) : Option (Int32 × fm_M) :=
  (f_X7_isBrother x1 m).bind fun v1 => if v1 = true then ((f_X7_isBetween x2 (0 : Int32) (4 : Int32) m).bind fun v4 => if v4 = true then ((f_X7_isSo x1 (1 : Int32) m).bind fun v7 => if v7 = true then (some ((0 : Int32), m)) else ((f_X7_of x1 (2 : Int32) m).bind fun v10 => (f_X7_isNot (3 : Int32) v10 m).bind fun v12 => some (v12.1, v12.2))) else (some ((-11 : Int32), m))) else (some ((-11 : Int32), m))
def f_X7_breaks (x1 : Int32) (x2 : Int32) (m : fm_M) : Option (Int32 × fm_M) :=
  (f_X7_of x1 ((9 : Int32) + x2) m).bind fun v1 => (f_X7_sets x1 ((9 : Int32) + x2) (v1 + (1 : Int32)) m).bind fun v3 => if (v1 + (1 : Int32)) = (3 : Int32) then ((f_X7_becomes x1 (2 : Int32) v3).bind fun v12 => (f_X7_of x1 (5 : Int32) v12).bind fun v14 => some (v14, v12)) else ((f_X7_of x1 (5 : Int32) v3).bind fun v6 => (f_X7_sets x1 (5 : Int32) (v6 + (v1 + (1 : Int32))) v3).bind fun v8 => (f_X7_of x1 (5 : Int32) v8).bind fun v10 => some (v10, v8))
def f_X7_breach (x1 : Int32) (x2 : Int32) (m : fm_M) : Option (Int32 × fm_M) :=
  (f_X7_notBreach x1 x2 m).bind fun v1 => if v1.1 = 0 then ((f_X7_remembers v1.2).bind fun v4 => (f_X7_breaks x1 x2 v4).bind fun v6 => some (v6.1, v6.2)) else ((f_X7_refuses v1.1 v1.2).bind fun v8 => some (v8.1, v8.2))
def f_X7_notPardon (x1 : Int32) (m : fm_M) : Option (Int32 × fm_M) :=
  (f_X7_isBrother x1 m).bind fun v1 => if v1 = true then ((f_X7_isSo x1 (1 : Int32) m).bind fun v4 => if v4 = true then ((f_X7_of x1 (5 : Int32) m).bind fun v7 => if v7 = 0 then ((f_X7_isNot (10 : Int32) x1 m).bind fun v14 => some (v14.1, v14.2)) else (if fm_in (8 : Int32) 320 = true then (if (m 24 (8 : Int32).toNatClampNeg) = (2 : Int32) then ((f_X7_isNot (9 : Int32) (2 : Int32) m).bind fun v12 => some (v12.1, v12.2)) else (some ((0 : Int32), m))) else none)) else ((f_X7_of x1 (2 : Int32) m).bind fun v16 => (f_X7_isNot (3 : Int32) v16 m).bind fun v18 => some (v18.1, v18.2))) else (some ((-11 : Int32), m))
def f_X7_pardons (x1 : Int32) (m : fm_M) : Option (Int32 × fm_M) :=
  (f_X7_of x1 (5 : Int32) m).bind fun v1 => (f_X7_sets x1 (5 : Int32) (0 : Int32) m).bind fun v3 => if fm_in (8 : Int32) 320 = true then (if fm_in (8 : Int32) 320 = true then (some (v1, (fm_put v3 24 (8 : Int32).toNatClampNeg ((v3 24 (8 : Int32).toNatClampNeg) + (1 : Int32))))) else none) else none
def f_X7_pardon (x1 : Int32) (m : fm_M) : Option (Int32 × fm_M) :=
  (f_X7_notPardon x1 m).bind fun v1 => if v1.1 = 0 then ((f_X7_remembers v1.2).bind fun v4 => (f_X7_pardons x1 v4).bind fun v6 => some (v6.1, v6.2)) else ((f_X7_refuses v1.1 v1.2).bind fun v8 => some (v8.1, v8.2))
def f_X7_comesIn (x1 : Int32) (m : fm_M) : Option (fm_M) :=
  if fm_in (3 : Int32) 320 = true then ((f_X7_lesser x1 ((9999 : Int32) - (m 24 (3 : Int32).toNatClampNeg)) m).bind fun v2 => if fm_in (3 : Int32) 320 = true then (if fm_in (3 : Int32) 320 = true then (if fm_in (4 : Int32) 320 = true then (if fm_in (4 : Int32) 320 = true then (some (fm_put (fm_put m 24 (3 : Int32).toNatClampNeg ((m 24 (3 : Int32).toNatClampNeg) + v2)) 24 (4 : Int32).toNatClampNeg (((fm_put m 24 (3 : Int32).toNatClampNeg ((m 24 (3 : Int32).toNatClampNeg) + v2)) 24 (4 : Int32).toNatClampNeg) + v2))) else none) else none) else none) else none) else none
def f_X7_puts (x1 : Int32) (m : fm_M) : Option (Int32 × fm_M) :=
  (f_X7_comesIn x1 m).bind fun v1 => if fm_in (3 : Int32) 320 = true then (some ((v1 24 (3 : Int32).toNatClampNeg), v1)) else none
def f_X7_gift (x1 : Int32) (m : fm_M) : Option (Int32 × fm_M) :=
  (f_X7_isBetween x1 (1 : Int32) (500 : Int32) m).bind fun v1 => if v1 = true then ((f_X7_remembers m).bind fun v4 => (f_X7_puts x1 v4).bind fun v6 => some (v6.1, v6.2)) else (some ((-12 : Int32), m))
def f_X7_isEntitled (x1 : Int32) (m : fm_M) : Option (Bool) :=
  (f_X7_isSo x1 (1 : Int32) m).bind fun v1 => if v1 = true then ((f_X7_of x1 (5 : Int32) m).bind fun v4 => if v4 = 0 then (some true) else (some false)) else (some false)
def f_X7_entitledMany_L4 : Nat → Int32 → Int32 → fm_M → Option (Int32)
  | 0, _, _, _ => none
  | n + 1, y1, y2, m => if fm_in (2 : Int32) 320 = true then (if (m 24 (2 : Int32).toNatClampNeg) ≤ y2 then (some y1) else ((f_X7_isEntitled y2 m).bind fun v3 => if v3 = true then (f_X7_entitledMany_L4 n (y1 + (1 : Int32)) (y2 + (1 : Int32)) m) else (f_X7_entitledMany_L4 n (y1 + (0 : Int32)) (y2 + (1 : Int32)) m))) else none
def f_X7_entitledMany (m : fm_M) : Option (Int32) :=
  f_X7_entitledMany_L4 fm_F (0 : Int32) (0 : Int32) m
def f_X7_feastComes_L46 : Nat → Int32 → Int32 → Int32 → fm_M → Option (Int32 × fm_M)
  | 0, _, _, _, _ => none
  | n + 1, y1, y3, y4, m => if fm_in (2 : Int32) 320 = true then (if (m 24 (2 : Int32).toNatClampNeg) ≤ y4 then (if fm_in (3 : Int32) 320 = true then (if fm_in (3 : Int32) 320 = true then (if fm_in (5 : Int32) 320 = true then (if fm_in (5 : Int32) 320 = true then (some ((y3 * y1), (fm_put (fm_put m 24 (3 : Int32).toNatClampNeg ((m 24 (3 : Int32).toNatClampNeg) - (y3 * y1))) 24 (5 : Int32).toNatClampNeg (((fm_put m 24 (3 : Int32).toNatClampNeg ((m 24 (3 : Int32).toNatClampNeg) - (y3 * y1))) 24 (5 : Int32).toNatClampNeg) + (y3 * y1))))) else none) else none) else none) else none) else ((f_X7_isEntitled y4 m).bind fun v17 => if v17 = true then ((f_X7_of y4 (6 : Int32) m).bind fun v20 => (f_X7_sets y4 (6 : Int32) (v20 + y3) m).bind fun v22 => f_X7_feastComes_L46 n y1 y3 (y4 + (1 : Int32)) v22) else (f_X7_feastComes_L46 n y1 y3 (y4 + (1 : Int32)) m))) else none
def f_X7_feastComes (m : fm_M) : Option (Int32 × fm_M) :=
  (f_X7_entitledMany m).bind fun v1 => if fm_in (1 : Int32) 320 = true then (if fm_in ((12 : Int32) + (m 24 (1 : Int32).toNatClampNeg)) 320 = true then (if v1 = 0 then (some ((0 : Int32), m)) else (if (m 24 ((12 : Int32) + (m 24 (1 : Int32).toNatClampNeg)).toNatClampNeg) = 0 then (some ((0 : Int32), m)) else (if fm_in (3 : Int32) 320 = true then (if v1 = 0 then none else (f_X7_lesser (m 24 ((12 : Int32) + (m 24 (1 : Int32).toNatClampNeg)).toNatClampNeg) ((m 24 (3 : Int32).toNatClampNeg) / v1) m).bind fun v9 => f_X7_feastComes_L46 fm_F v1 v9 (0 : Int32) m) else none))) else none) else none
def f_X7_isSeniorTo (x1 : Int32) (x2 : Int32) (m : fm_M) : Option (Bool) :=
  (f_X7_of x1 (8 : Int32) m).bind fun v1 => (f_X7_of x2 (8 : Int32) m).bind fun v3 => if v3 ≤ v1 then (some false) else (some true)
def f_X7_isShabbier (x1 : Int32) (x2 : Int32) (m : fm_M) : Option (Bool) :=
  (f_X7_of x1 (4 : Int32) m).bind fun v1 => (f_X7_of x2 (4 : Int32) m).bind fun v3 => if v1 = v3 then ((f_X7_isSeniorTo x1 x2 m).bind fun v6 => some v6) else ((f_X7_of x1 (4 : Int32) m).bind fun v8 => (f_X7_of x2 (4 : Int32) m).bind fun v10 => if v8 ≤ v10 then (some false) else (some true))
def f_X7_shabbyAt_L29 : Nat → Int32 → Int32 → Int32 → Int32 → fm_M → Option (Int32)
  | 0, _, _, _, _, _ => none
  | n + 1, y1, y2, y3, y4, m => if fm_in (2 : Int32) 320 = true then (if (m 24 (2 : Int32).toNatClampNeg) ≤ y4 then (some y3) else ((f_X7_isSo y4 (1 : Int32) m).bind fun v8 => if v8 = true then ((f_X7_isShabbier y4 y2 m).bind fun v11 => if v11 = true then (f_X7_shabbyAt_L29 n y1 y2 (y3 + (1 : Int32)) (y4 + (1 : Int32)) m) else (f_X7_shabbyAt_L29 n y1 y2 (y3 + (0 : Int32)) (y4 + (1 : Int32)) m)) else (f_X7_shabbyAt_L29 n y1 y2 (y3 + (0 : Int32)) (y4 + (1 : Int32)) m))) else none
def f_X7_shabbyAt_L2 : Nat → Int32 → Int32 → fm_M → Option (Int32)
  | 0, _, _, _ => none
  | n + 1, y1, y2, m => if fm_in (2 : Int32) 320 = true then (if (m 24 (2 : Int32).toNatClampNeg) ≤ y2 then (some (-11 : Int32)) else ((f_X7_isSo y2 (1 : Int32) m).bind fun v3 => if v3 = true then ((f_X7_shabbyAt_L29 fm_F y1 y2 (0 : Int32) (0 : Int32) m).bind fun e14 => if e14 = y1 then (some y2) else (f_X7_shabbyAt_L2 n y1 (y2 + (1 : Int32)) m)) else (f_X7_shabbyAt_L2 n y1 (y2 + (1 : Int32)) m))) else none
def f_X7_shabbyAt (x1 : Int32) (m : fm_M) : Option (Int32) :=
  f_X7_shabbyAt_L2 fm_F x1 (0 : Int32) m
def f_X7_yearBegins_L112 : Nat → Int32 → fm_M → Option (fm_M)
  | 0, _, _ => none
  | n + 1, y1, m => if y1 < 0 then (some m) else ((f_X7_of y1 (4 : Int32) m).bind fun v10 => if v10 < (2 : Int32) then (some m) else (if fm_in (3 : Int32) 320 = true then (if (m 24 (3 : Int32).toNatClampNeg) < (8 : Int32) then (some m) else ((f_X7_sets y1 (4 : Int32) (0 : Int32) m).bind fun v15 => if fm_in (3 : Int32) 320 = true then (if fm_in (3 : Int32) 320 = true then (if fm_in (6 : Int32) 320 = true then (if fm_in (6 : Int32) 320 = true then (if fm_in (7 : Int32) 320 = true then (if fm_in (7 : Int32) 320 = true then ((f_X7_shabbyAt (0 : Int32) (fm_put (fm_put (fm_put v15 24 (3 : Int32).toNatClampNeg ((v15 24 (3 : Int32).toNatClampNeg) - (8 : Int32))) 24 (6 : Int32).toNatClampNeg (((fm_put v15 24 (3 : Int32).toNatClampNeg ((v15 24 (3 : Int32).toNatClampNeg) - (8 : Int32))) 24 (6 : Int32).toNatClampNeg) + (8 : Int32))) 24 (7 : Int32).toNatClampNeg (((fm_put (fm_put v15 24 (3 : Int32).toNatClampNeg ((v15 24 (3 : Int32).toNatClampNeg) - (8 : Int32))) 24 (6 : Int32).toNatClampNeg (((fm_put v15 24 (3 : Int32).toNatClampNeg ((v15 24 (3 : Int32).toNatClampNeg) - (8 : Int32))) 24 (6 : Int32).toNatClampNeg) + (8 : Int32))) 24 (7 : Int32).toNatClampNeg) + (1 : Int32)))).bind fun v23 => f_X7_yearBegins_L112 n v23 (fm_put (fm_put (fm_put v15 24 (3 : Int32).toNatClampNeg ((v15 24 (3 : Int32).toNatClampNeg) - (8 : Int32))) 24 (6 : Int32).toNatClampNeg (((fm_put v15 24 (3 : Int32).toNatClampNeg ((v15 24 (3 : Int32).toNatClampNeg) - (8 : Int32))) 24 (6 : Int32).toNatClampNeg) + (8 : Int32))) 24 (7 : Int32).toNatClampNeg (((fm_put (fm_put v15 24 (3 : Int32).toNatClampNeg ((v15 24 (3 : Int32).toNatClampNeg) - (8 : Int32))) 24 (6 : Int32).toNatClampNeg (((fm_put v15 24 (3 : Int32).toNatClampNeg ((v15 24 (3 : Int32).toNatClampNeg) - (8 : Int32))) 24 (6 : Int32).toNatClampNeg) + (8 : Int32))) 24 (7 : Int32).toNatClampNeg) + (1 : Int32)))) else none) else none) else none) else none) else none) else none)) else none))
def f_X7_yearBegins_L27 : Nat → Int32 → fm_M → Option (fm_M)
  | 0, _, _ => none
  | n + 1, y1, m => if fm_in (2 : Int32) 320 = true then (if (m 24 (2 : Int32).toNatClampNeg) ≤ y1 then ((f_X7_shabbyAt (0 : Int32) m).bind fun v7 => f_X7_yearBegins_L112 fm_F v7 m) else ((f_X7_of y1 (0 : Int32) m).bind fun v25 => (f_X7_isSo y1 (0 : Int32) m).bind fun v27 => if v27 = true then ((f_X7_sets y1 (0 : Int32) (v25 + (1 : Int32)) m).bind fun v30 => (f_X7_of y1 (4 : Int32) v30).bind fun v32 => (f_X7_isSo y1 (1 : Int32) v30).bind fun v34 => if v34 = true then ((f_X7_sets y1 (4 : Int32) (v32 + (1 : Int32)) v30).bind fun v39 => f_X7_yearBegins_L27 n (y1 + (1 : Int32)) v39) else ((f_X7_sets y1 (4 : Int32) (v32 + (0 : Int32)) v30).bind fun v37 => f_X7_yearBegins_L27 n (y1 + (1 : Int32)) v37)) else ((f_X7_isSo y1 (1 : Int32) m).bind fun v41 => if v41 = true then ((f_X7_sets y1 (0 : Int32) (v25 + (1 : Int32)) m).bind fun v55 => (f_X7_of y1 (4 : Int32) v55).bind fun v57 => (f_X7_isSo y1 (1 : Int32) v55).bind fun v59 => if v59 = true then ((f_X7_sets y1 (4 : Int32) (v57 + (1 : Int32)) v55).bind fun v64 => f_X7_yearBegins_L27 n (y1 + (1 : Int32)) v64) else ((f_X7_sets y1 (4 : Int32) (v57 + (0 : Int32)) v55).bind fun v62 => f_X7_yearBegins_L27 n (y1 + (1 : Int32)) v62)) else ((f_X7_sets y1 (0 : Int32) (v25 + (0 : Int32)) m).bind fun v44 => (f_X7_of y1 (4 : Int32) v44).bind fun v46 => (f_X7_isSo y1 (1 : Int32) v44).bind fun v48 => if v48 = true then ((f_X7_sets y1 (4 : Int32) (v46 + (1 : Int32)) v44).bind fun v53 => f_X7_yearBegins_L27 n (y1 + (1 : Int32)) v53) else ((f_X7_sets y1 (4 : Int32) (v46 + (0 : Int32)) v44).bind fun v51 => f_X7_yearBegins_L27 n (y1 + (1 : Int32)) v51))))) else none
def f_X7_yearBegins (m : fm_M) : Option (fm_M) :=
  if fm_in (1 : Int32) 320 = true then (if fm_in (0 : Int32) 320 = true then (if fm_in (0 : Int32) 320 = true then (if fm_in (8 : Int32) 320 = true then (f_X7_yearBegins_L27 fm_F (0 : Int32) (fm_put (fm_put (fm_put m 24 (1 : Int32).toNatClampNeg (0 : Int32)) 24 (0 : Int32).toNatClampNeg (((fm_put m 24 (1 : Int32).toNatClampNeg (0 : Int32)) 24 (0 : Int32).toNatClampNeg) + (1 : Int32))) 24 (8 : Int32).toNatClampNeg (0 : Int32))) else none) else none) else none) else none
def f_X7_weekGoes_L52 : Nat → Int32 → Int32 → fm_M → Option (Int32 × fm_M)
  | 0, _, _, _ => none
  | n + 1, y1, y2, m => if (8 : Int32) ≤ y2 then (if fm_in (1 : Int32) 320 = true then (if fm_in (1 : Int32) 320 = true then (if fm_in (1 : Int32) 320 = true then (if ((fm_put m 24 (1 : Int32).toNatClampNeg ((m 24 (1 : Int32).toNatClampNeg) + (1 : Int32))) 24 (1 : Int32).toNatClampNeg) = (52 : Int32) then ((f_X7_yearBegins (fm_put m 24 (1 : Int32).toNatClampNeg ((m 24 (1 : Int32).toNatClampNeg) + (1 : Int32)))).bind fun v10 => some (y1, v10)) else (some (y1, (fm_put m 24 (1 : Int32).toNatClampNeg ((m 24 (1 : Int32).toNatClampNeg) + (1 : Int32)))))) else none) else none) else none) else ((f_X7_brotherIn y2 m).bind fun v12 => if 0 ≤ v12 then (f_X7_weekGoes_L52 n y1 (y2 + (1 : Int32)) m) else ((f_X7_comesIn (2 : Int32) m).bind fun v15 => f_X7_weekGoes_L52 n y1 (y2 + (1 : Int32)) v15))
def f_X7_weekGoes_L7 : Nat → Int32 → Int32 → fm_M → Option (Int32 × fm_M)
  | 0, _, _, _ => none
  | n + 1, y1, y2, m => if fm_in (2 : Int32) 320 = true then (if (m 24 (2 : Int32).toNatClampNeg) ≤ y2 then (f_X7_weekGoes_L52 fm_F y1 (0 : Int32) m) else ((f_X7_of y2 (5 : Int32) m).bind fun v17 => if v17 ≤ 0 then ((f_X7_sets y2 (5 : Int32) (0 : Int32) m).bind fun v20 => f_X7_weekGoes_L7 n y1 (y2 + (1 : Int32)) v20) else ((f_X7_of y2 (5 : Int32) m).bind fun v22 => (f_X7_sets y2 (5 : Int32) (v22 - (1 : Int32)) m).bind fun v24 => f_X7_weekGoes_L7 n y1 (y2 + (1 : Int32)) v24))) else none
def f_X7_weekGoes (m : fm_M) : Option (Int32 × fm_M) :=
  (f_X7_feastComes m).bind fun v1 => f_X7_weekGoes_L7 fm_F v1.1 (0 : Int32) v1.2
def f_X7_weeksGo_L4 : Nat → Int32 → Int32 → Int32 → fm_M → Option (Int32 × fm_M)
  | 0, _, _, _, _ => none
  | n + 1, y1, y2, y3, m => if y1 ≤ y3 then (some (y2, m)) else ((f_X7_weekGoes m).bind fun v2 => f_X7_weeksGo_L4 n y1 (y2 + v2.1) (y3 + (1 : Int32)) v2.2)
def f_X7_weeksGo (x1 : Int32) (m : fm_M) : Option (Int32 × fm_M) :=
  f_X7_weeksGo_L4 fm_F x1 (0 : Int32) (0 : Int32) m
def f_X7_weeks (x1 : Int32) (m : fm_M) : Option (Int32 × fm_M) :=
  (f_X7_isBetween x1 (1 : Int32) (60 : Int32) m).bind fun v1 => if v1 = true then ((f_X7_remembers m).bind fun v4 => (f_X7_weeksGo x1 v4).bind fun v6 => some (v6.1, v6.2)) else (some ((-12 : Int32), m))
def f_X7_wouldGet (x1 : Int32) (x2 : Int32) (m : fm_M) : Option (Int32 × fm_M) :=
  (f_X7_isBrother x1 m).bind fun v1 => if v1 = true then ((f_X7_isBetween x2 (0 : Int32) (60 : Int32) m).bind fun v4 => if v4 = true then ((f_X7_thinks m).bind fun v7 => (f_X7_of x1 (6 : Int32) v7).bind fun v9 => (f_X7_weeksGo x2 v7).bind fun v11 => (f_X7_of x1 (6 : Int32) v11.2).bind fun v13 => (f_X7_forgets v11.2).bind fun v15 => some ((v13 - v9), v15)) else (some ((-12 : Int32), m))) else (some ((-11 : Int32), m))
def f_X7_chestIn (x1 : Int32) (m : fm_M) : Option (Int32 × fm_M) :=
  (f_X7_isBetween x1 (0 : Int32) (60 : Int32) m).bind fun v1 => if v1 = true then ((f_X7_thinks m).bind fun v4 => (f_X7_weeksGo x1 v4).bind fun v6 => if fm_in (3 : Int32) 320 = true then ((f_X7_forgets v6.2).bind fun v9 => some ((v6.2 24 (3 : Int32).toNatClampNeg), v9)) else none) else (some ((-12 : Int32), m))
def f_X7_placeInLine_L4 : Nat → Int32 → Int32 → Int32 → fm_M → Option (Int32)
  | 0, _, _, _, _ => none
  | n + 1, y1, y2, y3, m => if fm_in (2 : Int32) 320 = true then (if (m 24 (2 : Int32).toNatClampNeg) ≤ y3 then (some y2) else ((f_X7_isSo y3 (0 : Int32) m).bind fun v3 => if v3 = true then ((f_X7_of y3 (8 : Int32) m).bind fun v6 => (f_X7_of y1 (8 : Int32) m).bind fun v8 => if v8 ≤ v6 then (f_X7_placeInLine_L4 n y1 (y2 + (0 : Int32)) (y3 + (1 : Int32)) m) else (f_X7_placeInLine_L4 n y1 (y2 + (1 : Int32)) (y3 + (1 : Int32)) m)) else (f_X7_placeInLine_L4 n y1 (y2 + (0 : Int32)) (y3 + (1 : Int32)) m))) else none
def f_X7_placeInLine (x1 : Int32) (m : fm_M) : Option (Int32) :=
  f_X7_placeInLine_L4 fm_F x1 (0 : Int32) (0 : Int32) m
def f_X7_brokeAll_L4 : Nat → Int32 → Int32 → Int32 → fm_M → Option (Int32)
  | 0, _, _, _, _ => none
  | n + 1, y1, y2, y3, m => if (5 : Int32) ≤ y3 then (some y2) else ((f_X7_of y1 ((9 : Int32) + y3) m).bind fun v2 => f_X7_brokeAll_L4 n y1 (y2 + v2) (y3 + (1 : Int32)) m)
def f_X7_brokeAll (x1 : Int32) (m : fm_M) : Option (Int32) :=
  f_X7_brokeAll_L4 fm_F x1 (0 : Int32) (0 : Int32) m
def f_X7_brotherOf (x1 : Int32) (x2 : Int32) (m : fm_M) : Option (Int32) :=
  (f_X7_isBrother x1 m).bind fun v1 => if v1 = true then (if x2 = (0 : Int32) then ((f_X7_of x1 x2 m).bind fun v5 => some v5) else (if x2 = (1 : Int32) then ((f_X7_of x1 x2 m).bind fun v8 => some v8) else (if x2 = (2 : Int32) then ((f_X7_of x1 x2 m).bind fun v11 => some v11) else (if x2 = (3 : Int32) then ((f_X7_isSo x1 (1 : Int32) m).bind fun v14 => if v14 = true then ((f_X7_of x1 x2 m).bind fun v17 => some v17) else (some (-15 : Int32))) else (if x2 = (4 : Int32) then ((f_X7_isSo x1 (1 : Int32) m).bind fun v20 => if v20 = true then ((f_X7_of x1 x2 m).bind fun v23 => some v23) else (some (-15 : Int32))) else (if x2 = (5 : Int32) then ((f_X7_of x1 x2 m).bind fun v26 => some v26) else (if x2 = (6 : Int32) then ((f_X7_of x1 x2 m).bind fun v29 => some v29) else (if x2 = (7 : Int32) then ((f_X7_brokeAll x1 m).bind fun v32 => some v32) else (if x2 = (8 : Int32) then ((f_X7_of x1 (7 : Int32) m).bind fun v35 => if v35 = 0 then (some (-15 : Int32)) else ((f_X7_of x1 (7 : Int32) m).bind fun v38 => some (v38 - (1 : Int32)))) else (if x2 = (9 : Int32) then ((f_X7_isSo x1 (0 : Int32) m).bind fun v41 => if v41 = true then ((f_X7_placeInLine x1 m).bind fun v44 => some v44) else (some (-15 : Int32))) else (some (-12 : Int32)))))))))))) else (some (-11 : Int32))
def f_X7_broke (x1 : Int32) (x2 : Int32) (m : fm_M) : Option (Int32) :=
  (f_X7_isBrother x1 m).bind fun v1 => if v1 = true then ((f_X7_isBetween x2 (0 : Int32) (4 : Int32) m).bind fun v4 => if v4 = true then ((f_X7_of x1 ((9 : Int32) + x2) m).bind fun v7 => some v7) else (some (-11 : Int32))) else (some (-11 : Int32))
def f_X7_inCell (x1 : Int32) (m : fm_M) : Option (Int32) :=
  (f_X7_isCell x1 m).bind fun v1 => if v1 = true then ((f_X7_brotherIn x1 m).bind fun v4 => some v4) else (some (-11 : Int32))
def f_X7_entitled_L4 : Nat → Int32 → Int32 → fm_M → Option (Int32)
  | 0, _, _, _ => none
  | n + 1, y1, y2, m => if fm_in (2 : Int32) 320 = true then (if (m 24 (2 : Int32).toNatClampNeg) ≤ y2 then (some y1) else ((f_X7_isEntitled y2 m).bind fun v3 => if v3 = true then (f_X7_entitled_L4 n (y1 ||| ((1 : Int32) <<< (y2 &&& 31))) (y2 + (1 : Int32)) m) else (f_X7_entitled_L4 n (y1 ||| (0 : Int32)) (y2 + (1 : Int32)) m))) else none
def f_X7_entitled (m : fm_M) : Option (Int32) :=
  f_X7_entitled_L4 fm_F (0 : Int32) (0 : Int32) m
def f_X7_entitledAgain_L4 : Nat → Int32 → Int32 → fm_M → Option (Int32)
  | 0, _, _, _ => none
  | n + 1, y1, y2, m => if (8 : Int32) ≤ y2 then (some y1) else ((f_X7_brotherIn y2 m).bind fun v2 => if v2 < 0 then (f_X7_entitledAgain_L4 n (y1 ||| (0 : Int32)) (y2 + (1 : Int32)) m) else ((f_X7_of v2 (5 : Int32) m).bind fun v5 => if v5 = 0 then (f_X7_entitledAgain_L4 n (y1 ||| ((1 : Int32) <<< (v2 &&& 31))) (y2 + (1 : Int32)) m) else (f_X7_entitledAgain_L4 n (y1 ||| (0 : Int32)) (y2 + (1 : Int32)) m)))
def f_X7_entitledAgain (m : fm_M) : Option (Int32) :=
  f_X7_entitledAgain_L4 fm_F (0 : Int32) (0 : Int32) m
def f_X7_voices (x1 : Int32) (m : fm_M) : Option (Int32) :=
  (f_X7_isBrother x1 m).bind fun v1 => if v1 = true then ((f_X7_voicesFor x1 m).bind fun v4 => some v4) else (some (-11 : Int32))
def f_X7_voicesAgain_L34 : Nat → Int32 → Int32 → fm_M → Option (Int32 × fm_M)
  | 0, _, _, _ => none
  | n + 1, y1, y2, m => if fm_in (2 : Int32) 320 = true then (if (m 24 (2 : Int32).toNatClampNeg) ≤ y2 then (if fm_in y1 16 = true then (some ((m 28 y1.toNatClampNeg), m)) else none) else ((f_X7_of y2 (7 : Int32) m).bind fun v8 => if (v8 - (1 : Int32)) < 0 then (f_X7_voicesAgain_L34 n y1 (y2 + (1 : Int32)) m) else (if fm_in (v8 - (1 : Int32)) 16 = true then ((f_X7_countsFor (v8 - (1 : Int32)) m).bind fun v12 => if fm_in (v8 - (1 : Int32)) 16 = true then (f_X7_voicesAgain_L34 n y1 (y2 + (1 : Int32)) (fm_put m 28 (v8 - (1 : Int32)).toNatClampNeg ((m 28 (v8 - (1 : Int32)).toNatClampNeg) + v12))) else none) else none))) else none
def f_X7_voicesAgain_L13 : Nat → Int32 → Int32 → fm_M → Option (Int32 × fm_M)
  | 0, _, _, _ => none
  | n + 1, y1, y2, m => if (16 : Int32) ≤ y2 then (f_X7_voicesAgain_L34 fm_F y1 (0 : Int32) m) else (if fm_in y2 16 = true then (f_X7_voicesAgain_L13 n y1 (y2 + (1 : Int32)) (fm_put m 28 y2.toNatClampNeg (0 : Int32))) else none)
def f_X7_voicesAgain (x1 : Int32) (m : fm_M) : Option (Int32 × fm_M) :=
  (f_X7_isBrother x1 m).bind fun v1 => if v1 = true then (f_X7_voicesAgain_L13 fm_F x1 (0 : Int32) m) else (some ((-11 : Int32), m))
def f_X7_ranked (x1 : Int32) (m : fm_M) : Option (Int32) :=
  (f_X7_rankedAt x1 m).bind fun v1 => some v1
def f_X7_senior_L29 : Nat → Int32 → Int32 → Int32 → Int32 → fm_M → Option (Int32)
  | 0, _, _, _, _, _ => none
  | n + 1, y1, y2, y3, y4, m => if fm_in (2 : Int32) 320 = true then (if (m 24 (2 : Int32).toNatClampNeg) ≤ y4 then (some y3) else ((f_X7_isSo y4 (1 : Int32) m).bind fun v8 => if v8 = true then ((f_X7_isSeniorTo y4 y2 m).bind fun v11 => if v11 = true then (f_X7_senior_L29 n y1 y2 (y3 + (1 : Int32)) (y4 + (1 : Int32)) m) else (f_X7_senior_L29 n y1 y2 (y3 + (0 : Int32)) (y4 + (1 : Int32)) m)) else (f_X7_senior_L29 n y1 y2 (y3 + (0 : Int32)) (y4 + (1 : Int32)) m))) else none
def f_X7_senior_L2 : Nat → Int32 → Int32 → fm_M → Option (Int32)
  | 0, _, _, _ => none
  | n + 1, y1, y2, m => if fm_in (2 : Int32) 320 = true then (if (m 24 (2 : Int32).toNatClampNeg) ≤ y2 then (some (-11 : Int32)) else ((f_X7_isSo y2 (1 : Int32) m).bind fun v3 => if v3 = true then ((f_X7_senior_L29 fm_F y1 y2 (0 : Int32) (0 : Int32) m).bind fun e14 => if e14 = y1 then (some y2) else (f_X7_senior_L2 n y1 (y2 + (1 : Int32)) m)) else (f_X7_senior_L2 n y1 (y2 + (1 : Int32)) m))) else none
def f_X7_senior (x1 : Int32) (m : fm_M) : Option (Int32) :=
  f_X7_senior_L2 fm_F x1 (0 : Int32) m
def f_X7_shabby (x1 : Int32) (m : fm_M) : Option (Int32) :=
  (f_X7_shabbyAt x1 m).bind fun v1 => some v1
def f_X7_nextFeast_L2 : Nat → Int32 → fm_M → Option (Int32)
  | 0, _, _ => none
  | n + 1, y1, m => if (52 : Int32) ≤ y1 then (some (-15 : Int32)) else (if fm_in (1 : Int32) 320 = true then (if fm_in ((12 : Int32) + (((m 24 (1 : Int32).toNatClampNeg) + y1) - ((m 24 (1 : Int32).toNatClampNeg) + y1) / (52 : Int32) * (52 : Int32))) 320 = true then (if (m 24 ((12 : Int32) + (((m 24 (1 : Int32).toNatClampNeg) + y1) - ((m 24 (1 : Int32).toNatClampNeg) + y1) / (52 : Int32) * (52 : Int32))).toNatClampNeg) ≤ 0 then (f_X7_nextFeast_L2 n (y1 + (1 : Int32)) m) else (some y1)) else none) else none)
def f_X7_nextFeast (m : fm_M) : Option (Int32) :=
  f_X7_nextFeast_L2 fm_F (0 : Int32) m
def f_X7_append (x1 : Int32) (m : fm_M) : Option (Int32 × fm_M) :=
  (f_X7_isBetween x1 (32 : Int32) (126 : Int32) m).bind fun v1 => if v1 = true then (if (m 23 13) = (60 : Int32) then (some ((-13 : Int32), m)) else (if fm_in (m 23 13) 60 = true then (some (((fm_put (fm_put m 29 (m 23 13).toNatClampNeg (vp_nar .char (((x1).toUInt32 % 65536).toInt32))) 23 13 (((fm_put m 29 (m 23 13).toNatClampNeg (vp_nar .char (((x1).toUInt32 % 65536).toInt32))) 23 13) + (1 : Int32))) 23 13), (fm_put (fm_put m 29 (m 23 13).toNatClampNeg (vp_nar .char (((x1).toUInt32 % 65536).toInt32))) 23 13 (((fm_put m 29 (m 23 13).toNatClampNeg (vp_nar .char (((x1).toUInt32 % 65536).toInt32))) 23 13) + (1 : Int32))))) else none)) else (some ((-12 : Int32), m))
def f_X7_sign (m : fm_M) : Option (Int32) :=
  if (m 23 13) ≤ (m 23 14) then (some (-1 : Int32)) else (if fm_in (m 23 14) 60 = true then (some (m 29 (m 23 14).toNatClampNeg)) else none)
def f_X7_reads (x1 : Int32) (m : fm_M) : Option (Bool × fm_M) :=
  (f_X7_sign m).bind fun v1 => if v1 = x1 then (some (true, (fm_put m 23 14 ((m 23 14) + (1 : Int32))))) else (some (false, m))
def f_X7_readsNumber_L34 : Nat → Int32 → Int32 → Int32 → fm_M → Option (Bool × fm_M)
  | 0, _, _, _, _ => none
  | n + 1, y1, y2, y3, m => if y2 ≤ y3 then (some (true, m)) else ((f_X7_sign m).bind fun v11 => (f_X7_isBetween v11 (48 : Int32) (57 : Int32) m).bind fun v13 => if v13 = true then (if fm_in y1 2 = true then ((f_X7_sign m).bind fun v17 => if fm_in y1 2 = true then (f_X7_readsNumber_L34 n y1 y2 (y3 + (1 : Int32)) (fm_put (fm_put m 30 y1.toNatClampNeg ((((10 : Int32) * (m 30 y1.toNatClampNeg)) + v17) - (48 : Int32))) 23 14 (((fm_put m 30 y1.toNatClampNeg ((((10 : Int32) * (m 30 y1.toNatClampNeg)) + v17) - (48 : Int32))) 23 14) + (1 : Int32)))) else none) else none) else (some (true, m)))
def f_X7_readsNumber (x1 : Int32) (x2 : Int32) (m : fm_M) : Option (Bool × fm_M) :=
  (f_X7_reads (32 : Int32) m).bind fun v1 => if v1.1 = true then ((f_X7_sign v1.2).bind fun v4 => (f_X7_isBetween v4 (48 : Int32) (57 : Int32) v1.2).bind fun v6 => if v6 = true then (if fm_in x1 2 = true then (f_X7_readsNumber_L34 fm_F x1 x2 (0 : Int32) (fm_put v1.2 30 x1.toNatClampNeg (0 : Int32))) else none) else (some (false, v1.2))) else (some (false, v1.2))
def f_X7_readsTwo (x1 : Int32) (x2 : Int32) (x3 : Int32) (m : fm_M) : Option (Bool × fm_M) :=
  (f_X7_readsNumber (0 : Int32) x2 (fm_put m 23 16 x1)).bind fun v1 => if v1.1 = true then (if x3 = 0 then (some (true, v1.2)) else ((f_X7_readsNumber (1 : Int32) x3 v1.2).bind fun v5 => if v5.1 = true then (some (true, v5.2)) else (some (false, v5.2)))) else (some (false, v1.2))
def f_X7_readsOrder (m : fm_M) : Option (Bool × fm_M) :=
  (f_X7_reads (118 : Int32) m).bind fun v1 => if v1.1 = true then ((f_X7_reads (111 : Int32) v1.2).bind fun v136 => if v136.1 = true then ((f_X7_reads (105 : Int32) v136.2).bind fun v139 => if v139.1 = true then ((f_X7_reads (99 : Int32) v139.2).bind fun v142 => if v142.1 = true then ((f_X7_reads (101 : Int32) v142.2).bind fun v145 => if v145.1 = true then ((f_X7_readsTwo (0 : Int32) (2 : Int32) (2 : Int32) v145.2).bind fun v148 => if v148.1 = true then (some (true, v148.2)) else (some (false, v148.2))) else (some (false, v145.2))) else (some (false, v142.2))) else (some (false, v139.2))) else (some (false, v136.2))) else ((f_X7_reads (99 : Int32) v1.2).bind fun v4 => if v4.1 = true then ((f_X7_reads (104 : Int32) v4.2).bind fun v118 => if v118.1 = true then ((f_X7_reads (111 : Int32) v118.2).bind fun v121 => if v121.1 = true then ((f_X7_reads (111 : Int32) v121.2).bind fun v124 => if v124.1 = true then ((f_X7_reads (115 : Int32) v124.2).bind fun v127 => if v127.1 = true then ((f_X7_reads (101 : Int32) v127.2).bind fun v130 => if v130.1 = true then ((f_X7_readsTwo (1 : Int32) (1 : Int32) (0 : Int32) v130.2).bind fun v133 => if v133.1 = true then (some (true, v133.2)) else (some (false, v133.2))) else (some (false, v130.2))) else (some (false, v127.2))) else (some (false, v124.2))) else (some (false, v121.2))) else (some (false, v118.2))) else ((f_X7_reads (108 : Int32) v4.2).bind fun v7 => if v7.1 = true then ((f_X7_reads (101 : Int32) v7.2).bind fun v103 => if v103.1 = true then ((f_X7_reads (97 : Int32) v103.2).bind fun v106 => if v106.1 = true then ((f_X7_reads (118 : Int32) v106.2).bind fun v109 => if v109.1 = true then ((f_X7_reads (101 : Int32) v109.2).bind fun v112 => if v112.1 = true then ((f_X7_readsTwo (2 : Int32) (1 : Int32) (0 : Int32) v112.2).bind fun v115 => if v115.1 = true then (some (true, v115.2)) else (some (false, v115.2))) else (some (false, v112.2))) else (some (false, v109.2))) else (some (false, v106.2))) else (some (false, v103.2))) else ((f_X7_reads (98 : Int32) v7.2).bind fun v10 => if v10.1 = true then ((f_X7_reads (114 : Int32) v10.2).bind fun v85 => if v85.1 = true then ((f_X7_reads (101 : Int32) v85.2).bind fun v88 => if v88.1 = true then ((f_X7_reads (97 : Int32) v88.2).bind fun v91 => if v91.1 = true then ((f_X7_reads (99 : Int32) v91.2).bind fun v94 => if v94.1 = true then ((f_X7_reads (104 : Int32) v94.2).bind fun v97 => if v97.1 = true then ((f_X7_readsTwo (3 : Int32) (2 : Int32) (1 : Int32) v97.2).bind fun v100 => if v100.1 = true then (some (true, v100.2)) else (some (false, v100.2))) else (some (false, v97.2))) else (some (false, v94.2))) else (some (false, v91.2))) else (some (false, v88.2))) else (some (false, v85.2))) else ((f_X7_reads (112 : Int32) v10.2).bind fun v13 => if v13.1 = true then ((f_X7_reads (97 : Int32) v13.2).bind fun v67 => if v67.1 = true then ((f_X7_reads (114 : Int32) v67.2).bind fun v70 => if v70.1 = true then ((f_X7_reads (100 : Int32) v70.2).bind fun v73 => if v73.1 = true then ((f_X7_reads (111 : Int32) v73.2).bind fun v76 => if v76.1 = true then ((f_X7_reads (110 : Int32) v76.2).bind fun v79 => if v79.1 = true then ((f_X7_readsTwo (4 : Int32) (2 : Int32) (0 : Int32) v79.2).bind fun v82 => if v82.1 = true then (some (true, v82.2)) else (some (false, v82.2))) else (some (false, v79.2))) else (some (false, v76.2))) else (some (false, v73.2))) else (some (false, v70.2))) else (some (false, v67.2))) else ((f_X7_reads (102 : Int32) v13.2).bind fun v16 => if v16.1 = true then ((f_X7_reads (101 : Int32) v16.2).bind fun v52 => if v52.1 = true then ((f_X7_reads (97 : Int32) v52.2).bind fun v55 => if v55.1 = true then ((f_X7_reads (115 : Int32) v55.2).bind fun v58 => if v58.1 = true then ((f_X7_reads (116 : Int32) v58.2).bind fun v61 => if v61.1 = true then ((f_X7_readsTwo (5 : Int32) (2 : Int32) (1 : Int32) v61.2).bind fun v64 => if v64.1 = true then (some (true, v64.2)) else (some (false, v64.2))) else (some (false, v61.2))) else (some (false, v58.2))) else (some (false, v55.2))) else (some (false, v52.2))) else ((f_X7_reads (103 : Int32) v16.2).bind fun v19 => if v19.1 = true then ((f_X7_reads (105 : Int32) v19.2).bind fun v40 => if v40.1 = true then ((f_X7_reads (102 : Int32) v40.2).bind fun v43 => if v43.1 = true then ((f_X7_reads (116 : Int32) v43.2).bind fun v46 => if v46.1 = true then ((f_X7_readsTwo (6 : Int32) (3 : Int32) (0 : Int32) v46.2).bind fun v49 => if v49.1 = true then (some (true, v49.2)) else (some (false, v49.2))) else (some (false, v46.2))) else (some (false, v43.2))) else (some (false, v40.2))) else ((f_X7_reads (119 : Int32) v19.2).bind fun v22 => if v22.1 = true then ((f_X7_reads (101 : Int32) v22.2).bind fun v25 => if v25.1 = true then ((f_X7_reads (101 : Int32) v25.2).bind fun v28 => if v28.1 = true then ((f_X7_reads (107 : Int32) v28.2).bind fun v31 => if v31.1 = true then ((f_X7_reads (115 : Int32) v31.2).bind fun v34 => if v34.1 = true then ((f_X7_readsTwo (7 : Int32) (2 : Int32) (0 : Int32) v34.2).bind fun v37 => if v37.1 = true then (some (true, v37.2)) else (some (false, v37.2))) else (some (false, v34.2))) else (some (false, v31.2))) else (some (false, v28.2))) else (some (false, v25.2))) else (some (false, v22.2)))))))))
def f_X7_readsAll_L7 : Nat → Int32 → fm_M → Option (Bool × fm_M)
  | 0, _, _ => none
  | n + 1, y1, m => if y1 = 0 then (if (m 23 14) = (m 23 13) then (some (true, m)) else (some (false, m))) else ((f_X7_readsOrder m).bind fun v3 => if v3.1 = true then ((f_X7_reads (59 : Int32) v3.2).bind fun v6 => f_X7_readsAll_L7 n (fm_b v6.1) v6.2) else (some (false, v3.2)))
def f_X7_readsAll (m : fm_M) : Option (Bool × fm_M) :=
  f_X7_readsAll_L7 fm_F (1 : Int32) (fm_put m 23 14 (0 : Int32))
def f_X7_notNow (m : fm_M) : Option (Int32 × fm_M) :=
  if fm_in (0 : Int32) 2 = true then (if fm_in (1 : Int32) 2 = true then (if (m 23 16) = (0 : Int32) then ((f_X7_notVoice (m 30 (0 : Int32).toNatClampNeg) (m 30 (1 : Int32).toNatClampNeg) m).bind fun v4 => some (v4.1, v4.2)) else (if (m 23 16) = (1 : Int32) then ((f_X7_notChoose (m 30 (0 : Int32).toNatClampNeg) m).bind fun v7 => some (v7.1, v7.2)) else (if (m 23 16) = (2 : Int32) then ((f_X7_notLeave (m 30 (0 : Int32).toNatClampNeg) m).bind fun v10 => some (v10.1, v10.2)) else (if (m 23 16) = (3 : Int32) then ((f_X7_notBreach (m 30 (0 : Int32).toNatClampNeg) (m 30 (1 : Int32).toNatClampNeg) m).bind fun v13 => some (v13.1, v13.2)) else (if (m 23 16) = (4 : Int32) then ((f_X7_notPardon (m 30 (0 : Int32).toNatClampNeg) m).bind fun v16 => some (v16.1, v16.2)) else (if (m 23 16) = (5 : Int32) then ((f_X7_notFeast (m 30 (0 : Int32).toNatClampNeg) (m 30 (1 : Int32).toNatClampNeg) m).bind fun v19 => some (v19.1, v19.2)) else (if (m 23 16) = (6 : Int32) then ((f_X7_isBetween (m 30 (0 : Int32).toNatClampNeg) (1 : Int32) (500 : Int32) m).bind fun v22 => if v22 = true then (some ((0 : Int32), m)) else (some ((-12 : Int32), m))) else ((f_X7_isBetween (m 30 (0 : Int32).toNatClampNeg) (1 : Int32) (60 : Int32) m).bind fun v25 => if v25 = true then (some ((0 : Int32), m)) else (some ((-12 : Int32), m)))))))))) else none) else none
def f_X7_doesNow (m : fm_M) : Option (Int32 × fm_M) :=
  if fm_in (0 : Int32) 2 = true then (if fm_in (1 : Int32) 2 = true then (if (m 23 16) = (0 : Int32) then ((f_X7_gives (m 30 (0 : Int32).toNatClampNeg) (m 30 (1 : Int32).toNatClampNeg) m).bind fun v4 => some (v4.1, v4.2)) else (if (m 23 16) = (1 : Int32) then ((f_X7_chooses (m 30 (0 : Int32).toNatClampNeg) m).bind fun v7 => some (v7.1, v7.2)) else (if (m 23 16) = (2 : Int32) then ((f_X7_leaves (m 30 (0 : Int32).toNatClampNeg) m).bind fun v10 => some (v10.1, v10.2)) else (if (m 23 16) = (3 : Int32) then ((f_X7_breaks (m 30 (0 : Int32).toNatClampNeg) (m 30 (1 : Int32).toNatClampNeg) m).bind fun v13 => some (v13.1, v13.2)) else (if (m 23 16) = (4 : Int32) then ((f_X7_pardons (m 30 (0 : Int32).toNatClampNeg) m).bind fun v16 => some (v16.1, v16.2)) else (if (m 23 16) = (5 : Int32) then ((f_X7_tells (m 30 (0 : Int32).toNatClampNeg) (m 30 (1 : Int32).toNatClampNeg) m).bind fun v19 => some (v19.1, v19.2)) else (if (m 23 16) = (6 : Int32) then ((f_X7_puts (m 30 (0 : Int32).toNatClampNeg) m).bind fun v22 => some (v22.1, v22.2)) else ((f_X7_weeksGo (m 30 (0 : Int32).toNatClampNeg) m).bind fun v24 => some (v24.1, v24.2))))))))) else none) else none
def f_X7_doesAll_L12 : Nat → Int32 → fm_M → Option (Bool × fm_M)
  | 0, _, _ => none
  | n + 1, y1, m => if y1 = 0 then (some (true, m)) else ((f_X7_readsOrder m).bind fun v2 => if v2.1 = true then ((f_X7_notNow v2.2).bind fun v5 => if v5.1 = 0 then ((f_X7_doesNow v5.2).bind fun v8 => (f_X7_reads (59 : Int32) (fm_put v8.2 23 17 ((v8.2 23 17) + (1 : Int32)))).bind fun v10 => f_X7_doesAll_L12 n (fm_b v10.1) v10.2) else (some (false, v5.2))) else (some (false, v2.2)))
def f_X7_doesAll (m : fm_M) : Option (Bool × fm_M) :=
  f_X7_doesAll_L12 fm_F (1 : Int32) (fm_put (fm_put m 23 17 (0 : Int32)) 23 14 (0 : Int32))
def f_X7_run (m : fm_M) : Option (Int32 × fm_M) :=
  (f_X7_readsAll m).bind fun v1 => if v1.1 = true then ((f_X7_thinks v1.2).bind fun v4 => (f_X7_doesAll v4).bind fun v6 => if v6.1 = true then ((f_X7_keepsMind (fm_put v6.2 23 13 (0 : Int32))).bind fun v15 => some ((v15 23 17), v15)) else ((f_X7_forgets (fm_put v6.2 23 13 (0 : Int32))).bind fun v9 => (f_X7_isNot (11 : Int32) (v9 23 17) v9).bind fun v11 => (f_X7_refuses v11.1 v11.2).bind fun v13 => some (v13.1, v13.2))) else (some (((-1000 : Int32) - ((fm_put v1.2 23 13 (0 : Int32)) 23 14)), (fm_put v1.2 23 13 (0 : Int32))))
def f_X7_writes (x1 : Int32) (m : fm_M) : Option (fm_M) :=
  if fm_in (m 23 19) 160 = true then (some (fm_put (fm_put m 31 (m 23 19).toNatClampNeg (vp_nar .char (((x1).toUInt32 % 65536).toInt32))) 23 19 (((fm_put m 31 (m 23 19).toNatClampNeg (vp_nar .char (((x1).toUInt32 % 65536).toInt32))) 23 19) + (1 : Int32)))) else none
def f_X7_writesNumber (x1 : Int32) (m : fm_M) : Option (fm_M) :=
  if x1 ≤ (9 : Int32) then ((f_X7_writes ((48 : Int32) + (x1 - x1 / (10 : Int32) * (10 : Int32))) m).bind fun v2 => some v2) else ((f_X7_writes ((48 : Int32) + (x1 / (10 : Int32))) m).bind fun v4 => (f_X7_writes ((48 : Int32) + (x1 - x1 / (10 : Int32) * (10 : Int32))) v4).bind fun v6 => some v6)
def f_X7_writesCell (x1 : Int32) (m : fm_M) : Option (fm_M) :=
  (f_X7_brotherIn x1 m).bind fun v1 => if 0 ≤ v1 then ((f_X7_writesNumber v1 m).bind fun v4 => (f_X7_of v1 (5 : Int32) v4).bind fun v6 => if v6 ≤ 0 then ((f_X7_of v1 (4 : Int32) v4).bind fun v9 => if v9 < (2 : Int32) then (some v4) else ((f_X7_writes (42 : Int32) v4).bind fun v12 => some v12)) else ((f_X7_writes (33 : Int32) v4).bind fun v14 => (f_X7_of v1 (4 : Int32) v14).bind fun v16 => if v16 < (2 : Int32) then (some v14) else ((f_X7_writes (42 : Int32) v14).bind fun v19 => some v19))) else ((f_X7_writes (45 : Int32) m).bind fun v21 => some v21)
def f_X7_tell_L7 : Nat → Int32 → fm_M → Option (Int32 × fm_M)
  | 0, _, _ => none
  | n + 1, y1, m => if (8 : Int32) ≤ y1 then (some ((m 23 19), m)) else (if y1 ≤ 0 then ((f_X7_writesCell y1 m).bind fun v3 => f_X7_tell_L7 n (y1 + (1 : Int32)) v3) else ((f_X7_writes (32 : Int32) m).bind fun v5 => (f_X7_writesCell y1 v5).bind fun v7 => f_X7_tell_L7 n (y1 + (1 : Int32)) v7))
def f_X7_tell (m : fm_M) : Option (Int32 × fm_M) :=
  f_X7_tell_L7 fm_F (0 : Int32) (fm_put m 23 19 (0 : Int32))
def f_X7_inLine_L2 : Nat → Int32 → Int32 → fm_M → Option (Int32)
  | 0, _, _, _ => none
  | n + 1, y1, y2, m => if fm_in (2 : Int32) 320 = true then (if (m 24 (2 : Int32).toNatClampNeg) ≤ y2 then (some (-11 : Int32)) else ((f_X7_isSo y2 (0 : Int32) m).bind fun v3 => if v3 = true then ((f_X7_placeInLine y2 m).bind fun v6 => if v6 = y1 then (some y2) else (f_X7_inLine_L2 n y1 (y2 + (1 : Int32)) m)) else (f_X7_inLine_L2 n y1 (y2 + (1 : Int32)) m))) else none
def f_X7_inLine (x1 : Int32) (m : fm_M) : Option (Int32) :=
  f_X7_inLine_L2 fm_F x1 (0 : Int32) m
def f_X7_tellWaiting_L7 : Nat → Int32 → fm_M → Option (Int32 × fm_M)
  | 0, _, _ => none
  | n + 1, y1, m => (f_X7_brethrenThat (0 : Int32) m).bind fun v1 => if v1 ≤ y1 then (some ((m 23 19), m)) else ((f_X7_inLine y1 m).bind fun v4 => if y1 ≤ 0 then ((f_X7_writesNumber v4 m).bind fun v7 => (f_X7_of v4 (1 : Int32) v7).bind fun v9 => if v9 = (1 : Int32) then ((f_X7_writes (107 : Int32) v7).bind fun v18 => (f_X7_writes (58 : Int32) v18).bind fun v20 => (f_X7_voicesFor v4 v20).bind fun v22 => (f_X7_writesNumber v22 v20).bind fun v24 => f_X7_tellWaiting_L7 n (y1 + (1 : Int32)) v24) else ((f_X7_writes (58 : Int32) v7).bind fun v12 => (f_X7_voicesFor v4 v12).bind fun v14 => (f_X7_writesNumber v14 v12).bind fun v16 => f_X7_tellWaiting_L7 n (y1 + (1 : Int32)) v16)) else ((f_X7_writes (44 : Int32) m).bind fun v26 => (f_X7_writesNumber v4 v26).bind fun v28 => (f_X7_of v4 (1 : Int32) v28).bind fun v30 => if v30 = (1 : Int32) then ((f_X7_writes (107 : Int32) v28).bind fun v39 => (f_X7_writes (58 : Int32) v39).bind fun v41 => (f_X7_voicesFor v4 v41).bind fun v43 => (f_X7_writesNumber v43 v41).bind fun v45 => f_X7_tellWaiting_L7 n (y1 + (1 : Int32)) v45) else ((f_X7_writes (58 : Int32) v28).bind fun v33 => (f_X7_voicesFor v4 v33).bind fun v35 => (f_X7_writesNumber v35 v33).bind fun v37 => f_X7_tellWaiting_L7 n (y1 + (1 : Int32)) v37)))
def f_X7_tellWaiting (m : fm_M) : Option (Int32 × fm_M) :=
  f_X7_tellWaiting_L7 fm_F (0 : Int32) (fm_put m 23 19 (0 : Int32))
def f_X7_character (x1 : Int32) (m : fm_M) : Option (Int32) :=
  (f_X7_isBetween x1 (0 : Int32) ((m 23 19) - (1 : Int32)) m).bind fun v1 => if v1 = true then (if fm_in x1 160 = true then (some (m 31 x1.toNatClampNeg)) else none) else (some (-11 : Int32))
def f_X7_banned_L4 : Nat → Int32 → Int32 → fm_M → Option (Int32)
  | 0, _, _, _ => none
  | n + 1, y1, y2, m => if fm_in (2 : Int32) 320 = true then (if (m 24 (2 : Int32).toNatClampNeg) ≤ y2 then (some y1) else ((f_X7_of y2 (5 : Int32) m).bind fun v3 => if v3 ≤ 0 then (f_X7_banned_L4 n (y1 + (0 : Int32)) (y2 + (1 : Int32)) m) else (f_X7_banned_L4 n (y1 + (1 : Int32)) (y2 + (1 : Int32)) m))) else none
def f_X7_banned (m : fm_M) : Option (Int32) :=
  f_X7_banned_L4 fm_F (0 : Int32) (0 : Int32) m
def f_X7_gotAll_L4 : Nat → Int32 → Int32 → fm_M → Option (Int32)
  | 0, _, _, _ => none
  | n + 1, y1, y2, m => if fm_in (2 : Int32) 320 = true then (if (m 24 (2 : Int32).toNatClampNeg) ≤ y2 then (some y1) else ((f_X7_of y2 (6 : Int32) m).bind fun v3 => f_X7_gotAll_L4 n (y1 + v3) (y2 + (1 : Int32)) m)) else none
def f_X7_gotAll (m : fm_M) : Option (Int32) :=
  f_X7_gotAll_L4 fm_F (0 : Int32) (0 : Int32) m
def f_X7_account (x1 : Int32) (m : fm_M) : Option (Int32) :=
  if x1 = (0 : Int32) then (if fm_in x1 320 = true then (some (m 24 x1.toNatClampNeg)) else none) else (if x1 = (1 : Int32) then (if fm_in x1 320 = true then (some (m 24 x1.toNatClampNeg)) else none) else (if x1 = (2 : Int32) then (if fm_in x1 320 = true then (some (m 24 x1.toNatClampNeg)) else none) else (if x1 = (3 : Int32) then ((f_X7_brethrenThat (x1 - (3 : Int32)) m).bind fun v8 => some v8) else (if x1 = (4 : Int32) then ((f_X7_brethrenThat (x1 - (3 : Int32)) m).bind fun v11 => some v11) else (if x1 = (5 : Int32) then ((f_X7_brethrenThat (x1 - (3 : Int32)) m).bind fun v14 => some v14) else (if x1 = (6 : Int32) then ((f_X7_brethrenThat (x1 - (3 : Int32)) m).bind fun v17 => some v17) else (if x1 = (7 : Int32) then ((f_X7_banned m).bind fun v20 => some v20) else (if x1 = (8 : Int32) then (if fm_in (9 : Int32) 320 = true then (some (m 24 (9 : Int32).toNatClampNeg)) else none) else (if x1 = (9 : Int32) then (if fm_in (x1 - (6 : Int32)) 320 = true then (some (m 24 (x1 - (6 : Int32)).toNatClampNeg)) else none) else (if x1 = (10 : Int32) then (if fm_in (x1 - (6 : Int32)) 320 = true then (some (m 24 (x1 - (6 : Int32)).toNatClampNeg)) else none) else (if x1 = (11 : Int32) then (if fm_in (x1 - (6 : Int32)) 320 = true then (some (m 24 (x1 - (6 : Int32)).toNatClampNeg)) else none) else (if x1 = (12 : Int32) then (if fm_in (x1 - (6 : Int32)) 320 = true then (some (m 24 (x1 - (6 : Int32)).toNatClampNeg)) else none) else (if x1 = (13 : Int32) then (if fm_in (x1 - (6 : Int32)) 320 = true then (some (m 24 (x1 - (6 : Int32)).toNatClampNeg)) else none) else (if x1 = (14 : Int32) then (if fm_in (x1 - (6 : Int32)) 320 = true then (some (m 24 (x1 - (6 : Int32)).toNatClampNeg)) else none) else (if x1 = (15 : Int32) then (some (m 23 13)) else (if x1 = (16 : Int32) then (some (m 23 8)) else (some (-12 : Int32))))))))))))))))))
def f_X7_isBalanced_L56 : Nat → Int32 → Int32 → Int32 → fm_M → Option (Int32)
  | 0, _, _, _, _ => none
  | n + 1, y1, y2, y3, m => if (8 : Int32) ≤ y3 then (if y1 = 0 then (some (0 : Int32)) else ((f_X7_brethrenThat (1 : Int32) m).bind fun v8 => if y2 = v8 then (some (1 : Int32)) else (some (0 : Int32)))) else ((f_X7_brotherIn y3 m).bind fun v11 => if v11 < 0 then (f_X7_isBalanced_L56 n y1 (y2 + (0 : Int32)) (y3 + (1 : Int32)) m) else (f_X7_isBalanced_L56 n y1 (y2 + (1 : Int32)) (y3 + (1 : Int32)) m))
def f_X7_isBalanced (m : fm_M) : Option (Int32) :=
  if fm_in (3 : Int32) 320 = true then (if fm_in (4 : Int32) 320 = true then (if fm_in (5 : Int32) 320 = true then (if fm_in (6 : Int32) 320 = true then (if (m 24 (3 : Int32).toNatClampNeg) = ((((100 : Int32) + (m 24 (4 : Int32).toNatClampNeg)) - (m 24 (5 : Int32).toNatClampNeg)) - (m 24 (6 : Int32).toNatClampNeg)) then (if fm_in (5 : Int32) 320 = true then ((f_X7_gotAll m).bind fun v15 => if (m 24 (5 : Int32).toNatClampNeg) = v15 then (f_X7_isBalanced_L56 fm_F (1 : Int32) (0 : Int32) (0 : Int32) m) else (f_X7_isBalanced_L56 fm_F (0 : Int32) (0 : Int32) (0 : Int32) m)) else none) else (f_X7_isBalanced_L56 fm_F (0 : Int32) (0 : Int32) (0 : Int32) m)) else none) else none) else none) else none
def f_X7_meanAge_L10 : Nat → Int32 → Int32 → Int32 → fm_M → Option (UInt64)
  | 0, _, _, _, _ => none
  | n + 1, y1, y2, y3, m => if fm_in (2 : Int32) 320 = true then (if (m 24 (2 : Int32).toNatClampNeg) ≤ y3 then (if y1 = 0 then (some FP.dconst0) else (some (FP.ddiv (FP.i2d y2) (FP.i2d y1)))) else ((f_X7_isSo y3 (1 : Int32) m).bind fun v8 => if v8 = true then ((f_X7_of y3 (0 : Int32) m).bind fun v11 => f_X7_meanAge_L10 n y1 (y2 + v11) (y3 + (1 : Int32)) m) else (f_X7_meanAge_L10 n y1 (y2 + (0 : Int32)) (y3 + (1 : Int32)) m))) else none
def f_X7_meanAge (m : fm_M) : Option (UInt64) :=
  (f_X7_brethrenThat (1 : Int32) m).bind fun v1 => f_X7_meanAge_L10 fm_F v1 (0 : Int32) (0 : Int32) m
def f_X7_entitledShare (m : fm_M) : Option (UInt32) :=
  (f_X7_brethrenThat (1 : Int32) m).bind fun v1 => if v1 = 0 then (some FP.fconst0) else ((f_X7_entitledMany m).bind fun v4 => some (FP.fdiv (FP.i2f v4) (FP.i2f v1)))
def f_X7_undo_L35 : Nat → Int32 → Int32 → fm_M → Option (Int32 × fm_M)
  | 0, _, _, _ => none
  | n + 1, y1, y2, m => if (320 : Int32) ≤ y2 then (some ((m 23 8), m)) else (if fm_in (((320 : Int32) * y1) + y2) 2560 = true then (if fm_in y2 320 = true then (f_X7_undo_L35 n y1 (y2 + (1 : Int32)) (fm_put m 24 y2.toNatClampNeg (m 25 (((320 : Int32) * y1) + y2).toNatClampNeg))) else none) else none)
def f_X7_undo (m : fm_M) : Option (Int32 × fm_M) :=
  if (m 23 8) = 0 then (some ((-15 : Int32), m)) else (f_X7_undo_L35 fm_F ((((fm_put m 23 8 ((m 23 8) - (1 : Int32))) 23 9) + ((fm_put m 23 8 ((m 23 8) - (1 : Int32))) 23 8)) - (((fm_put m 23 8 ((m 23 8) - (1 : Int32))) 23 9) + ((fm_put m 23 8 ((m 23 8) - (1 : Int32))) 23 8)) / (8 : Int32) * (8 : Int32)) (0 : Int32) (fm_put m 23 8 ((m 23 8) - (1 : Int32))))
def f_X7_save_L2 : Nat → Int32 → fm_M → Option (Int32 × fm_M)
  | 0, _, _ => none
  | n + 1, y1, m => if (320 : Int32) ≤ y1 then (if fm_in (2 : Int32) 320 = true then (some (((fm_put m 23 10 (1 : Int32)) 24 (2 : Int32).toNatClampNeg), (fm_put m 23 10 (1 : Int32)))) else none) else (if fm_in y1 320 = true then (if fm_in y1 320 = true then (f_X7_save_L2 n (y1 + (1 : Int32)) (fm_put m 26 y1.toNatClampNeg (m 24 y1.toNatClampNeg))) else none) else none)
def f_X7_save (m : fm_M) : Option (Int32 × fm_M) :=
  f_X7_save_L2 fm_F (0 : Int32) m
def f_X7_restore_L12 : Nat → Int32 → fm_M → Option (Int32 × fm_M)
  | 0, _, _ => none
  | n + 1, y1, m => if (320 : Int32) ≤ y1 then (if fm_in (2 : Int32) 320 = true then (some (((fm_put (fm_put m 23 8 (0 : Int32)) 23 9 (0 : Int32)) 24 (2 : Int32).toNatClampNeg), (fm_put (fm_put m 23 8 (0 : Int32)) 23 9 (0 : Int32)))) else none) else (if fm_in y1 320 = true then (if fm_in y1 320 = true then (f_X7_restore_L12 n (y1 + (1 : Int32)) (fm_put m 24 y1.toNatClampNeg (m 26 y1.toNatClampNeg))) else none) else none)
def f_X7_restore (m : fm_M) : Option (Int32 × fm_M) :=
  if (m 23 10) = 0 then (some ((-15 : Int32), m)) else (f_X7_restore_L12 fm_F (0 : Int32) m)
