def f_P_has (S : BS) (a1 : Int32) : Int32 := (if a1 < 0 then 0 else (if S 22 0 ≤ a1 then 0 else 1))
def f_P_isFull (S : BS) : Int32 := (if S 22 0 < 16 then 0 else 1)
def l_P_withCode_2 (S : BS) (a1 : Int32) : Nat → Int32 → Int32
  | 0, _ => 0
  | n + 1, x2 => (if S 22 0 ≤ x2 then (-1) else (if S 0 x2.toNatClampNeg = a1 then x2 else l_P_withCode_2 S a1 n (x2 + 1)))
def f_P_withCode (S : BS) (a1 : Int32) : Int32 := l_P_withCode_2 S a1 600 0
def F_P_add (S : BS) (a1 : Int32) : Int32 × BS := (((S 22 0) + 1) - 1, upS 22 0 ((S 22 0) + 1) (upS 0 ((S 22 0).toNatClampNeg) a1 S))
def f_T_has (S : BS) (a1 : Int32) : Int32 := (if a1 < 0 then 0 else (if S 23 0 ≤ a1 then 0 else 1))
def f_T_isFull (S : BS) : Int32 := (if S 23 0 < 32 then 0 else 1)
def l_T_named_2 (S : BS) (a1 a2 : Int32) : Nat → Int32 → Int32
  | 0, _ => 0
  | n + 1, x3 => (if S 23 0 ≤ x3 then (-1) else (if S 1 x3.toNatClampNeg = a1 then (if S 2 x3.toNatClampNeg = a2 then x3 else l_T_named_2 S a1 a2 n (x3 + 1)) else l_T_named_2 S a1 a2 n (x3 + 1)))
def f_T_named (S : BS) (a1 a2 : Int32) : Int32 := l_T_named_2 S a1 a2 600 0
def F_T_add (S : BS) (a1 a2 : Int32) : Int32 × BS := (((S 23 0) + 1) - 1, upS 23 0 ((S 23 0) + 1) (upS 2 ((S 23 0).toNatClampNeg) a2 (upS 1 ((S 23 0).toNatClampNeg) a1 S)))
def f_T_isGone (S : BS) (a1 : Int32) : Int32 := S 3 a1.toNatClampNeg
def F_T_goInto (S : BS) (a1 a2 a3 : Int32) : BS := (upS 5 a1.toNatClampNeg a3 (upS 4 a1.toNatClampNeg a2 (upS 3 a1.toNatClampNeg 1 S)))
def l_T_meaning_5 (S : BS) (a1 a2 : Int32) : Nat → Int32 → Int32 → Int32
  | 0, _, _ => 0
  | n + 1, x3, x4 => (if S 23 0 ≤ x4 then x3 else (if S 3 x3.toNatClampNeg = 0 then x3 else (if a2 < S 5 x3.toNatClampNeg then x3 else l_T_meaning_5 S a1 a2 n (S 4 x3.toNatClampNeg) (x4 + 1))))
def f_T_meaning (S : BS) (a1 a2 : Int32) : Int32 := l_T_meaning_5 S a1 a2 600 a1 0
def f_R_has (S : BS) (a1 : Int32) : Int32 := (if a1 < 0 then 0 else (if S 24 0 ≤ a1 then 0 else 1))
def f_R_hasRoomFor (S : BS) (a1 : Int32) : Int32 := (if 80 < (S 24 0) + a1 then 0 else 1)
def f_A_isOdd (a1 : Int32) : Int32 := (if a1 &&& 1 = 1 then 1 else 0)
def f_A_isOfSide (a1 a2 : Int32) : Int32 := (if a1 = 0 then 1 else (if f_A_isOdd a2 = f_A_isOdd a1 then 1 else 0))
def f_A_lowestOf (a1 a2 : Int32) : Int32 := (if f_A_isOfSide a1 a2 = 0 then a2 + 1 else a2)
def f_A_highestOf (a1 a2 : Int32) : Int32 := (if f_A_isOfSide a1 a2 = 0 then a2 - 1 else a2)
def F_R_add (S : BS) (a1 a2 a3 a4 : Int32) : Int32 × BS := (((S 24 0) + 1) - 1, upS 24 0 ((S 24 0) + 1) (upS 10 ((S 24 0).toNatClampNeg) 1 (upS 9 ((S 24 0).toNatClampNeg) (f_A_highestOf a2 a4) (upS 8 ((S 24 0).toNatClampNeg) (f_A_lowestOf a2 a3) (upS 7 ((S 24 0).toNatClampNeg) a2 (upS 6 ((S 24 0).toNatClampNeg) a1 S))))))
def f_A_isWithin (a1 a2 a3 : Int32) : Int32 := (if a1 < a2 then 0 else (if a3 < a1 then 0 else 1))
def f_R_holds (S : BS) (a1 a2 : Int32) : Int32 := (if f_A_isWithin a2 (S 8 a1.toNatClampNeg) (S 9 a1.toNatClampNeg) = 0 then 0 else (if f_A_isOfSide (S 7 a1.toNatClampNeg) a2 = 0 then 0 else 1))
def f_R_isLiveOf (S : BS) (a1 a2 : Int32) : Int32 := (if S 10 a1.toNatClampNeg = 0 then 0 else (if S 6 a1.toNatClampNeg = a2 then 1 else 0))
def l_R_anyLiveOf_2 (S : BS) (a1 : Int32) : Nat → Int32 → Int32
  | 0, _ => 0
  | n + 1, x2 => (if S 24 0 ≤ x2 then 0 else (if f_R_isLiveOf S x2 a1 = 0 then l_R_anyLiveOf_2 S a1 n (x2 + 1) else 1))
def f_R_anyLiveOf (S : BS) (a1 : Int32) : Int32 := l_R_anyLiveOf_2 S a1 600 0
def f_R_isOver (S : BS) (a1 a2 a3 a4 : Int32) : Int32 := (if a2 = 0 then (if a2 = 0 then (if f_A_highestOf (S 7 a1.toNatClampNeg) (if S 9 a1.toNatClampNeg < a4 then S 9 a1.toNatClampNeg else a4) < f_A_lowestOf (S 7 a1.toNatClampNeg) (if a3 < S 8 a1.toNatClampNeg then S 8 a1.toNatClampNeg else a3) then 0 else 1) else (if f_A_highestOf a2 (if S 9 a1.toNatClampNeg < a4 then S 9 a1.toNatClampNeg else a4) < f_A_lowestOf a2 (if a3 < S 8 a1.toNatClampNeg then S 8 a1.toNatClampNeg else a3) then 0 else 1)) else (if S 7 a1.toNatClampNeg = 0 then (if a2 = 0 then (if f_A_highestOf (S 7 a1.toNatClampNeg) (if S 9 a1.toNatClampNeg < a4 then S 9 a1.toNatClampNeg else a4) < f_A_lowestOf (S 7 a1.toNatClampNeg) (if a3 < S 8 a1.toNatClampNeg then S 8 a1.toNatClampNeg else a3) then 0 else 1) else (if f_A_highestOf a2 (if S 9 a1.toNatClampNeg < a4 then S 9 a1.toNatClampNeg else a4) < f_A_lowestOf a2 (if a3 < S 8 a1.toNatClampNeg then S 8 a1.toNatClampNeg else a3) then 0 else 1)) else (if a2 = S 7 a1.toNatClampNeg then (if a2 = 0 then (if f_A_highestOf (S 7 a1.toNatClampNeg) (if S 9 a1.toNatClampNeg < a4 then S 9 a1.toNatClampNeg else a4) < f_A_lowestOf (S 7 a1.toNatClampNeg) (if a3 < S 8 a1.toNatClampNeg then S 8 a1.toNatClampNeg else a3) then 0 else 1) else (if f_A_highestOf a2 (if S 9 a1.toNatClampNeg < a4 then S 9 a1.toNatClampNeg else a4) < f_A_lowestOf a2 (if a3 < S 8 a1.toNatClampNeg then S 8 a1.toNatClampNeg else a3) then 0 else 1)) else 0)))
def l_R_leastOver_3 (S : BS) (a1 a2 a3 a4 : Int32) : Nat → Int32 → Int32
  | 0, _ => 0
  | n + 1, x5 => (if S 24 0 ≤ x5 then (-1) else (if f_R_isLiveOf S x5 a1 = 0 then l_R_leastOver_3 S a1 a2 a3 a4 n (x5 + 1) else (if f_R_isOver S x5 a2 a3 a4 = 0 then l_R_leastOver_3 S a1 a2 a3 a4 n (x5 + 1) else x5)))
def f_R_leastOver (S : BS) (a1 a2 a3 a4 : Int32) : Int32 := l_R_leastOver_3 S a1 a2 a3 a4 600 0
def l_R_leastOverAnyOf_2 (S : BS) (a1 a2 : Int32) : Nat → Int32 → Int32
  | 0, _ => 0
  | n + 1, x3 => (if S 24 0 ≤ x3 then (-1) else (if f_R_isLiveOf S x3 a2 = 0 then l_R_leastOverAnyOf_2 S a1 a2 n (x3 + 1) else (if f_R_leastOver S a1 (S 7 x3.toNatClampNeg) (S 8 x3.toNatClampNeg) (S 9 x3.toNatClampNeg) = (-1) then l_R_leastOverAnyOf_2 S a1 a2 n (x3 + 1) else x3)))
def f_R_leastOverAnyOf (S : BS) (a1 a2 : Int32) : Int32 := l_R_leastOverAnyOf_2 S a1 a2 600 0
def l_R_housesOf_4 (S : BS) (a1 : Int32) : Nat → Int32 → Int32 → Int32
  | 0, _, _ => 0
  | n + 1, x2, x3 => (if S 24 0 ≤ x3 then x2 else (if f_R_isLiveOf S x3 a1 = 0 then l_R_housesOf_4 S a1 n x2 (x3 + 1) else (if S 7 x3.toNatClampNeg = 0 then l_R_housesOf_4 S a1 n (x2 + (1 + ((S 9 x3.toNatClampNeg) - (S 8 x3.toNatClampNeg)))) (x3 + 1) else l_R_housesOf_4 S a1 n (x2 + (1 + (((S 9 x3.toNatClampNeg) - (S 8 x3.toNatClampNeg)) / 2))) (x3 + 1))))
def f_R_housesOf (S : BS) (a1 : Int32) : Int32 := l_R_housesOf_4 S a1 600 0 0
def l_R_moveLive_2 (a1 a2 : Int32) : Nat → BS → Int32 → BS
  | 0, Z, _ => Z
  | n + 1, Z, x3 => (if Z 24 0 ≤ x3 then (Z) else (if f_R_isLiveOf Z x3 a1 = 0 then l_R_moveLive_2 a1 a2 n Z (x3 + 1) else l_R_moveLive_2 a1 a2 n (upS 6 x3.toNatClampNeg a2 Z) (x3 + 1)))
def F_R_moveLive (S : BS) (a1 a2 : Int32) : BS := l_R_moveLive_2 a1 a2 600 S 0
def f_Q_has (S : BS) (a1 : Int32) : Int32 := (if a1 < 0 then 0 else (if S 25 0 ≤ a1 then 0 else 1))
def f_Q_isFull (S : BS) : Int32 := (if S 25 0 < 120 then 0 else 1)
def F_Q_add (S : BS) (a1 a2 a3 : Int32) : Int32 × BS := (((S 25 0) + 1) - 1, upS 25 0 ((S 25 0) + 1) (upS 15 ((S 25 0).toNatClampNeg) 1 (upS 13 ((S 25 0).toNatClampNeg) a3 (upS 12 ((S 25 0).toNatClampNeg) a2 (upS 11 ((S 25 0).toNatClampNeg) a1 S)))))
def f_Y_isFull (S : BS) : Int32 := (if S 26 0 < 512 then 0 else 1)
def F_Y_begin (S : BS) (a1 a2 a3 : Int32) : Int32 × BS := (((S 26 0) + 1) - 1, upS 26 0 ((S 26 0) + 1) (upS 19 ((S 26 0).toNatClampNeg) 1000001 (upS 18 ((S 26 0).toNatClampNeg) a3 (upS 17 ((S 26 0).toNatClampNeg) a2 (upS 16 ((S 26 0).toNatClampNeg) a1 S)))))
def F_Y_end (S : BS) (a1 a2 : Int32) : BS := (upS 19 a1.toNatClampNeg a2 S)
def f_Y_holdsOn (S : BS) (a1 a2 : Int32) : Int32 := (if a2 < S 18 a1.toNatClampNeg then 0 else (if S 19 a1.toNatClampNeg ≤ a2 then 0 else 1))
def l_Y_ofPointOn_2 (S : BS) (a1 a2 : Int32) : Nat → Int32 → Int32
  | 0, _ => 0
  | n + 1, x3 => (if S 26 0 ≤ x3 then (-1) else (if S 16 x3.toNatClampNeg = a1 then (if f_Y_holdsOn S x3 a2 = 0 then l_Y_ofPointOn_2 S a1 a2 n (x3 + 1) else x3) else l_Y_ofPointOn_2 S a1 a2 n (x3 + 1)))
def f_Y_ofPointOn (S : BS) (a1 a2 : Int32) : Int32 := l_Y_ofPointOn_2 S a1 a2 600 0
def f_Y_isLeftShortlyBefore (S : BS) (a1 a2 : Int32) : Int32 := (if S 20 a1.toNatClampNeg = 0 then 0 else (if a2 < S 19 a1.toNatClampNeg then 0 else (if 180 ≤ a2 - (S 19 a1.toNatClampNeg) then 0 else 1)))
def f_Y_isLeftLater (S : BS) (a1 a2 : Int32) : Int32 := (if S 19 a1.toNatClampNeg = S 19 a2.toNatClampNeg then (if S 16 a2.toNatClampNeg ≤ S 16 a1.toNatClampNeg then 0 else 1) else (if S 19 a1.toNatClampNeg ≤ S 19 a2.toNatClampNeg then 0 else 1))
def f_A_isName (a1 : Int32) : Int32 := f_A_isWithin a1 0 9999
def F_A_place (S : BS) (a1 a2 : Int32) : Int32 × BS := (if f_A_isWithin a1 1 99999 = 0 then ((-12), S) else (if f_A_isName a2 = 0 then ((-12), S) else (if f_P_withCode S a1 = (-1) then (if f_P_isFull S = 0 then ((F_P_add S a1).1, (F_P_add S a1).2) else ((-14), S)) else ((-13), S))))
def F_A_street (S : BS) (a1 a2 : Int32) : Int32 × BS := (if f_P_has S a1 = 0 then ((-11), S) else (if f_A_isName a2 = 0 then ((-12), S) else (if f_T_named S a1 a2 = (-1) then (if f_T_isFull S = 0 then ((F_T_add S a1 a2).1, (F_T_add S a1 a2).2) else ((-14), S)) else ((-13), S))))
def f_A_find (S : BS) (a1 a2 : Int32) : Int32 := (if f_P_withCode S a1 = (-1) then (-1) else f_T_named S (f_P_withCode S a1) a2)
def f_A_isHouse (a1 : Int32) : Int32 := f_A_isWithin a1 1 999
def f_A_isTodayOrLater (S : BS) (a1 : Int32) : Int32 := f_A_isWithin a1 (S 27 0) 1000000
def F_A_range (S : BS) (a1 a2 a3 a4 a5 : Int32) : Int32 × BS := (if f_T_has S a1 = 0 then ((-11), S) else (if f_A_isWithin a2 0 2 = 0 then ((-12), S) else (if f_A_isHouse a3 = 0 then ((-12), S) else (if f_A_isHouse a4 = 0 then ((-12), S) else (if f_A_highestOf a2 a4 < f_A_lowestOf a2 a3 then ((-12), S) else (if f_A_isTodayOrLater S a5 = 0 then ((-12), S) else (if f_T_isGone S a1 = 0 then (if f_R_hasRoomFor S 1 = 0 then ((-14), S) else (if f_R_leastOver S a1 a2 a3 a4 = (-1) then ((F_R_add (upS 27 0 a5 S) a1 a2 a3 a4).1, (F_R_add (upS 27 0 a5 S) a1 a2 a3 a4).2) else ((-200) - (f_R_leastOver S a1 a2 a3 a4), S))) else ((-13), S))))))))
def f_A_isExtra (a1 : Int32) : Int32 := f_A_isWithin a1 0 25
def f_A_houseNow (S : BS) (a1 : Int32) : Int32 := S 17 (S 14 a1.toNatClampNeg).toNatClampNeg
def l_A_isTaken_3 (S : BS) (a1 a2 a3 : Int32) : Nat → Int32 → Int32
  | 0, _ => 0
  | n + 1, x4 => (if S 25 0 ≤ x4 then 0 else (if S 15 x4.toNatClampNeg = 0 then l_A_isTaken_3 S a1 a2 a3 n (x4 + 1) else (if S 11 x4.toNatClampNeg = a1 then (if S 13 x4.toNatClampNeg = a3 then (if f_A_houseNow S x4 = a2 then 1 else l_A_isTaken_3 S a1 a2 a3 n (x4 + 1)) else l_A_isTaken_3 S a1 a2 a3 n (x4 + 1)) else l_A_isTaken_3 S a1 a2 a3 n (x4 + 1))))
def f_A_isTaken (S : BS) (a1 a2 a3 : Int32) : Int32 := l_A_isTaken_3 S a1 a2 a3 600 0
def F_A_point (S : BS) (a1 a2 a3 : Int32) : Int32 × BS := (if f_R_has S a1 = 0 then ((-11), S) else (if f_R_holds S a1 a2 = 0 then ((-12), S) else (if f_A_isExtra a3 = 0 then ((-12), S) else (if S 10 a1.toNatClampNeg = 0 then ((-13), S) else (if f_A_isTaken S a1 a2 a3 = 0 then (if f_Q_isFull S = 0 then (if f_Y_isFull S = 0 then ((F_Q_add S a1 (S 6 a1.toNatClampNeg) a3).1, upS 14 (((F_Q_add S a1 (S 6 a1.toNatClampNeg) a3).1).toNatClampNeg) ((F_Y_begin ((F_Q_add S a1 (S 6 a1.toNatClampNeg) a3).2) ((F_Q_add S a1 (S 6 a1.toNatClampNeg) a3).1) a2 (S 27 0)).1) ((F_Y_begin ((F_Q_add S a1 (S 6 a1.toNatClampNeg) a3).2) ((F_Q_add S a1 (S 6 a1.toNatClampNeg) a3).1) a2 (S 27 0)).2)) else ((-14), S)) else ((-14), S)) else ((-13), S))))))
def F_A_end (S : BS) (a1 a2 : Int32) : BS := (upS 15 a1.toNatClampNeg 0 (F_Y_end S (S 14 a1.toNatClampNeg) a2))
def l_A_close_45 (a1 a2 : Int32) : Nat → BS → Int32 → Int32 → Int32 × BS
  | 0, Z, _, _ => (0, Z)
  | n + 1, Z, x3, x4 => (if Z 25 0 ≤ x4 then (x3, upS 27 0 a2 (upS 10 a1.toNatClampNeg 0 Z)) else (if Z 15 x4.toNatClampNeg = 0 then l_A_close_45 a1 a2 n Z x3 (x4 + 1) else (if Z 11 x4.toNatClampNeg = a1 then l_A_close_45 a1 a2 n (F_A_end Z x4 a2) (x3 + 1) (x4 + 1) else l_A_close_45 a1 a2 n Z x3 (x4 + 1))))
def F_A_close (S : BS) (a1 a2 : Int32) : Int32 × BS := (if f_R_has S a1 = 0 then ((-11), S) else (if f_A_isTodayOrLater S a2 = 0 then ((-12), S) else (if S 10 a1.toNatClampNeg = 0 then ((-13), S) else l_A_close_45 a1 a2 600 S 0 0)))
def l_A_giveToParts_6 (a1 a2 a3 : Int32) : Nat → BS → Int32 → Int32 → Int32 × BS
  | 0, Z, _, _ => (0, Z)
  | n + 1, Z, x4, x5 => (if Z 25 0 ≤ x5 then (x4, Z) else (if Z 15 x5.toNatClampNeg = 0 then l_A_giveToParts_6 a1 a2 a3 n Z x4 (x5 + 1) else (if Z 11 x5.toNatClampNeg = a1 then (if f_R_holds Z a2 (f_A_houseNow Z x5) = 0 then l_A_giveToParts_6 a1 a2 a3 n (upS 11 x5.toNatClampNeg a3 Z) (x4 + 1) (x5 + 1) else l_A_giveToParts_6 a1 a2 a3 n (upS 11 x5.toNatClampNeg a2 Z) (x4 + 1) (x5 + 1)) else l_A_giveToParts_6 a1 a2 a3 n Z x4 (x5 + 1))))
def F_A_giveToParts (S : BS) (a1 a2 a3 : Int32) : Int32 × BS := l_A_giveToParts_6 a1 a2 a3 600 S 0 0
def F_A_split (S : BS) (a1 a2 a3 : Int32) : Int32 × BS := (if f_R_has S a1 = 0 then ((-11), S) else (if f_A_isTodayOrLater S a3 = 0 then ((-12), S) else (if a2 ≤ S 8 a1.toNatClampNeg then ((-12), S) else (if a2 ≤ S 9 a1.toNatClampNeg then (if S 10 a1.toNatClampNeg = 0 then ((-13), S) else (if f_R_hasRoomFor S 2 = 0 then ((-14), S) else ((F_A_giveToParts (upS 27 0 a3 (upS 10 a1.toNatClampNeg 0 ((F_R_add ((F_R_add S (S 6 a1.toNatClampNeg) (S 7 a1.toNatClampNeg) (S 8 a1.toNatClampNeg) (a2 - 1)).2) (S 6 a1.toNatClampNeg) (S 7 a1.toNatClampNeg) a2 (((F_R_add S (S 6 a1.toNatClampNeg) (S 7 a1.toNatClampNeg) (S 8 a1.toNatClampNeg) (a2 - 1)).2) 9 a1.toNatClampNeg)).2))) a1 ((F_R_add S (S 6 a1.toNatClampNeg) (S 7 a1.toNatClampNeg) (S 8 a1.toNatClampNeg) (a2 - 1)).1) ((F_R_add ((F_R_add S (S 6 a1.toNatClampNeg) (S 7 a1.toNatClampNeg) (S 8 a1.toNatClampNeg) (a2 - 1)).2) (S 6 a1.toNatClampNeg) (S 7 a1.toNatClampNeg) a2 (((F_R_add S (S 6 a1.toNatClampNeg) (S 7 a1.toNatClampNeg) (S 8 a1.toNatClampNeg) (a2 - 1)).2) 9 a1.toNatClampNeg)).1)).1, (F_A_giveToParts (upS 27 0 a3 (upS 10 a1.toNatClampNeg 0 ((F_R_add ((F_R_add S (S 6 a1.toNatClampNeg) (S 7 a1.toNatClampNeg) (S 8 a1.toNatClampNeg) (a2 - 1)).2) (S 6 a1.toNatClampNeg) (S 7 a1.toNatClampNeg) a2 (((F_R_add S (S 6 a1.toNatClampNeg) (S 7 a1.toNatClampNeg) (S 8 a1.toNatClampNeg) (a2 - 1)).2) 9 a1.toNatClampNeg)).2))) a1 ((F_R_add S (S 6 a1.toNatClampNeg) (S 7 a1.toNatClampNeg) (S 8 a1.toNatClampNeg) (a2 - 1)).1) ((F_R_add ((F_R_add S (S 6 a1.toNatClampNeg) (S 7 a1.toNatClampNeg) (S 8 a1.toNatClampNeg) (a2 - 1)).2) (S 6 a1.toNatClampNeg) (S 7 a1.toNatClampNeg) a2 (((F_R_add S (S 6 a1.toNatClampNeg) (S 7 a1.toNatClampNeg) (S 8 a1.toNatClampNeg) (a2 - 1)).2) 9 a1.toNatClampNeg)).1)).2))) else ((-12), S)))))
def f_A_isLiveOf (S : BS) (a1 a2 : Int32) : Int32 := (if S 15 a1.toNatClampNeg = 0 then 0 else (if S 6 (S 11 a1.toNatClampNeg).toNatClampNeg = a2 then 1 else 0))
def l_A_howManyLiveOf_4 (S : BS) (a1 : Int32) : Nat → Int32 → Int32 → Int32
  | 0, _, _ => 0
  | n + 1, x2, x3 => (if S 25 0 ≤ x3 then x2 else (if f_A_isLiveOf S x3 a1 = 0 then l_A_howManyLiveOf_4 S a1 n x2 (x3 + 1) else l_A_howManyLiveOf_4 S a1 n (x2 + 1) (x3 + 1)))
def f_A_howManyLiveOf (S : BS) (a1 : Int32) : Int32 := l_A_howManyLiveOf_4 S a1 600 0 0
def F_A_join (S : BS) (a1 a2 a3 : Int32) : Int32 × BS := (if f_T_has S a1 = 0 then ((-11), S) else (if f_T_has S a2 = 0 then ((-11), S) else (if f_A_isTodayOrLater S a3 = 0 then ((-12), S) else (if a1 = a2 then ((-13), S) else (if f_T_isGone S a1 = 0 then (if f_T_isGone S a2 = 0 then (if f_R_leastOverAnyOf S a1 a2 = (-1) then (f_A_howManyLiveOf S a1, upS 27 0 a3 (F_T_goInto (F_R_moveLive S a1 a2) a1 a2 a3)) else ((-200) - (f_R_leastOverAnyOf S a1 a2), S)) else ((-13), S)) else ((-13), S))))))
def F_A_renumber (S : BS) (a1 a2 a3 : Int32) : Int32 × BS := (if f_Q_has S a1 = 0 then ((-11), S) else (if f_A_isTodayOrLater S a3 = 0 then ((-12), S) else (if f_R_holds S (S 11 a1.toNatClampNeg) a2 = 0 then ((-12), S) else (if S 15 a1.toNatClampNeg = 0 then ((-13), S) else (if f_A_isTaken S (S 11 a1.toNatClampNeg) a2 (S 13 a1.toNatClampNeg) = 0 then (if f_Y_isFull S = 0 then (1, upS 27 0 a3 (upS 14 a1.toNatClampNeg ((F_Y_begin (upS 20 ((S 14 a1.toNatClampNeg).toNatClampNeg) 1 (F_Y_end S (S 14 a1.toNatClampNeg) a3)) a1 a2 a3).1) ((F_Y_begin (upS 20 ((S 14 a1.toNatClampNeg).toNatClampNeg) 1 (F_Y_end S (S 14 a1.toNatClampNeg) a3)) a1 a2 a3).2))) else ((-14), S)) else ((-13), S))))))
def F_A_remove (S : BS) (a1 a2 : Int32) : Int32 × BS := (if f_Q_has S a1 = 0 then ((-11), S) else (if f_A_isTodayOrLater S a2 = 0 then ((-12), S) else (if S 15 a1.toNatClampNeg = 0 then ((-13), S) else (1, upS 27 0 a2 (F_A_end S a1 a2)))))
def F_A_change (S : BS) (a1 a2 a3 a4 : Int32) : Int32 × BS := (if a1 = 0 then ((F_A_close S a2 a4).1, (F_A_close S a2 a4).2) else (if a1 = 1 then ((F_A_split S a2 a3 a4).1, (F_A_split S a2 a3 a4).2) else (if a1 = 2 then ((F_A_join S a2 a3 a4).1, (F_A_join S a2 a3 a4).2) else (if a1 = 3 then ((F_A_renumber S a2 a3 a4).1, (F_A_renumber S a2 a3 a4).2) else (if a1 = 4 then ((F_A_remove S a2 a4).1, (F_A_remove S a2 a4).2) else ((-12), S))))))
def F_A_alias (S : BS) (a1 a2 a3 : Int32) : Int32 × BS := (if f_T_has S a1 = 0 then ((-11), S) else (if f_T_has S a2 = 0 then ((-11), S) else (if f_A_isTodayOrLater S a3 = 0 then ((-12), S) else (if f_T_isGone S a1 = 0 then (if f_R_anyLiveOf S a1 = 0 then (if f_T_meaning S a2 a3 = a1 then (0, S) else (1, upS 27 0 a3 (F_T_goInto S a1 a2 a3))) else ((-13), S)) else ((-13), S)))))
def f_A_isDay (a1 : Int32) : Int32 := f_A_isWithin a1 0 1000000
def f_A_isStayAt (S : BS) (a1 a2 a3 a4 a5 : Int32) : Int32 := (if S 17 a1.toNatClampNeg = a3 then (if S 13 (S 16 a1.toNatClampNeg).toNatClampNeg = a4 then (if f_T_meaning S (S 12 (S 16 a1.toNatClampNeg).toNatClampNeg) a5 = a2 then 1 else 0) else 0) else 0)
def l_A_lyingAt_3 (S : BS) (a1 a2 a3 a4 : Int32) : Nat → Int32 → Int32
  | 0, _ => 0
  | n + 1, x5 => (if S 26 0 ≤ x5 then (-1) else (if f_Y_holdsOn S x5 a4 = 0 then l_A_lyingAt_3 S a1 a2 a3 a4 n (x5 + 1) else (if f_A_isStayAt S x5 a1 a2 a3 a4 = 0 then l_A_lyingAt_3 S a1 a2 a3 a4 n (x5 + 1) else S 16 x5.toNatClampNeg)))
def f_A_lyingAt (S : BS) (a1 a2 a3 a4 : Int32) : Int32 := l_A_lyingAt_3 S a1 a2 a3 a4 600 0
def l_A_lastToLeave_6 (S : BS) (a1 a2 a3 a4 : Int32) : Nat → Int32 → Int32 → Int32
  | 0, _, _ => 0
  | n + 1, x5, x6 => (if S 26 0 ≤ x6 then (if x5 = (-1) then (-1) else S 16 x5.toNatClampNeg) else (if f_Y_isLeftShortlyBefore S x6 a4 = 0 then l_A_lastToLeave_6 S a1 a2 a3 a4 n x5 (x6 + 1) else (if f_A_isStayAt S x6 a1 a2 a3 a4 = 0 then l_A_lastToLeave_6 S a1 a2 a3 a4 n x5 (x6 + 1) else (if x5 = (-1) then l_A_lastToLeave_6 S a1 a2 a3 a4 n x6 (x6 + 1) else (if f_Y_isLeftLater S x6 x5 = 0 then l_A_lastToLeave_6 S a1 a2 a3 a4 n x5 (x6 + 1) else l_A_lastToLeave_6 S a1 a2 a3 a4 n x6 (x6 + 1))))))
def f_A_lastToLeave (S : BS) (a1 a2 a3 a4 : Int32) : Int32 := l_A_lastToLeave_6 S a1 a2 a3 a4 600 (-1) 0
def f_A_at (S : BS) (a1 a2 a3 a4 : Int32) : Int32 := (if f_T_has S a1 = 0 then (-11) else (if f_A_isHouse a2 = 0 then (-12) else (if f_A_isExtra a3 = 0 then (-12) else (if f_A_isDay a4 = 0 then (-12) else (if f_A_lyingAt S (f_T_meaning S a1 a4) a2 a3 a4 = (-1) then f_A_lastToLeave S (f_T_meaning S a1 a4) a2 a3 a4 else f_A_lyingAt S (f_T_meaning S a1 a4) a2 a3 a4)))))
def f_A_isNearer (S : BS) (a1 a2 a3 : Int32) : Int32 := (if (if 0 ≤ (f_A_houseNow S a1) - a3 then (f_A_houseNow S a1) - a3 else 0 - ((f_A_houseNow S a1) - a3)) = (if 0 ≤ (f_A_houseNow S a2) - a3 then (f_A_houseNow S a2) - a3 else 0 - ((f_A_houseNow S a2) - a3)) then (if f_A_houseNow S a1 = f_A_houseNow S a2 then (if S 13 a2.toNatClampNeg ≤ S 13 a1.toNatClampNeg then 0 else 1) else (if f_A_houseNow S a2 ≤ f_A_houseNow S a1 then 0 else 1)) else (if (if 0 ≤ (f_A_houseNow S a2) - a3 then (f_A_houseNow S a2) - a3 else 0 - ((f_A_houseNow S a2) - a3)) ≤ (if 0 ≤ (f_A_houseNow S a1) - a3 then (f_A_houseNow S a1) - a3 else 0 - ((f_A_houseNow S a1) - a3)) then 0 else 1))
def l_A_near_43 (S : BS) (a1 a2 : Int32) : Nat → Int32 → Int32 → Int32
  | 0, _, _ => 0
  | n + 1, x4, x5 => (if S 25 0 ≤ x5 then x4 else (if f_A_isLiveOf S x5 (f_T_meaning S a1 (S 27 0)) = 0 then l_A_near_43 S a1 a2 n x4 (x5 + 1) else (if x4 = (-1) then l_A_near_43 S a1 a2 n x5 (x5 + 1) else (if f_A_isNearer S x5 x4 a2 = 0 then l_A_near_43 S a1 a2 n x4 (x5 + 1) else l_A_near_43 S a1 a2 n x5 (x5 + 1)))))
def f_A_near (S : BS) (a1 a2 : Int32) : Int32 := (if f_T_has S a1 = 0 then (-11) else (if f_A_isHouse a2 = 0 then (-12) else l_A_near_43 S a1 a2 600 (-1) 0))
def f_A_isEarlierOnRound (S : BS) (a1 a2 : Int32) : Int32 := (if f_A_houseNow S a1 = f_A_houseNow S a2 then (if S 13 a2.toNatClampNeg ≤ S 13 a1.toNatClampNeg then 0 else 1) else (if f_A_isOdd (f_A_houseNow S a1) = f_A_isOdd (f_A_houseNow S a2) then (if f_A_isOdd (f_A_houseNow S a1) = 0 then (if f_A_houseNow S a1 ≤ f_A_houseNow S a2 then 0 else 1) else (if f_A_houseNow S a2 ≤ f_A_houseNow S a1 then 0 else 1)) else f_A_isOdd (f_A_houseNow S a1)))
def l_A_order_52 (S : BS) (a1 : Int32) : Nat → Int32 → Int32 → Int32
  | 0, _, _ => 0
  | n + 1, x3, x4 => (if S 25 0 ≤ x4 then x3 else (if f_A_isLiveOf S x4 (S 6 (S 11 a1.toNatClampNeg).toNatClampNeg) = 0 then l_A_order_52 S a1 n x3 (x4 + 1) else (if f_A_isEarlierOnRound S x4 a1 = 0 then l_A_order_52 S a1 n x3 (x4 + 1) else l_A_order_52 S a1 n (x3 + 1) (x4 + 1))))
def f_A_order (S : BS) (a1 : Int32) : Int32 := (if f_Q_has S a1 = 0 then (-11) else (if S 15 a1.toNatClampNeg = 0 then (-13) else l_A_order_52 S a1 600 0 0))
def l_A_housesWithPoint_59 (a1 : Int32) : Nat → BS → Int32 → Int32 → Int32 × BS
  | 0, Z, _, _ => (0, Z)
  | n + 1, Z, x2, x3 => (if Z 25 0 ≤ x3 then (x2, Z) else l_A_housesWithPoint_59 a1 n (upS 21 ((f_A_houseNow Z x3).toNatClampNeg) 0 Z) x2 (x3 + 1))
def l_A_housesWithPoint_4 (a1 : Int32) : Nat → BS → Int32 → Int32 → Int32 × BS
  | 0, Z, _, _ => (0, Z)
  | n + 1, Z, x2, x3 => (if Z 25 0 ≤ x3 then l_A_housesWithPoint_59 a1 600 Z x2 0 else (if f_A_isLiveOf Z x3 a1 = 0 then l_A_housesWithPoint_4 a1 n Z x2 (x3 + 1) else (if Z 21 (f_A_houseNow Z x3).toNatClampNeg = 0 then l_A_housesWithPoint_4 a1 n (upS 21 ((f_A_houseNow Z x3).toNatClampNeg) 1 Z) (x2 + 1) (x3 + 1) else l_A_housesWithPoint_4 a1 n Z x2 (x3 + 1))))
def F_A_housesWithPoint (S : BS) (a1 : Int32) : Int32 × BS := l_A_housesWithPoint_4 a1 600 S 0 0
def F_A_holes (S : BS) (a1 : Int32) : Int32 × BS := (if f_T_has S a1 = 0 then ((-11), S) else ((f_R_housesOf S (f_T_meaning S a1 (S 27 0))) - ((F_A_housesWithPoint S (f_T_meaning S a1 (S 27 0))).1), (F_A_housesWithPoint S (f_T_meaning S a1 (S 27 0))).2))
def f_A_where (S : BS) (a1 a2 a3 : Int32) : Int32 := (if f_Q_has S a1 = 0 then (-11) else (if f_A_isWithin a2 0 3 = 0 then (-12) else (if f_A_isDay a3 = 0 then (-12) else (if a2 = 2 then S 13 a1.toNatClampNeg else (if a2 = 3 then S 11 a1.toNatClampNeg else (if f_Y_ofPointOn S a1 a3 = (-1) then (-1) else (if a2 = 1 then S 17 (f_Y_ofPointOn S a1 a3).toNatClampNeg else f_T_meaning S (S 12 a1.toNatClampNeg) a3)))))))
def l_A_howManyTrue_10_4 (S : BS) : Nat → Int32 → Int32 → Int32
  | 0, _, _ => 0
  | n + 1, x1, x2 => (if 80 ≤ x2 then x1 else (if S 10 x2.toNatClampNeg = 0 then l_A_howManyTrue_10_4 S n x1 (x2 + 1) else l_A_howManyTrue_10_4 S n (x1 + 1) (x2 + 1)))
def f_A_howManyTrue_10 (S : BS) : Int32 := l_A_howManyTrue_10_4 S 600 0 0
def l_A_howManyTrue_15_4 (S : BS) : Nat → Int32 → Int32 → Int32
  | 0, _, _ => 0
  | n + 1, x1, x2 => (if 120 ≤ x2 then x1 else (if S 15 x2.toNatClampNeg = 0 then l_A_howManyTrue_15_4 S n x1 (x2 + 1) else l_A_howManyTrue_15_4 S n (x1 + 1) (x2 + 1)))
def f_A_howManyTrue_15 (S : BS) : Int32 := l_A_howManyTrue_15_4 S 600 0 0
def f_A_count (S : BS) (a1 : Int32) : Int32 := (if a1 = 0 then S 22 0 else (if a1 = 1 then S 23 0 else (if a1 = 2 then f_A_howManyTrue_10 S else (if a1 = 3 then f_A_howManyTrue_15 S else (if a1 = 4 then S 27 0 else (-12))))))
